def lawA (s : State) : Nat → Prop := fun q => s.heap.size ≤ q
theorem law_E {p : Program} {s : State} {m : MethodId} {meth : Method} {c : Code} {b L : Nat} {xs : Nat → Int32} (C0 : lw_At p s m meth c b L xs) : CallFix p m c cL_law 4 s #[Value.ref b] wsL_law RL :=
  ⟨C0.1, C0.2.1, C0.2.2.2.1, C0.2.2.2.2.1, fun w h => C0.2.2.2.2.2.1 w (wsL_law_in w h)⟩
theorem k_permT {s : State} {A : Nat → Prop} {D : va_G} {ws : va_W} {tys : List (ClassId × FieldType)} {H : Heap} {locs : List Loc} {ws' : va_W} {tys' : List (ClassId × FieldType)} (h : KS D A ws tys s H locs) (is ts : List Nat) (hn : va_nd is = true) (h1 : is.filterMap (fun i => ws[i]?) = ws') (h2 : is.map (fun i => ws[i]?) = ws'.map some) (h3 : ts.filterMap (fun i => tys[i]?) = tys') : KS D A ws' tys' s H locs :=
  ⟨h.1.sub ts h3, h.2.1.sub is h1, h.2.2.1.sub is hn h2, h.2.2.2⟩
theorem IN_rst {w : Nat → Int32} {f f' k : Nat → Int64} {c : Prop} [Decidable c] (hw : IW w) (hf : IN f) (hk : IN k) (e : f' = if c then f else (fun j => if j < 8 then kcut (w j) (k j) else k j)) : IN f' := by
  by_cases h : c
  · rw [if_pos h] at e
    rw [e]
    exact hf
  · rw [if_neg h] at e
    rw [e]
    intro j hj
    simp only
    split
    · rename_i h8
      exact kcut_in _ (hw j h8).1 (hw j h8).2
    · exact hk j hj
theorem IN_rst7 {w : Nat → Int32} {f f' k : Nat → Int64} {c : Prop} [Decidable c] (hw : IW w) (hf : IN f) (e : f' = if c then f else (fun j => kput w (nI j) (k j))) : IN f' := by
  by_cases h : c
  · rw [if_pos h] at e
    rw [e]
    exact hf
  · rw [if_neg h] at e
    rw [e]
    exact IN_kput hw
theorem j_upd2 {f g F G : Nat → Int32} {c c' : Prop} [Decidable c] [Decidable c'] {k k' n : Nat} {x x' : Int32} (hcc : c ↔ c') (hk : c → k = k' ∧ x = x') (eF : F = if c then upd f k x else f) (eG : G = if c' then upd g k' x' else g) (h : ∀ j, j < n → f j = g j) : ∀ j, j < n → F j = G j := by
  intro j hj
  rw [eF, eG]
  by_cases hc : c
  · obtain ⟨e1, e2⟩ := hk hc
    rw [if_pos hc, if_pos (hcc.mp hc), e1, e2]
    unfold upd
    split
    · rfl
    · exact h j hj
  · rw [if_neg hc, if_neg (fun z => hc (hcc.mpr z))]
    exact h j hj
theorem j_len {v v' u u' p0 p1 : Int32} {c : Prop} [Decidable c] (h : v = u) (e1 : v' = if c then p1 else v) (e2 : u' = if c then p1 else u) : v' = u' := by rw [e1, e2, h]
theorem v_lay {v v' x y : Int32} (h : -1 ≤ v.toInt ∧ v.toInt ≤ 64) (e : v' = if (0 ≤ y.toInt ∧ (0 ≤ x.toInt ∧ x.toInt + y.toInt ≤ 64)) then y else v) : -1 ≤ v'.toInt ∧ v'.toInt ≤ 64 := by
  rw [e]
  split
  · omega
  · exact h
theorem bus_j {x vC vR : Int32} {b bC bR : Nat} (hb : 1 ≤ b ∧ b ≤ 3) (hC : 1 ≤ bC ∧ bC ≤ 3) (hR : 1 ≤ bR ∧ bR ≤ 3) (e1 : nI bC = if (1 ≤ x.toInt ∧ x.toInt ≤ 3) then x else nI b) (e2 : nI bR = if (1 ≤ x.toInt ∧ x.toInt ≤ 3) then x else nI b) : bC = bR := (nI_eq (by omega) (by omega)).mp (e1.trans e2.symm)
/-- what holds between two calls of the law -/
def LInv (dC : Nat → ClassId) (dI : Nat → Nat → Nat) (A : Nat → Prop) (s : State) (o7 : Nat) (o8 : Nat) (al7 : Nat → Nat) (ka7 : Nat → ClassId) (o2 : Nat) (al2 : Nat → Nat) (ka2 : Nat → ClassId) (o5 : Nat) (al5 : Nat → Nat) (ka5 : Nat → ClassId) (o3 : Nat) (al3 : Nat → Nat) (ka3 : Nat → ClassId) (o6 : Nat) (al6 : Nat → Nat) (ka6 : Nat → ClassId) (o4 : Nat) (al4 : Nat → Nat) (ka4 : Nat → ClassId) (o1 : Nat) (al1 : Nat → Nat) (ka1 : Nat → ClassId) (o0 : Nat) (al0 : Nat → Nat) (ka0 : Nat → ClassId) (al8 : Nat → Nat) (ka8 : Nat → ClassId) (H : Heap) (locs : List Loc) : Prop := ∃ (v7_8 : Int32) (v7_9 : Int32) (v7_10 : Int32) (v7_12 : Int32) (v7_14 : Int32) (f7_6 : Nat → Int32) (f7_7 : Nat → Int32) (f7_11 : Nat → Int64) (f7_13 : Nat → Int32) (f7_15 : Nat → Int32) (v2_4 : Int32) (f2_0 : Nat → Int32) (f2_1 : Nat → Int64) (f2_2 : Nat → Int32) (f2_3 : Nat → Int64) (f5_0 : Nat → Int32) (f5_1 : Nat → Int32) (f5_2 : Nat → Int32) (f5_3 : Nat → Int32) (f5_4 : Nat → Int32) (f5_5 : Nat → Int32) (f5_6 : Nat → Int32) (bsC : Nat) (f3_0 : Nat → Int32) (f3_1 : Nat → Int32) (f3_2 : Nat → Int32) (aO : Nat → Nat) (v6_8 : Int32) (v6_9 : Int32) (cH : Nat → Nat) (f6_2 : Nat → Int32) (f6_3 : Nat → Int32) (f6_4 : Nat → Int32) (f6_5 : Nat → Int32) (f6_6 : Nat → Int32) (tF : Nat → Nat) (v4_0 : Int32) (v4_1 : Int32) (ow : Nat → Nat) (sA : Nat → Nat) (f4_4 : Nat → Int32) (f4_5 : Nat → Int32) (f4_6 : Nat → Int32) (v1_1 : Int32) (v1_2 : Int32) (v1_3 : Int32) (f1_0 : Nat → Int32) (sS : Nat → Nat) (f1_5 : Nat → Int32) (dF : Nat → Nat) (f1_7 : Nat → Int32) (f1_8 : Nat → Int32) (f1_9 : Nat → Int32) (v0_0 : Int32) (v0_1 : Int32) (v0_2 : Int32) (v0_8 : Int32) (f0_6 : Nat → Int32) (f0_7 : Nat → Int64) (f0_9 : Nat → Int64) (v8_6 : Int32) (bsR : Nat) (lenR : Nat) (v8_26 : Int32) (gR : Nat) (v8_33 : Int32) (v8_34 : Int32) (v8_35 : Int32) (v8_38 : Int32) (v8_39 : Int32) (v8_40 : Int32) (v8_43 : Int32) (f8_0 : Nat → Int64) (f8_1 : Nat → Int64) (f8_2 : Nat → Int64) (f8_3 : Nat → Int64) (f8_4 : Nat → Int64) (f8_5 : Nat → Int32) (f8_7 : Nat → Int32) (f8_8 : Nat → Int32) (f8_9 : Nat → Int32) (f8_10 : Nat → Int32) (f8_11 : Nat → Int32) (f8_13 : Nat → Int32) (fW : Nat → Nat) (wD : Nat → Nat) (f8_16 : Nat → Int32) (eE : Nat → Nat) (eB : Nat → Nat) (f8_19 : Nat → Int32) (pR : Nat → Nat) (f8_21 : Nat → Int32) (f8_22 : Nat → Int32) (f8_23 : Nat → Int32) (f8_24 : Nat → Int32) (f8_27 : Nat → Int32) (dR : Nat → Nat) (f8_29 : Nat → Int32) (f8_30 : Nat → Int32) (gA : Nat → Nat) (f8_36 : Nat → Int64) (f8_37 : Nat → Int32) (f8_41 : Nat → Int32) (f8_42 : Nat → Int32), KS (dC, dI) A [(o7, .inr (7, [.ref o2, .ref o5, .ref o3, .ref o4, .ref o1, .ref o0, .ref (al7 0), .ref (al7 1), .int v7_8, .int v7_9, .int v7_10, .ref (al7 2), .int v7_12, .ref (al7 3), .int v7_14, .ref (al7 4)])), ((al7 0), .inl ((ka7 0), 3, .inl f7_6)), ((al7 1), .inl ((ka7 1), 16, .inl f7_7)), ((al7 2), .inl ((ka7 2), 74, .inr (.inl f7_11))), ((al7 3), .inl ((ka7 3), 64, .inl f7_13)), ((al7 4), .inl ((ka7 4), 8, .inl f7_15)), (o2, .inr (2, [.ref (al2 0), .ref (al2 1), .ref (al2 2), .ref (al2 3), .int v2_4])), ((al2 0), .inl ((ka2 0), 8, .inl f2_0)), ((al2 1), .inl ((ka2 1), 74, .inr (.inl f2_1))), ((al2 2), .inl ((ka2 2), 30, .inl f2_2)), ((al2 3), .inl ((ka2 3), 30, .inr (.inl f2_3))), (o5, .inr (5, [.ref (al5 0), .ref (al5 1), .ref (al5 2), .ref (al5 3), .ref (al5 4), .ref (al5 5), .ref (al5 6)])), ((al5 0), .inl ((ka5 0), 12, .inl f5_0)), ((al5 1), .inl ((ka5 1), 120, .inl f5_1)), ((al5 2), .inl ((ka5 2), 120, .inl f5_2)), ((al5 3), .inl ((ka5 3), 120, .inl f5_3)), ((al5 4), .inl ((ka5 4), 120, .inl f5_4)), ((al5 5), .inl ((ka5 5), 120, .inl f5_5)), ((al5 6), .inl ((ka5 6), 120, .inl f5_6)), (o3, .inr (3, [.ref (al3 0), .ref (al3 1), .ref (al3 2), .ref (al3 3), .int (nI bsC), .ref o5, .ref o6])), ((al3 0), .inl ((ka3 0), 12, .inl f3_0)), ((al3 1), .inl ((ka3 1), 12, .inl f3_1)), ((al3 2), .inl ((ka3 2), 120, .inl f3_2)), ((al3 3), .inl ((ka3 3), 120, .inl (fun j => nI (aO j)))), (o6, .inr (6, [.ref (al6 0), .ref o5, .ref (al6 1), .ref (al6 2), .ref (al6 3), .ref (al6 4), .ref (al6 5), .ref (al6 6), .int v6_8, .int v6_9])), ((al6 0), .inl ((ka6 0), 10, .inl (fun j => nI (cH j)))), ((al6 1), .inl ((ka6 1), 10, .inl f6_2)), ((al6 2), .inl ((ka6 2), 10, .inl f6_3)), ((al6 3), .inl ((ka6 3), 10, .inl f6_4)), ((al6 4), .inl ((ka6 4), 5, .inl f6_5)), ((al6 5), .inl ((ka6 5), 5, .inl f6_6)), ((al6 6), .inl ((ka6 6), 1024, .inl (fun j => nI (tF j)))), (o4, .inr (4, [.int v4_0, .int v4_1, .ref (al4 0), .ref (al4 1), .ref (al4 2), .ref (al4 3), .ref (al4 4), .ref o5, .ref o3])), ((al4 0), .inl ((ka4 0), 120, .inl (fun j => nI (ow j)))), ((al4 1), .inl ((ka4 1), 120, .inl (fun j => nI (sA j)))), ((al4 2), .inl ((ka4 2), 120, .inl f4_4)), ((al4 3), .inl ((ka4 3), 120, .inl f4_5)), ((al4 4), .inl ((ka4 4), 120, .inl f4_6)), (o1, .inr (1, [.ref (al1 0), .int v1_1, .int v1_2, .int v1_3, .ref (al1 1), .ref (al1 2), .ref (al1 3), .ref (al1 4), .ref (al1 5), .ref (al1 6), .ref o5, .ref o4])), ((al1 0), .inl ((ka1 0), 7, .inl f1_0)), ((al1 1), .inl ((ka1 1), 120, .inl (fun j => nI (sS j)))), ((al1 2), .inl ((ka1 2), 120, .inl f1_5)), ((al1 3), .inl ((ka1 3), 7, .inl (fun j => nI (dF j)))), ((al1 4), .inl ((ka1 4), 7, .inl f1_7)), ((al1 5), .inl ((ka1 5), 7, .inl f1_8)), ((al1 6), .inl ((ka1 6), 7, .inl f1_9)), (o0, .inr (0, [.int v0_0, .int v0_1, .int v0_2, .ref o2, .ref o5, .ref o3, .ref (al0 0), .ref (al0 1), .int v0_8, .ref (al0 2)])), ((al0 0), .inl ((ka0 0), 30, .inl f0_6)), ((al0 1), .inl ((ka0 1), 30, .inr (.inl f0_7))), ((al0 2), .inl ((ka0 2), 74, .inr (.inl f0_9))), (o8, .inr (8, [.ref (al8 0), .ref (al8 1), .ref (al8 2), .ref (al8 3), .ref (al8 4), .ref (al8 5), .int v8_6, .ref (al8 6), .ref (al8 7), .ref (al8 8), .ref (al8 9), .ref (al8 10), .int (nI bsR), .ref (al8 11), .ref (al8 12), .ref (al8 13), .ref (al8 14), .ref (al8 15), .ref (al8 16), .ref (al8 17), .ref (al8 18), .ref (al8 19), .ref (al8 20), .ref (al8 21), .ref (al8 22), .int (nI lenR), .int v8_26, .ref (al8 23), .ref (al8 24), .ref (al8 25), .ref (al8 26), .ref (al8 27), .int (nI gR), .int v8_33, .int v8_34, .int v8_35, .ref (al8 28), .ref (al8 29), .int v8_38, .int v8_39, .int v8_40, .ref (al8 30), .ref (al8 31), .int v8_43])), ((al8 0), .inl ((ka8 0), 74, .inr (.inl f8_0))), ((al8 1), .inl ((ka8 1), 74, .inr (.inl f8_1))), ((al8 2), .inl ((ka8 2), 74, .inr (.inl f8_2))), ((al8 3), .inl ((ka8 3), 74, .inr (.inl f8_3))), ((al8 4), .inl ((ka8 4), 74, .inr (.inl f8_4))), ((al8 5), .inl ((ka8 5), 8, .inl f8_5)), ((al8 6), .inl ((ka8 6), 120, .inl f8_7)), ((al8 7), .inl ((ka8 7), 120, .inl f8_8)), ((al8 8), .inl ((ka8 8), 120, .inl f8_9)), ((al8 9), .inl ((ka8 9), 120, .inl f8_10)), ((al8 10), .inl ((ka8 10), 12, .inl f8_11)), ((al8 11), .inl ((ka8 11), 8, .inl f8_13)), ((al8 12), .inl ((ka8 12), 1024, .inl (fun j => nI (fW j)))), ((al8 13), .inl ((ka8 13), 120, .inl (fun j => nI (wD j)))), ((al8 14), .inl ((ka8 14), 12, .inl f8_16)), ((al8 15), .inl ((ka8 15), 10, .inl (fun j => nI (eE j)))), ((al8 16), .inl ((ka8 16), 10, .inl (fun j => nI (eB j)))), ((al8 17), .inl ((ka8 17), 12, .inl f8_19)), ((al8 18), .inl ((ka8 18), 120, .inl (fun j => nI (pR j)))), ((al8 19), .inl ((ka8 19), 120, .inl f8_21)), ((al8 20), .inl ((ka8 20), 120, .inl f8_22)), ((al8 21), .inl ((ka8 21), 120, .inl f8_23)), ((al8 22), .inl ((ka8 22), 120, .inl f8_24)), ((al8 23), .inl ((ka8 23), 840, .inl f8_27)), ((al8 24), .inl ((ka8 24), 7, .inl (fun j => nI (dR j)))), ((al8 25), .inl ((ka8 25), 7, .inl f8_29)), ((al8 26), .inl ((ka8 26), 7, .inl f8_30)), ((al8 27), .inl ((ka8 27), 7, .inl (fun j => nI (gA j)))), ((al8 28), .inl ((ka8 28), 74, .inr (.inl f8_36))), ((al8 29), .inl ((ka8 29), 16, .inl f8_37)), ((al8 30), .inl ((ka8 30), 64, .inl f8_41)), ((al8 31), .inl ((ka8 31), 64, .inl f8_42))] [((ka7 0), .int), ((ka7 1), .int), ((ka7 2), .long), ((ka7 3), .short), ((ka7 4), .int), ((ka2 0), .int), ((ka2 1), .long), ((ka2 2), .int), ((ka2 3), .long), ((ka5 0), .int), ((ka5 1), .int), ((ka5 2), .int), ((ka5 3), .int), ((ka5 4), .int), ((ka5 5), .int), ((ka5 6), .int), ((ka3 0), .boolean), ((ka3 1), .int), ((ka3 2), .int), ((ka3 3), .int), ((ka6 0), .int), ((ka6 1), .int), ((ka6 2), .int), ((ka6 3), .int), ((ka6 4), .int), ((ka6 5), .int), ((ka6 6), .byte), ((ka4 0), .int), ((ka4 1), .int), ((ka4 2), .int), ((ka4 3), .int), ((ka4 4), .int), ((ka1 0), .int), ((ka1 1), .int), ((ka1 2), .int), ((ka1 3), .int), ((ka1 4), .int), ((ka1 5), .int), ((ka1 6), .int), ((ka0 0), .int), ((ka0 1), .long), ((ka0 2), .long), ((ka8 0), .long), ((ka8 1), .long), ((ka8 2), .long), ((ka8 3), .long), ((ka8 4), .long), ((ka8 5), .int), ((ka8 6), .int), ((ka8 7), .int), ((ka8 8), .int), ((ka8 9), .int), ((ka8 10), .int), ((ka8 11), .int), ((ka8 12), .int), ((ka8 13), .int), ((ka8 14), .int), ((ka8 15), .int), ((ka8 16), .int), ((ka8 17), .boolean), ((ka8 18), .int), ((ka8 19), .int), ((ka8 20), .int), ((ka8 21), .int), ((ka8 22), .int), ((ka8 23), .int), ((ka8 24), .int), ((ka8 25), .int), ((ka8 26), .int), ((ka8 27), .int), ((ka8 28), .long), ((ka8 29), .int), ((ka8 30), .int), ((ka8 31), .int)] s H locs ∧ (IW f2_0) ∧ (IN f2_1) ∧ (IP f2_2) ∧ (IO f2_3) ∧ (0 ≤ v2_4.toInt ∧ v2_4.toInt ≤ 30) ∧ (IR f5_1 f5_2 f5_3 f5_4) ∧ (IL f5_0) ∧ (IL f3_1) ∧ (1 ≤ bsC ∧ bsC ≤ 3) ∧ (PKa f5_1 f5_5 f5_6 f5_0 f3_0 f3_1 aO bsC) ∧ (IB f3_0) ∧ (IP f0_6) ∧ (0 ≤ v0_8.toInt ∧ v0_8.toInt ≤ 30) ∧ (IT f7_7) ∧ (-1 ≤ v7_14.toInt ∧ v7_14.toInt ≤ 64) ∧ (IS f7_13) ∧ (0 ≤ v4_1.toInt ∧ v4_1.toInt ≤ 120) ∧ (IW f8_5) ∧ (IN f8_0) ∧ (IN f8_1) ∧ (IR f8_7 f8_8 f8_9 f8_10) ∧ (IL f8_11) ∧ (1 ≤ bsR ∧ bsR ≤ 3) ∧ (IL f8_16) ∧ (IB f8_19) ∧ (PK8a f8_7 f8_8 f8_9 f8_10 f8_11 f8_19 f8_16 wD bsR) ∧ (IT f8_37) ∧ (-1 ≤ v8_43.toInt ∧ v8_43.toInt ≤ 64) ∧ (pRok pR) ∧ (lenR ≤ 120) ∧ (gR ≤ 7) ∧ (∀ g, g < 7 → gA g ≤ 840) ∧ (∀ k, k < 8 → f2_0 k = f8_5 k) ∧ (v7_14 = v8_43) ∧ (bsC = bsR) ∧ (∀ k, k < 16 → f7_7 k = f8_37 k) ∧ (∀ k, k < 12 → f5_0 k = f8_11 k) ∧ (∀ j, j < 120 → f5_1 j = f8_7 j) ∧ (∀ j, j < 120 → f5_2 j = f8_8 j) ∧ (∀ j, j < 120 → f5_3 j = f8_9 j) ∧ (∀ j, j < 120 → f5_4 j = f8_10 j) ∧ (J7 f5_0 f5_5 f5_6 f8_7 f8_8 f8_9 f8_10) ∧ (¬ v4_0 = 0 → STC f5_1 f5_2 f5_3 f5_4 f5_5 f5_6 f5_0 bsC v4_1 ow sA f4_4 f4_5 f4_6 ∧ ∀ k, k < 12 → ¬ f3_0 k = 0) ∧ (¬ v8_26 = 0 → STR f8_7 f8_8 f8_9 f8_10 f8_11 bsR lenR pR f8_21 f8_22 f8_23 f8_24 ∧ ∀ k, k < 12 → ¬ f8_19 k = 0) ∧ (v4_0 = 0 ↔ v8_26 = 0) ∧ (¬ v4_0 = 0 → FEv f5_1 f5_2 f5_3 f5_4 ow sA v4_1 v1_1 v1_2 v1_3 f1_0) ∧ (¬ v8_26 = 0 → FERv f8_7 f8_8 f8_9 f8_10 f8_11 bsR lenR pR f8_21 gR f8_30 gA dR)
theorem LInv_mk {dC : Nat → ClassId} {dI : Nat → Nat → Nat} {A : Nat → Prop} {s : State} {o7 : Nat} {o8 : Nat} {al7 : Nat → Nat} {ka7 : Nat → ClassId} {o2 : Nat} {al2 : Nat → Nat} {ka2 : Nat → ClassId} {o5 : Nat} {al5 : Nat → Nat} {ka5 : Nat → ClassId} {o3 : Nat} {al3 : Nat → Nat} {ka3 : Nat → ClassId} {o6 : Nat} {al6 : Nat → Nat} {ka6 : Nat → ClassId} {o4 : Nat} {al4 : Nat → Nat} {ka4 : Nat → ClassId} {o1 : Nat} {al1 : Nat → Nat} {ka1 : Nat → ClassId} {o0 : Nat} {al0 : Nat → Nat} {ka0 : Nat → ClassId} {al8 : Nat → Nat} {ka8 : Nat → ClassId} {H : Heap} {locs : List Loc} {v7_8 : Int32} {v7_9 : Int32} {v7_10 : Int32} {v7_12 : Int32} {v7_14 : Int32} {f7_6 : Nat → Int32} {f7_7 : Nat → Int32} {f7_11 : Nat → Int64} {f7_13 : Nat → Int32} {f7_15 : Nat → Int32} {v2_4 : Int32} {f2_0 : Nat → Int32} {f2_1 : Nat → Int64} {f2_2 : Nat → Int32} {f2_3 : Nat → Int64} {f5_0 : Nat → Int32} {f5_1 : Nat → Int32} {f5_2 : Nat → Int32} {f5_3 : Nat → Int32} {f5_4 : Nat → Int32} {f5_5 : Nat → Int32} {f5_6 : Nat → Int32} {bsC : Nat} {f3_0 : Nat → Int32} {f3_1 : Nat → Int32} {f3_2 : Nat → Int32} {aO : Nat → Nat} {v6_8 : Int32} {v6_9 : Int32} {cH : Nat → Nat} {f6_2 : Nat → Int32} {f6_3 : Nat → Int32} {f6_4 : Nat → Int32} {f6_5 : Nat → Int32} {f6_6 : Nat → Int32} {tF : Nat → Nat} {v4_0 : Int32} {v4_1 : Int32} {ow : Nat → Nat} {sA : Nat → Nat} {f4_4 : Nat → Int32} {f4_5 : Nat → Int32} {f4_6 : Nat → Int32} {v1_1 : Int32} {v1_2 : Int32} {v1_3 : Int32} {f1_0 : Nat → Int32} {sS : Nat → Nat} {f1_5 : Nat → Int32} {dF : Nat → Nat} {f1_7 : Nat → Int32} {f1_8 : Nat → Int32} {f1_9 : Nat → Int32} {v0_0 : Int32} {v0_1 : Int32} {v0_2 : Int32} {v0_8 : Int32} {f0_6 : Nat → Int32} {f0_7 : Nat → Int64} {f0_9 : Nat → Int64} {v8_6 : Int32} {bsR : Nat} {lenR : Nat} {v8_26 : Int32} {gR : Nat} {v8_33 : Int32} {v8_34 : Int32} {v8_35 : Int32} {v8_38 : Int32} {v8_39 : Int32} {v8_40 : Int32} {v8_43 : Int32} {f8_0 : Nat → Int64} {f8_1 : Nat → Int64} {f8_2 : Nat → Int64} {f8_3 : Nat → Int64} {f8_4 : Nat → Int64} {f8_5 : Nat → Int32} {f8_7 : Nat → Int32} {f8_8 : Nat → Int32} {f8_9 : Nat → Int32} {f8_10 : Nat → Int32} {f8_11 : Nat → Int32} {f8_13 : Nat → Int32} {fW : Nat → Nat} {wD : Nat → Nat} {f8_16 : Nat → Int32} {eE : Nat → Nat} {eB : Nat → Nat} {f8_19 : Nat → Int32} {pR : Nat → Nat} {f8_21 : Nat → Int32} {f8_22 : Nat → Int32} {f8_23 : Nat → Int32} {f8_24 : Nat → Int32} {f8_27 : Nat → Int32} {dR : Nat → Nat} {f8_29 : Nat → Int32} {f8_30 : Nat → Int32} {gA : Nat → Nat} {f8_36 : Nat → Int64} {f8_37 : Nat → Int32} {f8_41 : Nat → Int32} {f8_42 : Nat → Int32} (h : KS (dC, dI) A [(o7, .inr (7, [.ref o2, .ref o5, .ref o3, .ref o4, .ref o1, .ref o0, .ref (al7 0), .ref (al7 1), .int v7_8, .int v7_9, .int v7_10, .ref (al7 2), .int v7_12, .ref (al7 3), .int v7_14, .ref (al7 4)])), ((al7 0), .inl ((ka7 0), 3, .inl f7_6)), ((al7 1), .inl ((ka7 1), 16, .inl f7_7)), ((al7 2), .inl ((ka7 2), 74, .inr (.inl f7_11))), ((al7 3), .inl ((ka7 3), 64, .inl f7_13)), ((al7 4), .inl ((ka7 4), 8, .inl f7_15)), (o2, .inr (2, [.ref (al2 0), .ref (al2 1), .ref (al2 2), .ref (al2 3), .int v2_4])), ((al2 0), .inl ((ka2 0), 8, .inl f2_0)), ((al2 1), .inl ((ka2 1), 74, .inr (.inl f2_1))), ((al2 2), .inl ((ka2 2), 30, .inl f2_2)), ((al2 3), .inl ((ka2 3), 30, .inr (.inl f2_3))), (o5, .inr (5, [.ref (al5 0), .ref (al5 1), .ref (al5 2), .ref (al5 3), .ref (al5 4), .ref (al5 5), .ref (al5 6)])), ((al5 0), .inl ((ka5 0), 12, .inl f5_0)), ((al5 1), .inl ((ka5 1), 120, .inl f5_1)), ((al5 2), .inl ((ka5 2), 120, .inl f5_2)), ((al5 3), .inl ((ka5 3), 120, .inl f5_3)), ((al5 4), .inl ((ka5 4), 120, .inl f5_4)), ((al5 5), .inl ((ka5 5), 120, .inl f5_5)), ((al5 6), .inl ((ka5 6), 120, .inl f5_6)), (o3, .inr (3, [.ref (al3 0), .ref (al3 1), .ref (al3 2), .ref (al3 3), .int (nI bsC), .ref o5, .ref o6])), ((al3 0), .inl ((ka3 0), 12, .inl f3_0)), ((al3 1), .inl ((ka3 1), 12, .inl f3_1)), ((al3 2), .inl ((ka3 2), 120, .inl f3_2)), ((al3 3), .inl ((ka3 3), 120, .inl (fun j => nI (aO j)))), (o6, .inr (6, [.ref (al6 0), .ref o5, .ref (al6 1), .ref (al6 2), .ref (al6 3), .ref (al6 4), .ref (al6 5), .ref (al6 6), .int v6_8, .int v6_9])), ((al6 0), .inl ((ka6 0), 10, .inl (fun j => nI (cH j)))), ((al6 1), .inl ((ka6 1), 10, .inl f6_2)), ((al6 2), .inl ((ka6 2), 10, .inl f6_3)), ((al6 3), .inl ((ka6 3), 10, .inl f6_4)), ((al6 4), .inl ((ka6 4), 5, .inl f6_5)), ((al6 5), .inl ((ka6 5), 5, .inl f6_6)), ((al6 6), .inl ((ka6 6), 1024, .inl (fun j => nI (tF j)))), (o4, .inr (4, [.int v4_0, .int v4_1, .ref (al4 0), .ref (al4 1), .ref (al4 2), .ref (al4 3), .ref (al4 4), .ref o5, .ref o3])), ((al4 0), .inl ((ka4 0), 120, .inl (fun j => nI (ow j)))), ((al4 1), .inl ((ka4 1), 120, .inl (fun j => nI (sA j)))), ((al4 2), .inl ((ka4 2), 120, .inl f4_4)), ((al4 3), .inl ((ka4 3), 120, .inl f4_5)), ((al4 4), .inl ((ka4 4), 120, .inl f4_6)), (o1, .inr (1, [.ref (al1 0), .int v1_1, .int v1_2, .int v1_3, .ref (al1 1), .ref (al1 2), .ref (al1 3), .ref (al1 4), .ref (al1 5), .ref (al1 6), .ref o5, .ref o4])), ((al1 0), .inl ((ka1 0), 7, .inl f1_0)), ((al1 1), .inl ((ka1 1), 120, .inl (fun j => nI (sS j)))), ((al1 2), .inl ((ka1 2), 120, .inl f1_5)), ((al1 3), .inl ((ka1 3), 7, .inl (fun j => nI (dF j)))), ((al1 4), .inl ((ka1 4), 7, .inl f1_7)), ((al1 5), .inl ((ka1 5), 7, .inl f1_8)), ((al1 6), .inl ((ka1 6), 7, .inl f1_9)), (o0, .inr (0, [.int v0_0, .int v0_1, .int v0_2, .ref o2, .ref o5, .ref o3, .ref (al0 0), .ref (al0 1), .int v0_8, .ref (al0 2)])), ((al0 0), .inl ((ka0 0), 30, .inl f0_6)), ((al0 1), .inl ((ka0 1), 30, .inr (.inl f0_7))), ((al0 2), .inl ((ka0 2), 74, .inr (.inl f0_9))), (o8, .inr (8, [.ref (al8 0), .ref (al8 1), .ref (al8 2), .ref (al8 3), .ref (al8 4), .ref (al8 5), .int v8_6, .ref (al8 6), .ref (al8 7), .ref (al8 8), .ref (al8 9), .ref (al8 10), .int (nI bsR), .ref (al8 11), .ref (al8 12), .ref (al8 13), .ref (al8 14), .ref (al8 15), .ref (al8 16), .ref (al8 17), .ref (al8 18), .ref (al8 19), .ref (al8 20), .ref (al8 21), .ref (al8 22), .int (nI lenR), .int v8_26, .ref (al8 23), .ref (al8 24), .ref (al8 25), .ref (al8 26), .ref (al8 27), .int (nI gR), .int v8_33, .int v8_34, .int v8_35, .ref (al8 28), .ref (al8 29), .int v8_38, .int v8_39, .int v8_40, .ref (al8 30), .ref (al8 31), .int v8_43])), ((al8 0), .inl ((ka8 0), 74, .inr (.inl f8_0))), ((al8 1), .inl ((ka8 1), 74, .inr (.inl f8_1))), ((al8 2), .inl ((ka8 2), 74, .inr (.inl f8_2))), ((al8 3), .inl ((ka8 3), 74, .inr (.inl f8_3))), ((al8 4), .inl ((ka8 4), 74, .inr (.inl f8_4))), ((al8 5), .inl ((ka8 5), 8, .inl f8_5)), ((al8 6), .inl ((ka8 6), 120, .inl f8_7)), ((al8 7), .inl ((ka8 7), 120, .inl f8_8)), ((al8 8), .inl ((ka8 8), 120, .inl f8_9)), ((al8 9), .inl ((ka8 9), 120, .inl f8_10)), ((al8 10), .inl ((ka8 10), 12, .inl f8_11)), ((al8 11), .inl ((ka8 11), 8, .inl f8_13)), ((al8 12), .inl ((ka8 12), 1024, .inl (fun j => nI (fW j)))), ((al8 13), .inl ((ka8 13), 120, .inl (fun j => nI (wD j)))), ((al8 14), .inl ((ka8 14), 12, .inl f8_16)), ((al8 15), .inl ((ka8 15), 10, .inl (fun j => nI (eE j)))), ((al8 16), .inl ((ka8 16), 10, .inl (fun j => nI (eB j)))), ((al8 17), .inl ((ka8 17), 12, .inl f8_19)), ((al8 18), .inl ((ka8 18), 120, .inl (fun j => nI (pR j)))), ((al8 19), .inl ((ka8 19), 120, .inl f8_21)), ((al8 20), .inl ((ka8 20), 120, .inl f8_22)), ((al8 21), .inl ((ka8 21), 120, .inl f8_23)), ((al8 22), .inl ((ka8 22), 120, .inl f8_24)), ((al8 23), .inl ((ka8 23), 840, .inl f8_27)), ((al8 24), .inl ((ka8 24), 7, .inl (fun j => nI (dR j)))), ((al8 25), .inl ((ka8 25), 7, .inl f8_29)), ((al8 26), .inl ((ka8 26), 7, .inl f8_30)), ((al8 27), .inl ((ka8 27), 7, .inl (fun j => nI (gA j)))), ((al8 28), .inl ((ka8 28), 74, .inr (.inl f8_36))), ((al8 29), .inl ((ka8 29), 16, .inl f8_37)), ((al8 30), .inl ((ka8 30), 64, .inl f8_41)), ((al8 31), .inl ((ka8 31), 64, .inl f8_42))] [((ka7 0), .int), ((ka7 1), .int), ((ka7 2), .long), ((ka7 3), .short), ((ka7 4), .int), ((ka2 0), .int), ((ka2 1), .long), ((ka2 2), .int), ((ka2 3), .long), ((ka5 0), .int), ((ka5 1), .int), ((ka5 2), .int), ((ka5 3), .int), ((ka5 4), .int), ((ka5 5), .int), ((ka5 6), .int), ((ka3 0), .boolean), ((ka3 1), .int), ((ka3 2), .int), ((ka3 3), .int), ((ka6 0), .int), ((ka6 1), .int), ((ka6 2), .int), ((ka6 3), .int), ((ka6 4), .int), ((ka6 5), .int), ((ka6 6), .byte), ((ka4 0), .int), ((ka4 1), .int), ((ka4 2), .int), ((ka4 3), .int), ((ka4 4), .int), ((ka1 0), .int), ((ka1 1), .int), ((ka1 2), .int), ((ka1 3), .int), ((ka1 4), .int), ((ka1 5), .int), ((ka1 6), .int), ((ka0 0), .int), ((ka0 1), .long), ((ka0 2), .long), ((ka8 0), .long), ((ka8 1), .long), ((ka8 2), .long), ((ka8 3), .long), ((ka8 4), .long), ((ka8 5), .int), ((ka8 6), .int), ((ka8 7), .int), ((ka8 8), .int), ((ka8 9), .int), ((ka8 10), .int), ((ka8 11), .int), ((ka8 12), .int), ((ka8 13), .int), ((ka8 14), .int), ((ka8 15), .int), ((ka8 16), .int), ((ka8 17), .boolean), ((ka8 18), .int), ((ka8 19), .int), ((ka8 20), .int), ((ka8 21), .int), ((ka8 22), .int), ((ka8 23), .int), ((ka8 24), .int), ((ka8 25), .int), ((ka8 26), .int), ((ka8 27), .int), ((ka8 28), .long), ((ka8 29), .int), ((ka8 30), .int), ((ka8 31), .int)] s H locs) (cIw : IW f2_0) (cN : IN f2_1) (cO : IP f2_2) (cM : IO f2_3) (col : 0 ≤ v2_4.toInt ∧ v2_4.toInt ≤ 30) (cR : IR f5_1 f5_2 f5_3 f5_4) (cL5 : IL f5_0) (cL3 : IL f3_1) (cbs : 1 ≤ bsC ∧ bsC ≤ 3) (cPK : PKa f5_1 f5_5 f5_6 f5_0 f3_0 f3_1 aO bsC) (cB : IB f3_0) (cQ : IP f0_6) (cw : 0 ≤ v0_8.toInt ∧ v0_8.toInt ≤ 30) (cT : IT f7_7) (cv : -1 ≤ v7_14.toInt ∧ v7_14.toInt ≤ 64) (cS : IS f7_13) (cv4 : 0 ≤ v4_1.toInt ∧ v4_1.toInt ≤ 120) (rIw : IW f8_5) (rN : IN f8_0) (rKe : IN f8_1) (rR_ : IR f8_7 f8_8 f8_9 f8_10) (rL8 : IL f8_11) (rbs : 1 ≤ bsR ∧ bsR ≤ 3) (rL6 : IL f8_16) (rB : IB f8_19) (rPK : PK8a f8_7 f8_8 f8_9 f8_10 f8_11 f8_19 f8_16 wD bsR) (rT : IT f8_37) (rv : -1 ≤ v8_43.toInt ∧ v8_43.toInt ≤ 64) (rpR : pRok pR) (rlen : lenR ≤ 120) (rgr : gR ≤ 7) (rg : ∀ g, g < 7 → gA g ≤ 840) (j1 : ∀ k, k < 8 → f2_0 k = f8_5 k) (j2 : v7_14 = v8_43) (j3 : bsC = bsR) (j4 : ∀ k, k < 16 → f7_7 k = f8_37 k) (j5 : ∀ k, k < 12 → f5_0 k = f8_11 k) (j6 : ∀ j, j < 120 → f5_1 j = f8_7 j) (j6b : ∀ j, j < 120 → f5_2 j = f8_8 j) (j6c : ∀ j, j < 120 → f5_3 j = f8_9 j) (j6d : ∀ j, j < 120 → f5_4 j = f8_10 j) (j7 : J7 f5_0 f5_5 f5_6 f8_7 f8_8 f8_9 f8_10) (cST : ¬ v4_0 = 0 → STC f5_1 f5_2 f5_3 f5_4 f5_5 f5_6 f5_0 bsC v4_1 ow sA f4_4 f4_5 f4_6 ∧ ∀ k, k < 12 → ¬ f3_0 k = 0) (rST : ¬ v8_26 = 0 → STR f8_7 f8_8 f8_9 f8_10 f8_11 bsR lenR pR f8_21 f8_22 f8_23 f8_24 ∧ ∀ k, k < 12 → ¬ f8_19 k = 0) (js : v4_0 = 0 ↔ v8_26 = 0) (cFE : ¬ v4_0 = 0 → FEv f5_1 f5_2 f5_3 f5_4 ow sA v4_1 v1_1 v1_2 v1_3 f1_0) (rFE : ¬ v8_26 = 0 → FERv f8_7 f8_8 f8_9 f8_10 f8_11 bsR lenR pR f8_21 gR f8_30 gA dR) : LInv dC dI A s o7 o8 al7 ka7 o2 al2 ka2 o5 al5 ka5 o3 al3 ka3 o6 al6 ka6 o4 al4 ka4 o1 al1 ka1 o0 al0 ka0 al8 ka8 H locs := ⟨v7_8, v7_9, v7_10, v7_12, v7_14, f7_6, f7_7, f7_11, f7_13, f7_15, v2_4, f2_0, f2_1, f2_2, f2_3, f5_0, f5_1, f5_2, f5_3, f5_4, f5_5, f5_6, bsC, f3_0, f3_1, f3_2, aO, v6_8, v6_9, cH, f6_2, f6_3, f6_4, f6_5, f6_6, tF, v4_0, v4_1, ow, sA, f4_4, f4_5, f4_6, v1_1, v1_2, v1_3, f1_0, sS, f1_5, dF, f1_7, f1_8, f1_9, v0_0, v0_1, v0_2, v0_8, f0_6, f0_7, f0_9, v8_6, bsR, lenR, v8_26, gR, v8_33, v8_34, v8_35, v8_38, v8_39, v8_40, v8_43, f8_0, f8_1, f8_2, f8_3, f8_4, f8_5, f8_7, f8_8, f8_9, f8_10, f8_11, f8_13, fW, wD, f8_16, eE, eB, f8_19, pR, f8_21, f8_22, f8_23, f8_24, f8_27, dR, f8_29, f8_30, gA, f8_36, f8_37, f8_41, f8_42, h, cIw, cN, cO, cM, col, cR, cL5, cL3, cbs, cPK, cB, cQ, cw, cT, cv, cS, cv4, rIw, rN, rKe, rR_, rL8, rbs, rL6, rB, rPK, rT, rv, rpR, rlen, rgr, rg, j1, j2, j3, j4, j5, j6, j6b, j6c, j6d, j7, cST, rST, js, cFE, rFE⟩
theorem cmp_tear {v : Int32} (h : -1 ≤ v.toInt ∧ v.toInt ≤ 64) : (if v = -1 then (0 : Int32) else 1) = (if v.toInt < 0 then 0 else 1) := by
  have m1 : (-1 : Int32).toInt = -1 := by decide
  by_cases c : v.toInt < 0
  · rw [if_pos c, if_pos ((fa_eq _ _).mpr (by omega))]
  · rw [if_neg c, if_neg (fun z => c (by rw [z]; decide))]
theorem kadd10 {x : Int32} (h : 0 ≤ x.toInt ∧ x.toInt < 64) : (10 + x).toInt = 10 + x.toInt := by
  rw [Int32.toInt_add, show (10 : Int32).toInt = 10 by decide]
  exact fb_bmod (by omega) (by omega)
theorem kadd8 {x : Int32} (h : 0 ≤ x.toInt ∧ x.toInt ≤ 1) : (8 + x).toInt = 8 + x.toInt := by
  rw [Int32.toInt_add, show (8 : Int32).toInt = 8 by decide]
  exact fb_bmod (by omega) (by omega)
-- THE STORE: what calls leave of it; both sides answer alike
theorem STC_lt {K D X Y R W L : Nat → Int32} {bs : Nat} {v : Int32} {ow sA : Nat → Nat} {n4 us po : Nat → Int32} (h : STC K D X Y R W L bs v ow sA n4 us po) : ∀ p : Nat, (p : Int) < v.toInt → sA p < 1024 := by
  obtain ⟨len, pw, e, hl, h1, h2, h3⟩ := h
  intro p hp
  rw [e, nI_toInt (by omega)] at hp
  exact (h3 p (by omega)).1.2
theorem ST_act7 {c : Prop} [Decidable c] {K D X Y R W L M K' D' X' Y' R' W' L' M' a0 a1 a2 a3 a4 a5 a6 a7 : Nat → Int32} {bs : Nat} {v v' v1 : Int32} {ow sA : Nat → Nat} {n4 us po : Nat → Int32} (h : ¬ v = 0 → STC K D X Y R W L bs v1 ow sA n4 us po ∧ ∀ i, i < 12 → ¬ M i = 0) (e0 : L' = if c then a0 else L) (e1 : K' = if c then a1 else K) (e2 : D' = if c then a2 else D) (e3 : X' = if c then a3 else X) (e4 : Y' = if c then a4 else Y) (e5 : R' = if c then a5 else R) (e6 : W' = if c then a6 else W) (e7 : M' = if c then a7 else M) (ev : v' = if c then 0 else v) : ¬ v' = 0 → STC K' D' X' Y' R' W' L' bs v1 ow sA n4 us po ∧ ∀ i, i < 12 → ¬ M' i = 0 := by
  by_cases hc : c
  · rw [if_pos hc] at ev
    exact fun z => absurd ev z
  · rw [if_neg hc] at e0 e1 e2 e3 e4 e5 e6 e7 ev
    subst e0 e1 e2 e3 e4 e5 e6 e7 ev
    exact h
theorem ST_act8 {c : Prop} [Decidable c] {K D X Y L M K' D' X' Y' L' M' a0 a1 a2 a3 a4 a7 : Nat → Int32} {bs len : Nat} {v v' : Int32} {pR : Nat → Nat} {g21 n4 us po : Nat → Int32} (h : ¬ v = 0 → STR K D X Y L bs len pR g21 n4 us po ∧ ∀ i, i < 12 → ¬ M i = 0) (e0 : L' = if c then a0 else L) (e1 : K' = if c then a1 else K) (e2 : D' = if c then a2 else D) (e3 : X' = if c then a3 else X) (e4 : Y' = if c then a4 else Y) (e7 : M' = if c then a7 else M) (ev : v' = if c then 0 else v) : ¬ v' = 0 → STR K' D' X' Y' L' bs len pR g21 n4 us po ∧ ∀ i, i < 12 → ¬ M' i = 0 := by
  by_cases hc : c
  · rw [if_pos hc] at ev
    exact fun z => absurd ev z
  · rw [if_neg hc] at e0 e1 e2 e3 e4 e7 ev
    subst e0 e1 e2 e3 e4 e7 ev
    exact h
theorem js_if {c c' : Prop} [Decidable c] [Decidable c'] {v v' u u' : Int32} (hcc : c ↔ c') (js : v = 0 ↔ u = 0) (e : v' = if c then 0 else v) (e' : u' = if c' then 0 else u) : v' = 0 ↔ u' = 0 := by
  by_cases h : c
  · rw [e, e', if_pos h, if_pos (hcc.mp h)]
  · rw [e, e', if_neg h, if_neg (fun z => h (hcc.mpr z))]
    exact js
theorem js_bus {c : Prop} [Decidable c] {v v' u u' : Int32} (js : v = 0 ↔ u = 0) (e : v' = if c then 0 else v) (e' : u' = 0 ↔ (c ∨ u = 0)) : v' = 0 ↔ u' = 0 := by
  rw [e', e]
  by_cases h : c
  · rw [if_pos h]
    exact ⟨fun _ => Or.inl h, fun _ => rfl⟩
  · rw [if_neg h, js]
    exact ⟨Or.inr, fun z => z.elim (fun q => absurd q h) id⟩
theorem ST_bus7 {K D X Y R W L M M' : Nat → Int32} {b b' : Nat} {v v' v1 x : Int32} {ow sA : Nat → Nat} {n4 us po : Nat → Int32} (h : ¬ v = 0 → STC K D X Y R W L b v1 ow sA n4 us po ∧ ∀ i, i < 12 → ¬ M i = 0) (hb : 1 ≤ b ∧ b ≤ 3) (hb' : 1 ≤ b' ∧ b' ≤ 3) (e : nI b' = if ((1 ≤ x.toInt ∧ x.toInt ≤ 3) ∧ ¬ x.toInt = (nI b).toInt) then x else nI b) (eM : M' = if ((1 ≤ x.toInt ∧ x.toInt ≤ 3) ∧ ¬ x.toInt = (nI b).toInt) then (fun _ => 0) else M) (ev : v' = if ((1 ≤ x.toInt ∧ x.toInt ≤ 3) ∧ ¬ x.toInt = (nI b).toInt) then 0 else v) : ¬ v' = 0 → STC K D X Y R W L b' v1 ow sA n4 us po ∧ ∀ i, i < 12 → ¬ M' i = 0 := by
  by_cases hc : (1 ≤ x.toInt ∧ x.toInt ≤ 3) ∧ ¬ x.toInt = (nI b).toInt
  · rw [if_pos hc] at ev
    exact fun z => absurd ev z
  · rw [if_neg hc] at e eM ev
    have : b' = b := (nI_eq (by omega) (by omega)).mp e
    subst eM ev this
    exact h
theorem ST_bus8 {K D X Y L M M' : Nat → Int32} {b b' len : Nat} {v v' x : Int32} {pR : Nat → Nat} {g21 n4 us po : Nat → Int32} (h : ¬ v = 0 → STR K D X Y L b len pR g21 n4 us po ∧ ∀ i, i < 12 → ¬ M i = 0) (hb : 1 ≤ b ∧ b ≤ 3) (hb' : 1 ≤ b' ∧ b' ≤ 3) (e : nI b' = if (1 ≤ x.toInt ∧ x.toInt ≤ 3) then x else nI b) (eM : M' = if ((1 ≤ x.toInt ∧ x.toInt ≤ 3) ∧ ¬ x.toInt = (nI b).toInt) then (fun _ => 0) else M) (ev : v' = 0 ↔ (((1 ≤ x.toInt ∧ x.toInt ≤ 3) ∧ ¬ x.toInt = (nI b).toInt) ∨ v = 0)) : ¬ v' = 0 → STR K D X Y L b' len pR g21 n4 us po ∧ ∀ i, i < 12 → ¬ M' i = 0 := by
  intro z
  have z1 : ¬ ((1 ≤ x.toInt ∧ x.toInt ≤ 3) ∧ ¬ x.toInt = (nI b).toInt) := fun q => z (ev.mpr (Or.inl q))
  have z2 : ¬ v = 0 := fun q => z (ev.mpr (Or.inr q))
  rw [if_neg z1] at eM
  have e2 : nI b' = nI b := by
    rw [e]
    by_cases h1 : 1 ≤ x.toInt ∧ x.toInt ≤ 3
    · rw [if_pos h1]
      exact (fa_eq _ _).mpr (Decidable.byContradiction (fun q => z1 ⟨h1, q⟩))
    · rw [if_neg h1]
  have : b' = b := (nI_eq (by omega) (by omega)).mp e2
  subst eM this
  exact h z2
theorem ST_mn7 {K D X Y R W L M M' : Nat → Int32} {bs : Nat} {v v1 : Int32} {ow sA : Nat → Nat} {n4 us po : Nat → Int32} (h : ¬ v = 0 → STC K D X Y R W L bs v1 ow sA n4 us po ∧ ∀ i, i < 12 → ¬ M i = 0) (hm : MN M M') : ¬ v = 0 → STC K D X Y R W L bs v1 ow sA n4 us po ∧ ∀ i, i < 12 → ¬ M' i = 0 := fun z => ⟨(h z).1, fun i hi => hm i hi ((h z).2 i hi)⟩
theorem ST_mn8 {K D X Y L M M' : Nat → Int32} {bs len : Nat} {v : Int32} {pR : Nat → Nat} {g21 n4 us po : Nat → Int32} (h : ¬ v = 0 → STR K D X Y L bs len pR g21 n4 us po ∧ ∀ i, i < 12 → ¬ M i = 0) (hm : MN M M') : ¬ v = 0 → STR K D X Y L bs len pR g21 n4 us po ∧ ∀ i, i < 12 → ¬ M' i = 0 := fun z => ⟨(h z).1, fun i hi => hm i hi ((h z).2 i hi)⟩
/-- store(): as many places -/
theorem cmp_store {K D X Y R W L K' D' X' Y' L' : Nat → Int32} {bs bs' len' : Nat} {v : Int32} {ow sA pR : Nat → Nat} {n4 us po g21 n4' us' po' : Nat → Int32} (hL : IL L) (j5 : ∀ k, k < 12 → L k = L' k) (jK : ∀ j, j < 120 → K j = K' j) (jD : ∀ j, j < 120 → D j = D' j) (jX : ∀ j, j < 120 → X j = X' j) (jY : ∀ j, j < 120 → Y j = Y' j) (j7 : J7 L R W K' D' X' Y') (hb : bs = bs') (h : STC K D X Y R W L bs v ow sA n4 us po) (h' : STR K' D' X' Y' L' bs' len' pR g21 n4' us' po') : v = nI len' := by
  obtain ⟨len, pw, e, hl, h1, h2, h3⟩ := h
  obtain ⟨pw', g1, g2, g3⟩ := h'
  have z := (cn_eq hL j5 jK jD jX jY j7 hb).1
  rw [e, h1.1, g1.1, z]
/-- place(), at(): the places are the same -/
theorem ST_same {K D X Y R W L K' D' X' Y' L' : Nat → Int32} {bs bs' len' : Nat} {v : Int32} {ow sA pR : Nat → Nat} {n4 us po g21 n4' us' po' : Nat → Int32} (hL : IL L) (j5 : ∀ k, k < 12 → L k = L' k) (jK : ∀ j, j < 120 → K j = K' j) (jD : ∀ j, j < 120 → D j = D' j) (jX : ∀ j, j < 120 → X j = X' j) (jY : ∀ j, j < 120 → Y j = Y' j) (j7 : J7 L R W K' D' X' Y') (hb : bs = bs') (h : STC K D X Y R W L bs v ow sA n4 us po) (h' : STR K' D' X' Y' L' bs' len' pR g21 n4' us' po') : v = nI len' ∧ (∀ p, p < len' → n4 p = n4' p ∧ us p = us' p ∧ ∃ w, g21 p = nI w ∧ pR p < 12 ∧ w < cnL K' (rR K' X' Y') (rW K' D') L' bs' (pR p) ∧ sA p = cnA K' (rR K' X' Y') (rW K' D') L' bs' (pR p) w) ∧ ∀ i w, i < 12 → w < 10 → w < cnL K' (rR K' X' Y') (rW K' D') L' bs' i → po (i * 10 + w) = po' (i * 10 + w) := by
  have e0 := cmp_store hL j5 jK jD jX jY j7 hb h h'
  obtain ⟨len, pw, e, hl, h1, h2, h3⟩ := h
  obtain ⟨pw', g1, g2, g3⟩ := h'
  obtain ⟨z, zq⟩ := cn_eq hL j5 jK jD jX jY j7 hb
  rw [z] at h1 h2
  have el : len = len' := by rw [h1.1, g1.1]
  subst el
  refine ⟨e0, fun p hp => ?_, fun i w hi hw hc => ?_⟩
  · have a := h1.2 p (by rw [← h1.1]; exact hp)
    have b := g1.2 p (by rw [← g1.1]; exact hp)
    have c := g3 p hp
    have d := h3 p hp
    have eo : ow p = pR p := a.1.trans b.1.symm
    have ew : pw p = pw' p := a.2.1.trans b.2.1.symm
    refine ⟨a.2.2.1.trans b.2.2.1.symm, a.2.2.2.trans b.2.2.2.symm, pw' p, c.1, c.2.1, c.2.2, ?_⟩
    rw [d.1.1, eo, ew]
    refine (zq _ c.2.1).2 _ ?_
    rw [(zq _ c.2.1).1]
    exact c.2.2
  · rw [h2 i w (by rw [(zq i hi).1]; exact hc) hw (Or.inl hi), g2 i w hc hw (Or.inl hi)]
theorem cmp_place {K D X Y R W L K' D' X' Y' L' L3 WC M M' : Nat → Int32} {bs bs' len' : Nat} {aO wd : Nat → Nat} {v v0 u0 p0 p1 : Int32} {ow sA pR : Nat → Nat} {n4 us po g21 n4' us' po' : Nat → Int32} (hL : IL L) (hL3 : IL L3) (j5 : ∀ k, k < 12 → L k = L' k) (jK : ∀ j, j < 120 → K j = K' j) (jD : ∀ j, j < 120 → D j = D' j) (jX : ∀ j, j < 120 → X j = X' j) (jY : ∀ j, j < 120 → Y j = Y' j) (j7 : J7 L R W K' D' X' Y') (hb : bs = bs') (hP : PKa K R W L M L3 aO bs) (hP' : PK8a K' D' X' Y' L' M' WC wd bs') (js : v0 = 0 ↔ u0 = 0) (h : ¬ v0 = 0 → STC K D X Y R W L bs v ow sA n4 us po ∧ ∀ i, i < 12 → ¬ M i = 0) (h' : ¬ u0 = 0 → STR K' D' X' Y' L' bs' len' pR g21 n4' us' po' ∧ ∀ i, i < 12 → ¬ M' i = 0) :
    (if (0 ≤ p0.toInt ∧ p0.toInt < 12) then (if v0.toInt = 0 then -2 else if (0 ≤ p1.toInt ∧ p1.toInt < (L3 p0.toNatClampNeg).toInt) then po (p0 * 10 + p1).toNatClampNeg else -3) else (-3 : Int32)) = (if (0 ≤ p0.toInt ∧ p0.toInt < 12) then (if u0.toInt = 0 then -2 else if (0 ≤ p1.toInt ∧ p1.toInt < (WC p0.toNatClampNeg).toInt) then po' (p0 * 10 + p1).toNatClampNeg else -3) else -3) := by
  by_cases c : 0 ≤ p0.toInt ∧ p0.toInt < 12
  · rw [if_pos c, if_pos c]
    by_cases z : v0 = 0
    · have z' := js.mp z
      rw [if_pos (show v0.toInt = 0 from (fa_eq _ _).mp z), if_pos (show u0.toInt = 0 from (fa_eq _ _).mp z')]
    · have z' : ¬ u0 = 0 := fun q => z (js.mpr q)
      rw [if_neg (show ¬ v0.toInt = 0 from fun q => z ((fa_eq _ _).mpr q)), if_neg (show ¬ u0.toInt = 0 from fun q => z' ((fa_eq _ _).mpr q))]
      have hi : p0.toNatClampNeg < 12 := cl_lt (n := 12) c.1 c.2
      have k1 := hP _ hi ((h z).2 _ hi)
      have k2 := hP' _ hi ((h' z').2 _ hi)
      have el := PK_same hi hL j5 jK j7 hb k1 k2
      rw [el]
      by_cases d : 0 ≤ p1.toInt ∧ p1.toInt < (WC p0.toNatClampNeg).toInt
      · rw [if_pos d, if_pos d]
        have hw := cn_L8 k2
        have l3 := IL_at hL3 c
        rw [el] at l3
        have a1 := cl32 d.1
        have a2 := cl32 l3.1
        have es := slot_eq c d.1 (by omega)
        rw [es]
        refine (ST_same hL j5 jK jD jX jY j7 hb (h z).1 (h' z').1).2.2 _ _ hi (by omega) ?_
        rw [← hw.1]
        unfold lenN
        omega
      · rw [if_neg d, if_neg d]
  · rw [if_neg c, if_neg c]
theorem cmp_at {K D X Y R W L K' D' X' Y' L' WC M M' : Nat → Int32} {bs bs' len' : Nat} {wd : Nat → Nat} {v v0 u0 p0 p1 : Int32} {ow sA pR : Nat → Nat} {n4 us po g21 n4' us' po' : Nat → Int32} (hL : IL L) (hL' : IL L') (hlen : len' ≤ 120) (j5 : ∀ k, k < 12 → L k = L' k) (jK : ∀ j, j < 120 → K j = K' j) (jD : ∀ j, j < 120 → D j = D' j) (jX : ∀ j, j < 120 → X j = X' j) (jY : ∀ j, j < 120 → Y j = Y' j) (j7 : J7 L R W K' D' X' Y') (hb : bs = bs') (hP' : PK8a K' D' X' Y' L' M' WC wd bs') (js : v0 = 0 ↔ u0 = 0) (h : ¬ v0 = 0 → STC K D X Y R W L bs v ow sA n4 us po ∧ ∀ i, i < 12 → ¬ M i = 0) (h' : ¬ u0 = 0 → STR K' D' X' Y' L' bs' len' pR g21 n4' us' po' ∧ ∀ i, i < 12 → ¬ M' i = 0) :
    (if v0.toInt = 0 then (-2 : Int32) else if (0 ≤ p0.toInt ∧ p0.toInt < v.toInt) then (if p1.toInt = 0 then nI (mCnt (sA p0.toNatClampNeg) 10) else if p1.toInt = 1 then n4 p0.toNatClampNeg else if p1.toInt = 2 then us p0.toNatClampNeg else -6) else -3) = (if u0.toInt = 0 then -2 else if (0 ≤ p0.toInt ∧ p0.toInt < (nI len').toInt) then (if p1.toInt = 0 then nI (cI (fun j => nI (wd j)) (pR p0.toNatClampNeg * 10) (g21 p0.toNatClampNeg) (lenN L' (pR p0.toNatClampNeg))) else if p1.toInt = 1 then n4' p0.toNatClampNeg else if p1.toInt = 2 then us' p0.toNatClampNeg else -6) else -3) := by
  by_cases z : v0 = 0
  · have z' := js.mp z
    rw [if_pos (show v0.toInt = 0 from (fa_eq _ _).mp z), if_pos (show u0.toInt = 0 from (fa_eq _ _).mp z')]
  · have z' : ¬ u0 = 0 := fun q => z (js.mpr q)
    rw [if_neg (show ¬ v0.toInt = 0 from fun q => z ((fa_eq _ _).mpr q)), if_neg (show ¬ u0.toInt = 0 from fun q => z' ((fa_eq _ _).mpr q))]
    obtain ⟨e, hq, _⟩ := ST_same hL j5 jK jD jX jY j7 hb (h z).1 (h' z').1
    rw [e]
    by_cases d : 0 ≤ p0.toInt ∧ p0.toInt < (nI len').toInt
    · rw [if_pos d, if_pos d]
      have d2 := d.2
      rw [nI_toInt (by omega)] at d2
      have a1 := cl32 d.1
      obtain ⟨q1, q2, w, q3, q4, q5, q6⟩ := hq p0.toNatClampNeg (by omega)
      have hk := hP' _ q4 ((h' z').2 _ q4)
      have hm := MK_of hL' q4 hk q5
      have hc := cI_m (f := fun j => nI (wd j)) (base := pR p0.toNatClampNeg * 10) hm.2 _ (Nat.le_refl _)
      have hn := (IL_n hL' q4).2
      have hu := mCnt_up hm.1 (10 - lenN L' (pR p0.toNatClampNeg))
      rw [show lenN L' (pR p0.toNatClampNeg) + (10 - lenN L' (pR p0.toNatClampNeg)) = 10 by omega] at hu
      rw [q1, q2, q6, q3, hc, hu]
    · rw [if_neg d, if_neg d]
theorem ite_same (c : Prop) [Decidable c] {α : Type} (a : α) : a = if c then a else a := by split <;> rfl
-- THE STORE: fields, what calls leave of them; both sides answer alike
theorem FE_act7 {c : Prop} [Decidable c] {K D X Y K' D' X' Y' a1 a2 a3 a4 : Nat → Int32} {v v' v1 vg vw vs : Int32} {ow sA : Nat → Nat} {g0 : Nat → Int32} (h : ¬ v = 0 → FEv K D X Y ow sA v1 vg vw vs g0) (e1 : K' = if c then a1 else K) (e2 : D' = if c then a2 else D) (e3 : X' = if c then a3 else X) (e4 : Y' = if c then a4 else Y) (ev : v' = if c then 0 else v) : ¬ v' = 0 → FEv K' D' X' Y' ow sA v1 vg vw vs g0 := by
  by_cases hc : c
  · rw [if_pos hc] at ev
    exact fun z => absurd ev z
  · rw [if_neg hc] at e1 e2 e3 e4 ev
    subst e1 e2 e3 e4 ev
    exact h
theorem FE_act8 {c : Prop} [Decidable c] {K D X Y L K' D' X' Y' L' a0 a1 a2 a3 a4 : Nat → Int32} {v v' : Int32} {bs len gr : Nat} {pR gA dF : Nat → Nat} {g21 g0 : Nat → Int32} (h : ¬ v = 0 → FERv K D X Y L bs len pR g21 gr g0 gA dF) (e0 : L' = if c then a0 else L) (e1 : K' = if c then a1 else K) (e2 : D' = if c then a2 else D) (e3 : X' = if c then a3 else X) (e4 : Y' = if c then a4 else Y) (ev : v' = if c then 0 else v) : ¬ v' = 0 → FERv K' D' X' Y' L' bs len pR g21 gr g0 gA dF := by
  by_cases hc : c
  · rw [if_pos hc] at ev
    exact fun z => absurd ev z
  · rw [if_neg hc] at e0 e1 e2 e3 e4 ev
    subst e0 e1 e2 e3 e4 ev
    exact h
theorem FE_b7 {c P : Prop} [Decidable c] {v v' : Int32} (h : ¬ v = 0 → P) (ev : v' = if c then 0 else v) : ¬ v' = 0 → P := by
  by_cases hc : c
  · rw [if_pos hc] at ev
    exact fun z => absurd ev z
  · rw [if_neg hc] at ev
    rw [ev]
    exact h
theorem FE_bus8 {K D X Y L : Nat → Int32} {b b' len gr : Nat} {v v' x : Int32} {pR gA dF : Nat → Nat} {g21 g0 : Nat → Int32} (h : ¬ v = 0 → FERv K D X Y L b len pR g21 gr g0 gA dF) (hb : 1 ≤ b ∧ b ≤ 3) (hb' : 1 ≤ b' ∧ b' ≤ 3) (e : nI b' = if (1 ≤ x.toInt ∧ x.toInt ≤ 3) then x else nI b) (ev : v' = 0 ↔ (((1 ≤ x.toInt ∧ x.toInt ≤ 3) ∧ ¬ x.toInt = (nI b).toInt) ∨ v = 0)) : ¬ v' = 0 → FERv K D X Y L b' len pR g21 gr g0 gA dF := by
  intro z
  have z1 : ¬ ((1 ≤ x.toInt ∧ x.toInt ≤ 3) ∧ ¬ x.toInt = (nI b).toInt) := fun q => z (ev.mpr (Or.inl q))
  have z2 : ¬ v = 0 := fun q => z (ev.mpr (Or.inr q))
  have e2 : nI b' = nI b := by
    rw [e]
    by_cases h1 : 1 ≤ x.toInt ∧ x.toInt ≤ 3
    · rw [if_pos h1]
      exact (fa_eq _ _).mpr (Decidable.byContradiction (fun q => z1 ⟨h1, q⟩))
    · rw [if_neg h1]
  have : b' = b := (nI_eq (by omega) (by omega)).mp e2
  subst this
  exact h z2
theorem ST_own {K D X Y R W L K' D' X' Y' L' : Nat → Int32} {bs bs' len' : Nat} {v : Int32} {ow sA pR : Nat → Nat} {n4 us po g21 n4' us' po' : Nat → Int32} (hL : IL L) (j5 : ∀ k, k < 12 → L k = L' k) (jK : ∀ j, j < 120 → K j = K' j) (jD : ∀ j, j < 120 → D j = D' j) (jX : ∀ j, j < 120 → X j = X' j) (jY : ∀ j, j < 120 → Y j = Y' j) (j7 : J7 L R W K' D' X' Y') (hb : bs = bs') (h : STC K D X Y R W L bs v ow sA n4 us po) (h' : STR K' D' X' Y' L' bs' len' pR g21 n4' us' po') : ∀ p, p < len' → ow p = pR p := by
  obtain ⟨len, pw, e, hl, h1, h2, h3⟩ := h
  obtain ⟨pw', g1, g2, g3⟩ := h'
  obtain ⟨z, zq⟩ := cn_eq hL j5 jK jD jX jY j7 hb
  rw [z] at h1
  intro p hp
  have a := h1.2 p (by rw [← g1.1]; exact hp)
  have b := g1.2 p (by rw [← g1.1]; exact hp)
  exact a.1.trans b.1.symm
theorem FE_same {K D X Y R W L K' D' X' Y' L' WC M' : Nat → Int32} {bs bs' len' gr : Nat} {wd : Nat → Nat} {v vg vw vs : Int32} {ow sA pR gA dF : Nat → Nat} {n4 us po g21 n4' us' po' g0 g0' : Nat → Int32} (hL : IL L) (rlen : len' ≤ 120) (j5 : ∀ k, k < 12 → L k = L' k) (jK : ∀ j, j < 120 → K j = K' j) (jD : ∀ j, j < 120 → D j = D' j) (jX : ∀ j, j < 120 → X j = X' j) (jY : ∀ j, j < 120 → Y j = Y' j) (j7 : J7 L R W K' D' X' Y') (hb : bs = bs') (hP' : PK8a K' D' X' Y' L' M' WC wd bs') (hM : ∀ i, i < 12 → ¬ M' i = 0) (h : STC K D X Y R W L bs v ow sA n4 us po) (h' : STR K' D' X' Y' L' bs' len' pR g21 n4' us' po') (f : FEv K D X Y ow sA v vg vw vs g0) (f' : FERv K' D' X' Y' L' bs' len' pR g21 gr g0' gA dF) : vg = nI gr ∧ (∀ k, k < 7 → g0 k = g0' k) ∧ vw = nI (sumN (fun k => blN (gA k)) gr + blN len') ∧ vs = nI (sumN dF 7) ∧ v = nI len' := by
  obtain ⟨len, e, hl, c1, c2, c3, c4⟩ := f
  obtain ⟨d1, d2, d3, d4⟩ := f'
  obtain ⟨e1, hq, _⟩ := ST_same hL j5 jK jD jX jY j7 hb h h'
  have eo := ST_own hL j5 jK jD jX jY j7 hb h h'
  have el : len = len' := (nI_eq (by omega) (by omega)).mp (e.symm.trans e1)
  subst el
  have hp : ∀ p, p < len → ow p = pR p ∧ ow p < 12 ∧ sA p = (fun p => cnA K' (rR K' X' Y') (rW K' D') L' bs' (pR p) (g21 p).toNatClampNeg) p := by
    intro p hp
    obtain ⟨q1, q2, w, q3, q4, q5, q6⟩ := hq p hp
    have k2 := cn_L8 (hP' _ q4 (hM _ q4))
    refine ⟨eo p hp, by rw [eo p hp]; exact q4, ?_⟩
    show sA p = cnA K' (rR K' X' Y') (rW K' D') L' bs' (pR p) (g21 p).toNatClampNeg
    rw [q3, nI_clamp (by omega)]
    exact q6
  obtain ⟨g1, g2⟩ := gsA_c jK jD jX jY hp
  rw [g2] at c1 c2 c3
  refine ⟨by rw [c1, d1], fun k hk => by rw [c2 k hk, d2 k hk], ?_, ?_, e1⟩
  · rw [c3, ← d1, sumN_c (g := fun k => blN (gA k)) gr (fun k hk => by rw [d3 k hk]), Nat.add_comm]
  · rw [c4, sumN_c (g := dF) 7 (fun k hk => by rw [g1 k, d4 k hk])]
theorem cmp_group {K D X Y R W L K' D' X' Y' L' WC M M' : Nat → Int32} {bs bs' len' gr : Nat} {wd : Nat → Nat} {v v0 u0 vg vw vs p0 : Int32} {ow sA pR gA dF : Nat → Nat} {n4 us po g21 n4' us' po' g0 g0' : Nat → Int32} (hL : IL L) (rlen : len' ≤ 120) (j5 : ∀ k, k < 12 → L k = L' k) (jK : ∀ j, j < 120 → K j = K' j) (jD : ∀ j, j < 120 → D j = D' j) (jX : ∀ j, j < 120 → X j = X' j) (jY : ∀ j, j < 120 → Y j = Y' j) (j7 : J7 L R W K' D' X' Y') (hb : bs = bs') (hP' : PK8a K' D' X' Y' L' M' WC wd bs') (js : v0 = 0 ↔ u0 = 0) (h : ¬ v0 = 0 → STC K D X Y R W L bs v ow sA n4 us po ∧ ∀ i, i < 12 → ¬ M i = 0) (h' : ¬ u0 = 0 → STR K' D' X' Y' L' bs' len' pR g21 n4' us' po' ∧ ∀ i, i < 12 → ¬ M' i = 0) (f : ¬ v0 = 0 → FEv K D X Y ow sA v vg vw vs g0) (f' : ¬ u0 = 0 → FERv K' D' X' Y' L' bs' len' pR g21 gr g0' gA dF) :
    (if (0 ≤ p0.toInt ∧ p0.toInt < 7) then (if v0.toInt = 0 then -2 else g0 p0.toNatClampNeg) else (-3 : Int32)) = (if (0 ≤ p0.toInt ∧ p0.toInt < 7) then (if u0.toInt = 0 then -2 else g0' p0.toNatClampNeg) else -3) := by
  by_cases c : 0 ≤ p0.toInt ∧ p0.toInt < 7
  · rw [if_pos c, if_pos c]
    by_cases z : v0 = 0
    · have z' := js.mp z
      rw [if_pos (show v0.toInt = 0 from (fa_eq _ _).mp z), if_pos (show u0.toInt = 0 from (fa_eq _ _).mp z')]
    · have z' : ¬ u0 = 0 := fun q => z (js.mpr q)
      rw [if_neg (show ¬ v0.toInt = 0 from fun q => z ((fa_eq _ _).mpr q)), if_neg (show ¬ u0.toInt = 0 from fun q => z' ((fa_eq _ _).mpr q))]
      exact (FE_same hL rlen j5 jK jD jX jY j7 hb hP' (h' z').2 (h z).1 (h' z').1 (f z) (f' z')).2.1 _ (cl_lt (n := 7) c.1 c.2)
  · rw [if_neg c, if_neg c]
theorem cmp_narrow {K D X Y R W L K' D' X' Y' L' WC M M' : Nat → Int32} {bs bs' len' gr : Nat} {wd : Nat → Nat} {v v0 u0 vg vw vs p0 : Int32} {ow sA pR gA dF : Nat → Nat} {n4 us po g21 n4' us' po' g0 g0' : Nat → Int32} (hL : IL L) (rlen : len' ≤ 120) (j5 : ∀ k, k < 12 → L k = L' k) (jK : ∀ j, j < 120 → K j = K' j) (jD : ∀ j, j < 120 → D j = D' j) (jX : ∀ j, j < 120 → X j = X' j) (jY : ∀ j, j < 120 → Y j = Y' j) (j7 : J7 L R W K' D' X' Y') (hb : bs = bs') (hP' : PK8a K' D' X' Y' L' M' WC wd bs') (js : v0 = 0 ↔ u0 = 0) (h : ¬ v0 = 0 → STC K D X Y R W L bs v ow sA n4 us po ∧ ∀ i, i < 12 → ¬ M i = 0) (h' : ¬ u0 = 0 → STR K' D' X' Y' L' bs' len' pR g21 n4' us' po' ∧ ∀ i, i < 12 → ¬ M' i = 0) (f : ¬ v0 = 0 → FEv K D X Y ow sA v vg vw vs g0) (f' : ¬ u0 = 0 → FERv K' D' X' Y' L' bs' len' pR g21 gr g0' gA dF) :
    (if v0.toInt = 0 then (-2 : Int32) else if p0.toInt = 0 then vw else if p0.toInt = 1 then vw * v else if p0.toInt = 2 then vg else if p0.toInt = 3 then vs else -6) = (if u0.toInt = 0 then -2 else if p0.toInt = 0 then nI (sumN (fun k => blN (gA k)) gr + blN len') else if p0.toInt = 1 then nI ((sumN (fun k => blN (gA k)) gr + blN len') * len') else if p0.toInt = 2 then nI gr else if p0.toInt = 3 then nI (sumN dF 7) else -6) := by
  by_cases z : v0 = 0
  · have z' := js.mp z
    rw [if_pos (show v0.toInt = 0 from (fa_eq _ _).mp z), if_pos (show u0.toInt = 0 from (fa_eq _ _).mp z')]
  · have z' : ¬ u0 = 0 := fun q => z (js.mpr q)
    obtain ⟨q1, q2, q3, q4, q5⟩ := FE_same hL rlen j5 jK jD jX jY j7 hb hP' (h' z').2 (h z).1 (h' z').1 (f z) (f' z')
    rw [if_neg (show ¬ v0.toInt = 0 from fun q => z ((fa_eq _ _).mpr q)), if_neg (show ¬ u0.toInt = 0 from fun q => z' ((fa_eq _ _).mpr q)), q1, q3, q4, q5, pk_mul]
