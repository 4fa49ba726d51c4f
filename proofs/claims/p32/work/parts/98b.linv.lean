def lawA (s : State) : Nat → Prop := fun q => s.heap.size ≤ q
theorem law_E {p : Program} {s : State} {m : MethodId} {meth : Method} {c : Code} {b L : Nat} {xs : Nat → Int32} (C0 : lw_At p s m meth c b L xs) : CallFix p m c cL_law 4 s #[Value.ref b] wsL_law RL :=
  ⟨C0.1, C0.2.1, C0.2.2.2.1, C0.2.2.2.2.1, fun w h => C0.2.2.2.2.2.1 w (wsL_law_in w h)⟩
theorem k_permT {s : State} {A : Nat → Prop} {D : va_G} {ws : va_W} {tys : List (ClassId × FieldType)} {H : Heap} {locs : List Loc} {ws' : va_W} {tys' : List (ClassId × FieldType)} (h : KS D A ws tys s H locs) (is ts : List Nat) (hn : va_nd is = true) (h1 : is.filterMap (fun i => ws[i]?) = ws') (h2 : is.map (fun i => ws[i]?) = ws'.map some) (h3 : ts.filterMap (fun i => tys[i]?) = tys') : KS D A ws' tys' s H locs :=
  ⟨h.1.sub ts h3, h.2.1.sub is h1, h.2.2.1.sub is hn h2, h.2.2.2⟩
theorem IN_rst {w : Nat → Int32} {f f' k : Nat → Int64} {c : Prop} [Decidable c] (hw : IW w) (hf : IN f) (hk : IN k) (e : f' = if c then f else (fun j => if j < 8 then kcut (w j) (k j) else k j)) : IN f' := by
  by_cases h : c
  · rw [if_pos h] at e
    rw [e]
    exact hf
  · rw [if_neg h] at e
    rw [e]
    intro j hj
    simp only
    split
    · rename_i h8
      exact kcut_in _ (hw j h8).1 (hw j h8).2
    · exact hk j hj
theorem IN_rst7 {w : Nat → Int32} {f f' k : Nat → Int64} {c : Prop} [Decidable c] (hw : IW w) (hf : IN f) (e : f' = if c then f else (fun j => kput w (nI j) (k j))) : IN f' := by
  by_cases h : c
  · rw [if_pos h] at e
    rw [e]
    exact hf
  · rw [if_neg h] at e
    rw [e]
    exact IN_kput hw
theorem j_upd2 {f g F G : Nat → Int32} {c c' : Prop} [Decidable c] [Decidable c'] {k k' n : Nat} {x x' : Int32} (hcc : c ↔ c') (hk : c → k = k' ∧ x = x') (eF : F = if c then upd f k x else f) (eG : G = if c' then upd g k' x' else g) (h : ∀ j, j < n → f j = g j) : ∀ j, j < n → F j = G j := by
  intro j hj
  rw [eF, eG]
  by_cases hc : c
  · obtain ⟨e1, e2⟩ := hk hc
    rw [if_pos hc, if_pos (hcc.mp hc), e1, e2]
    unfold upd
    split
    · rfl
    · exact h j hj
  · rw [if_neg hc, if_neg (fun z => hc (hcc.mpr z))]
    exact h j hj
theorem j_len {v v' u u' p0 p1 : Int32} {c : Prop} [Decidable c] (h : v = u) (e1 : v' = if c then p1 else v) (e2 : u' = if c then p1 else u) : v' = u' := by rw [e1, e2, h]
theorem v_lay {v v' x y : Int32} (h : -1 ≤ v.toInt ∧ v.toInt ≤ 64) (e : v' = if (0 ≤ y.toInt ∧ (0 ≤ x.toInt ∧ x.toInt + y.toInt ≤ 64)) then y else v) : -1 ≤ v'.toInt ∧ v'.toInt ≤ 64 := by
  rw [e]
  split
  · omega
  · exact h
theorem bus_j {x vC vR : Int32} {b bC bR : Nat} (hb : 1 ≤ b ∧ b ≤ 3) (hC : 1 ≤ bC ∧ bC ≤ 3) (hR : 1 ≤ bR ∧ bR ≤ 3) (e1 : nI bC = if (1 ≤ x.toInt ∧ x.toInt ≤ 3) then x else nI b) (e2 : nI bR = if (1 ≤ x.toInt ∧ x.toInt ≤ 3) then x else nI b) : bC = bR := (nI_eq (by omega) (by omega)).mp (e1.trans e2.symm)
/-- what holds between two calls of the law -/
def LInv (dC : Nat → ClassId) (dI : Nat → Nat → Nat) (A : Nat → Prop) (s : State) (o7 : Nat) (o8 : Nat) (al7 : Nat → Nat) (ka7 : Nat → ClassId) (o2 : Nat) (al2 : Nat → Nat) (ka2 : Nat → ClassId) (o5 : Nat) (al5 : Nat → Nat) (ka5 : Nat → ClassId) (o3 : Nat) (al3 : Nat → Nat) (ka3 : Nat → ClassId) (o6 : Nat) (al6 : Nat → Nat) (ka6 : Nat → ClassId) (o4 : Nat) (al4 : Nat → Nat) (ka4 : Nat → ClassId) (o1 : Nat) (al1 : Nat → Nat) (ka1 : Nat → ClassId) (o0 : Nat) (al0 : Nat → Nat) (ka0 : Nat → ClassId) (al8 : Nat → Nat) (ka8 : Nat → ClassId) (H : Heap) (locs : List Loc) : Prop := ∃ (v7_8 : Int32) (v7_9 : Int32) (v7_10 : Int32) (v7_12 : Int32) (v7_14 : Int32) (f7_6 : Nat → Int32) (f7_7 : Nat → Int32) (f7_11 : Nat → Int64) (f7_13 : Nat → Int32) (f7_15 : Nat → Int32) (v2_4 : Int32) (f2_0 : Nat → Int32) (f2_1 : Nat → Int64) (f2_2 : Nat → Int32) (f2_3 : Nat → Int64) (f5_0 : Nat → Int32) (f5_1 : Nat → Int32) (f5_2 : Nat → Int32) (f5_3 : Nat → Int32) (f5_4 : Nat → Int32) (f5_5 : Nat → Int32) (f5_6 : Nat → Int32) (bsC : Nat) (f3_0 : Nat → Int32) (f3_1 : Nat → Int32) (f3_2 : Nat → Int32) (aO : Nat → Nat) (v6_8 : Int32) (v6_9 : Int32) (cH : Nat → Nat) (f6_2 : Nat → Int32) (f6_3 : Nat → Int32) (f6_4 : Nat → Int32) (f6_5 : Nat → Int32) (f6_6 : Nat → Int32) (tF : Nat → Nat) (v4_0 : Int32) (v4_1 : Int32) (ow : Nat → Nat) (sA : Nat → Nat) (f4_4 : Nat → Int32) (f4_5 : Nat → Int32) (f4_6 : Nat → Int32) (v1_1 : Int32) (v1_2 : Int32) (v1_3 : Int32) (f1_0 : Nat → Int32) (sS : Nat → Nat) (f1_5 : Nat → Int32) (dF : Nat → Nat) (f1_7 : Nat → Int32) (f1_8 : Nat → Int32) (f1_9 : Nat → Int32) (v0_0 : Int32) (v0_1 : Int32) (v0_2 : Int32) (v0_8 : Int32) (f0_6 : Nat → Int32) (f0_7 : Nat → Int64) (f0_9 : Nat → Int64) (v8_6 : Int32) (bsR : Nat) (lenR : Nat) (v8_26 : Int32) (gR : Nat) (v8_33 : Int32) (v8_34 : Int32) (v8_35 : Int32) (v8_38 : Int32) (v8_39 : Int32) (v8_40 : Int32) (v8_43 : Int32) (f8_0 : Nat → Int64) (f8_1 : Nat → Int64) (f8_2 : Nat → Int64) (f8_3 : Nat → Int64) (f8_4 : Nat → Int64) (f8_5 : Nat → Int32) (f8_7 : Nat → Int32) (f8_8 : Nat → Int32) (f8_9 : Nat → Int32) (f8_10 : Nat → Int32) (f8_11 : Nat → Int32) (f8_13 : Nat → Int32) (fW : Nat → Nat) (wD : Nat → Nat) (f8_16 : Nat → Int32) (eE : Nat → Nat) (eB : Nat → Nat) (f8_19 : Nat → Int32) (pR : Nat → Nat) (f8_21 : Nat → Int32) (f8_22 : Nat → Int32) (f8_23 : Nat → Int32) (f8_24 : Nat → Int32) (f8_27 : Nat → Int32) (dR : Nat → Nat) (f8_29 : Nat → Int32) (f8_30 : Nat → Int32) (gA : Nat → Nat) (f8_36 : Nat → Int64) (f8_37 : Nat → Int32) (f8_41 : Nat → Int32) (f8_42 : Nat → Int32), KS (dC, dI) A [(o7, .inr (7, [.ref o2, .ref o5, .ref o3, .ref o4, .ref o1, .ref o0, .ref (al7 0), .ref (al7 1), .int v7_8, .int v7_9, .int v7_10, .ref (al7 2), .int v7_12, .ref (al7 3), .int v7_14, .ref (al7 4)])), ((al7 0), .inl ((ka7 0), 3, .inl f7_6)), ((al7 1), .inl ((ka7 1), 16, .inl f7_7)), ((al7 2), .inl ((ka7 2), 74, .inr (.inl f7_11))), ((al7 3), .inl ((ka7 3), 64, .inl f7_13)), ((al7 4), .inl ((ka7 4), 8, .inl f7_15)), (o2, .inr (2, [.ref (al2 0), .ref (al2 1), .ref (al2 2), .ref (al2 3), .int v2_4])), ((al2 0), .inl ((ka2 0), 8, .inl f2_0)), ((al2 1), .inl ((ka2 1), 74, .inr (.inl f2_1))), ((al2 2), .inl ((ka2 2), 30, .inl f2_2)), ((al2 3), .inl ((ka2 3), 30, .inr (.inl f2_3))), (o5, .inr (5, [.ref (al5 0), .ref (al5 1), .ref (al5 2), .ref (al5 3), .ref (al5 4), .ref (al5 5), .ref (al5 6)])), ((al5 0), .inl ((ka5 0), 12, .inl f5_0)), ((al5 1), .inl ((ka5 1), 120, .inl f5_1)), ((al5 2), .inl ((ka5 2), 120, .inl f5_2)), ((al5 3), .inl ((ka5 3), 120, .inl f5_3)), ((al5 4), .inl ((ka5 4), 120, .inl f5_4)), ((al5 5), .inl ((ka5 5), 120, .inl f5_5)), ((al5 6), .inl ((ka5 6), 120, .inl f5_6)), (o3, .inr (3, [.ref (al3 0), .ref (al3 1), .ref (al3 2), .ref (al3 3), .int (nI bsC), .ref o5, .ref o6])), ((al3 0), .inl ((ka3 0), 12, .inl f3_0)), ((al3 1), .inl ((ka3 1), 12, .inl f3_1)), ((al3 2), .inl ((ka3 2), 120, .inl f3_2)), ((al3 3), .inl ((ka3 3), 120, .inl (fun j => nI (aO j)))), (o6, .inr (6, [.ref (al6 0), .ref o5, .ref (al6 1), .ref (al6 2), .ref (al6 3), .ref (al6 4), .ref (al6 5), .ref (al6 6), .int v6_8, .int v6_9])), ((al6 0), .inl ((ka6 0), 10, .inl (fun j => nI (cH j)))), ((al6 1), .inl ((ka6 1), 10, .inl f6_2)), ((al6 2), .inl ((ka6 2), 10, .inl f6_3)), ((al6 3), .inl ((ka6 3), 10, .inl f6_4)), ((al6 4), .inl ((ka6 4), 5, .inl f6_5)), ((al6 5), .inl ((ka6 5), 5, .inl f6_6)), ((al6 6), .inl ((ka6 6), 1024, .inl (fun j => nI (tF j)))), (o4, .inr (4, [.int v4_0, .int v4_1, .ref (al4 0), .ref (al4 1), .ref (al4 2), .ref (al4 3), .ref (al4 4), .ref o5, .ref o3])), ((al4 0), .inl ((ka4 0), 120, .inl (fun j => nI (ow j)))), ((al4 1), .inl ((ka4 1), 120, .inl (fun j => nI (sA j)))), ((al4 2), .inl ((ka4 2), 120, .inl f4_4)), ((al4 3), .inl ((ka4 3), 120, .inl f4_5)), ((al4 4), .inl ((ka4 4), 120, .inl f4_6)), (o1, .inr (1, [.ref (al1 0), .int v1_1, .int v1_2, .int v1_3, .ref (al1 1), .ref (al1 2), .ref (al1 3), .ref (al1 4), .ref (al1 5), .ref (al1 6), .ref o5, .ref o4])), ((al1 0), .inl ((ka1 0), 7, .inl f1_0)), ((al1 1), .inl ((ka1 1), 120, .inl (fun j => nI (sS j)))), ((al1 2), .inl ((ka1 2), 120, .inl f1_5)), ((al1 3), .inl ((ka1 3), 7, .inl (fun j => nI (dF j)))), ((al1 4), .inl ((ka1 4), 7, .inl f1_7)), ((al1 5), .inl ((ka1 5), 7, .inl f1_8)), ((al1 6), .inl ((ka1 6), 7, .inl f1_9)), (o0, .inr (0, [.int v0_0, .int v0_1, .int v0_2, .ref o2, .ref o5, .ref o3, .ref (al0 0), .ref (al0 1), .int v0_8, .ref (al0 2)])), ((al0 0), .inl ((ka0 0), 30, .inl f0_6)), ((al0 1), .inl ((ka0 1), 30, .inr (.inl f0_7))), ((al0 2), .inl ((ka0 2), 74, .inr (.inl f0_9))), (o8, .inr (8, [.ref (al8 0), .ref (al8 1), .ref (al8 2), .ref (al8 3), .ref (al8 4), .ref (al8 5), .int v8_6, .ref (al8 6), .ref (al8 7), .ref (al8 8), .ref (al8 9), .ref (al8 10), .int (nI bsR), .ref (al8 11), .ref (al8 12), .ref (al8 13), .ref (al8 14), .ref (al8 15), .ref (al8 16), .ref (al8 17), .ref (al8 18), .ref (al8 19), .ref (al8 20), .ref (al8 21), .ref (al8 22), .int (nI lenR), .int v8_26, .ref (al8 23), .ref (al8 24), .ref (al8 25), .ref (al8 26), .ref (al8 27), .int (nI gR), .int v8_33, .int v8_34, .int v8_35, .ref (al8 28), .ref (al8 29), .int v8_38, .int v8_39, .int v8_40, .ref (al8 30), .ref (al8 31), .int v8_43])), ((al8 0), .inl ((ka8 0), 74, .inr (.inl f8_0))), ((al8 1), .inl ((ka8 1), 74, .inr (.inl f8_1))), ((al8 2), .inl ((ka8 2), 74, .inr (.inl f8_2))), ((al8 3), .inl ((ka8 3), 74, .inr (.inl f8_3))), ((al8 4), .inl ((ka8 4), 74, .inr (.inl f8_4))), ((al8 5), .inl ((ka8 5), 8, .inl f8_5)), ((al8 6), .inl ((ka8 6), 120, .inl f8_7)), ((al8 7), .inl ((ka8 7), 120, .inl f8_8)), ((al8 8), .inl ((ka8 8), 120, .inl f8_9)), ((al8 9), .inl ((ka8 9), 120, .inl f8_10)), ((al8 10), .inl ((ka8 10), 12, .inl f8_11)), ((al8 11), .inl ((ka8 11), 8, .inl f8_13)), ((al8 12), .inl ((ka8 12), 1024, .inl (fun j => nI (fW j)))), ((al8 13), .inl ((ka8 13), 120, .inl (fun j => nI (wD j)))), ((al8 14), .inl ((ka8 14), 12, .inl f8_16)), ((al8 15), .inl ((ka8 15), 10, .inl (fun j => nI (eE j)))), ((al8 16), .inl ((ka8 16), 10, .inl (fun j => nI (eB j)))), ((al8 17), .inl ((ka8 17), 12, .inl f8_19)), ((al8 18), .inl ((ka8 18), 120, .inl (fun j => nI (pR j)))), ((al8 19), .inl ((ka8 19), 120, .inl f8_21)), ((al8 20), .inl ((ka8 20), 120, .inl f8_22)), ((al8 21), .inl ((ka8 21), 120, .inl f8_23)), ((al8 22), .inl ((ka8 22), 120, .inl f8_24)), ((al8 23), .inl ((ka8 23), 840, .inl f8_27)), ((al8 24), .inl ((ka8 24), 7, .inl (fun j => nI (dR j)))), ((al8 25), .inl ((ka8 25), 7, .inl f8_29)), ((al8 26), .inl ((ka8 26), 7, .inl f8_30)), ((al8 27), .inl ((ka8 27), 7, .inl (fun j => nI (gA j)))), ((al8 28), .inl ((ka8 28), 74, .inr (.inl f8_36))), ((al8 29), .inl ((ka8 29), 16, .inl f8_37)), ((al8 30), .inl ((ka8 30), 64, .inl f8_41)), ((al8 31), .inl ((ka8 31), 64, .inl f8_42))] [((ka7 0), .int), ((ka7 1), .int), ((ka7 2), .long), ((ka7 3), .short), ((ka7 4), .int), ((ka2 0), .int), ((ka2 1), .long), ((ka2 2), .int), ((ka2 3), .long), ((ka5 0), .int), ((ka5 1), .int), ((ka5 2), .int), ((ka5 3), .int), ((ka5 4), .int), ((ka5 5), .int), ((ka5 6), .int), ((ka3 0), .boolean), ((ka3 1), .int), ((ka3 2), .int), ((ka3 3), .int), ((ka6 0), .int), ((ka6 1), .int), ((ka6 2), .int), ((ka6 3), .int), ((ka6 4), .int), ((ka6 5), .int), ((ka6 6), .byte), ((ka4 0), .int), ((ka4 1), .int), ((ka4 2), .int), ((ka4 3), .int), ((ka4 4), .int), ((ka1 0), .int), ((ka1 1), .int), ((ka1 2), .int), ((ka1 3), .int), ((ka1 4), .int), ((ka1 5), .int), ((ka1 6), .int), ((ka0 0), .int), ((ka0 1), .long), ((ka0 2), .long), ((ka8 0), .long), ((ka8 1), .long), ((ka8 2), .long), ((ka8 3), .long), ((ka8 4), .long), ((ka8 5), .int), ((ka8 6), .int), ((ka8 7), .int), ((ka8 8), .int), ((ka8 9), .int), ((ka8 10), .int), ((ka8 11), .int), ((ka8 12), .int), ((ka8 13), .int), ((ka8 14), .int), ((ka8 15), .int), ((ka8 16), .int), ((ka8 17), .boolean), ((ka8 18), .int), ((ka8 19), .int), ((ka8 20), .int), ((ka8 21), .int), ((ka8 22), .int), ((ka8 23), .int), ((ka8 24), .int), ((ka8 25), .int), ((ka8 26), .int), ((ka8 27), .int), ((ka8 28), .long), ((ka8 29), .int), ((ka8 30), .int), ((ka8 31), .int)] s H locs ∧ (IW f2_0) ∧ (IN f2_1) ∧ (IP f2_2) ∧ (IO f2_3) ∧ (0 ≤ v2_4.toInt ∧ v2_4.toInt ≤ 30) ∧ (IR f5_1 f5_2 f5_3 f5_4) ∧ (IL f5_0) ∧ (IL f3_1) ∧ (1 ≤ bsC ∧ bsC ≤ 3) ∧ (PKa f5_1 f5_5 f5_6 f5_0 f3_0 f3_1 aO bsC) ∧ (IB f3_0) ∧ (IP f0_6) ∧ (0 ≤ v0_8.toInt ∧ v0_8.toInt ≤ 30) ∧ (IT f7_7) ∧ (-1 ≤ v7_14.toInt ∧ v7_14.toInt ≤ 64) ∧ (IS f7_13) ∧ (0 ≤ v4_1.toInt ∧ v4_1.toInt ≤ 120) ∧ (IW f8_5) ∧ (IN f8_0) ∧ (IN f8_1) ∧ (IR f8_7 f8_8 f8_9 f8_10) ∧ (IL f8_11) ∧ (1 ≤ bsR ∧ bsR ≤ 3) ∧ (IL f8_16) ∧ (IB f8_19) ∧ (PK8a f8_7 f8_8 f8_9 f8_10 f8_11 f8_19 f8_16 wD bsR) ∧ (IT f8_37) ∧ (-1 ≤ v8_43.toInt ∧ v8_43.toInt ≤ 64) ∧ (pRok pR) ∧ (lenR ≤ 120) ∧ (gR ≤ 7) ∧ (∀ g, g < 7 → gA g ≤ 840) ∧ (∀ k, k < 8 → f2_0 k = f8_5 k) ∧ (v7_14 = v8_43) ∧ (bsC = bsR) ∧ (∀ k, k < 16 → f7_7 k = f8_37 k) ∧ (∀ k, k < 12 → f5_0 k = f8_11 k) ∧ (∀ j, j < 120 → f5_1 j = f8_7 j) ∧ (∀ j, j < 120 → f5_2 j = f8_8 j) ∧ (∀ j, j < 120 → f5_3 j = f8_9 j) ∧ (∀ j, j < 120 → f5_4 j = f8_10 j) ∧ (J7 f5_0 f5_5 f5_6 f8_7 f8_8 f8_9 f8_10) ∧ (f2_1 = f8_0) ∧ (v7_12 = v8_6) ∧ (f7_11 = f8_1) ∧ (f7_6 0 = v8_33) ∧ (f7_6 1 = v8_34) ∧ (f7_6 2 = v8_35) ∧ (v7_8 = v8_38) ∧ (v7_9 = v8_39) ∧ (v7_10 = v8_40) ∧ (∀ k : Nat, (k : Int) < v7_14.toInt → f7_13 k = f8_41 k)
theorem LInv_mk {dC : Nat → ClassId} {dI : Nat → Nat → Nat} {A : Nat → Prop} {s : State} {o7 : Nat} {o8 : Nat} {al7 : Nat → Nat} {ka7 : Nat → ClassId} {o2 : Nat} {al2 : Nat → Nat} {ka2 : Nat → ClassId} {o5 : Nat} {al5 : Nat → Nat} {ka5 : Nat → ClassId} {o3 : Nat} {al3 : Nat → Nat} {ka3 : Nat → ClassId} {o6 : Nat} {al6 : Nat → Nat} {ka6 : Nat → ClassId} {o4 : Nat} {al4 : Nat → Nat} {ka4 : Nat → ClassId} {o1 : Nat} {al1 : Nat → Nat} {ka1 : Nat → ClassId} {o0 : Nat} {al0 : Nat → Nat} {ka0 : Nat → ClassId} {al8 : Nat → Nat} {ka8 : Nat → ClassId} {H : Heap} {locs : List Loc} {v7_8 : Int32} {v7_9 : Int32} {v7_10 : Int32} {v7_12 : Int32} {v7_14 : Int32} {f7_6 : Nat → Int32} {f7_7 : Nat → Int32} {f7_11 : Nat → Int64} {f7_13 : Nat → Int32} {f7_15 : Nat → Int32} {v2_4 : Int32} {f2_0 : Nat → Int32} {f2_1 : Nat → Int64} {f2_2 : Nat → Int32} {f2_3 : Nat → Int64} {f5_0 : Nat → Int32} {f5_1 : Nat → Int32} {f5_2 : Nat → Int32} {f5_3 : Nat → Int32} {f5_4 : Nat → Int32} {f5_5 : Nat → Int32} {f5_6 : Nat → Int32} {bsC : Nat} {f3_0 : Nat → Int32} {f3_1 : Nat → Int32} {f3_2 : Nat → Int32} {aO : Nat → Nat} {v6_8 : Int32} {v6_9 : Int32} {cH : Nat → Nat} {f6_2 : Nat → Int32} {f6_3 : Nat → Int32} {f6_4 : Nat → Int32} {f6_5 : Nat → Int32} {f6_6 : Nat → Int32} {tF : Nat → Nat} {v4_0 : Int32} {v4_1 : Int32} {ow : Nat → Nat} {sA : Nat → Nat} {f4_4 : Nat → Int32} {f4_5 : Nat → Int32} {f4_6 : Nat → Int32} {v1_1 : Int32} {v1_2 : Int32} {v1_3 : Int32} {f1_0 : Nat → Int32} {sS : Nat → Nat} {f1_5 : Nat → Int32} {dF : Nat → Nat} {f1_7 : Nat → Int32} {f1_8 : Nat → Int32} {f1_9 : Nat → Int32} {v0_0 : Int32} {v0_1 : Int32} {v0_2 : Int32} {v0_8 : Int32} {f0_6 : Nat → Int32} {f0_7 : Nat → Int64} {f0_9 : Nat → Int64} {v8_6 : Int32} {bsR : Nat} {lenR : Nat} {v8_26 : Int32} {gR : Nat} {v8_33 : Int32} {v8_34 : Int32} {v8_35 : Int32} {v8_38 : Int32} {v8_39 : Int32} {v8_40 : Int32} {v8_43 : Int32} {f8_0 : Nat → Int64} {f8_1 : Nat → Int64} {f8_2 : Nat → Int64} {f8_3 : Nat → Int64} {f8_4 : Nat → Int64} {f8_5 : Nat → Int32} {f8_7 : Nat → Int32} {f8_8 : Nat → Int32} {f8_9 : Nat → Int32} {f8_10 : Nat → Int32} {f8_11 : Nat → Int32} {f8_13 : Nat → Int32} {fW : Nat → Nat} {wD : Nat → Nat} {f8_16 : Nat → Int32} {eE : Nat → Nat} {eB : Nat → Nat} {f8_19 : Nat → Int32} {pR : Nat → Nat} {f8_21 : Nat → Int32} {f8_22 : Nat → Int32} {f8_23 : Nat → Int32} {f8_24 : Nat → Int32} {f8_27 : Nat → Int32} {dR : Nat → Nat} {f8_29 : Nat → Int32} {f8_30 : Nat → Int32} {gA : Nat → Nat} {f8_36 : Nat → Int64} {f8_37 : Nat → Int32} {f8_41 : Nat → Int32} {f8_42 : Nat → Int32} (h : KS (dC, dI) A [(o7, .inr (7, [.ref o2, .ref o5, .ref o3, .ref o4, .ref o1, .ref o0, .ref (al7 0), .ref (al7 1), .int v7_8, .int v7_9, .int v7_10, .ref (al7 2), .int v7_12, .ref (al7 3), .int v7_14, .ref (al7 4)])), ((al7 0), .inl ((ka7 0), 3, .inl f7_6)), ((al7 1), .inl ((ka7 1), 16, .inl f7_7)), ((al7 2), .inl ((ka7 2), 74, .inr (.inl f7_11))), ((al7 3), .inl ((ka7 3), 64, .inl f7_13)), ((al7 4), .inl ((ka7 4), 8, .inl f7_15)), (o2, .inr (2, [.ref (al2 0), .ref (al2 1), .ref (al2 2), .ref (al2 3), .int v2_4])), ((al2 0), .inl ((ka2 0), 8, .inl f2_0)), ((al2 1), .inl ((ka2 1), 74, .inr (.inl f2_1))), ((al2 2), .inl ((ka2 2), 30, .inl f2_2)), ((al2 3), .inl ((ka2 3), 30, .inr (.inl f2_3))), (o5, .inr (5, [.ref (al5 0), .ref (al5 1), .ref (al5 2), .ref (al5 3), .ref (al5 4), .ref (al5 5), .ref (al5 6)])), ((al5 0), .inl ((ka5 0), 12, .inl f5_0)), ((al5 1), .inl ((ka5 1), 120, .inl f5_1)), ((al5 2), .inl ((ka5 2), 120, .inl f5_2)), ((al5 3), .inl ((ka5 3), 120, .inl f5_3)), ((al5 4), .inl ((ka5 4), 120, .inl f5_4)), ((al5 5), .inl ((ka5 5), 120, .inl f5_5)), ((al5 6), .inl ((ka5 6), 120, .inl f5_6)), (o3, .inr (3, [.ref (al3 0), .ref (al3 1), .ref (al3 2), .ref (al3 3), .int (nI bsC), .ref o5, .ref o6])), ((al3 0), .inl ((ka3 0), 12, .inl f3_0)), ((al3 1), .inl ((ka3 1), 12, .inl f3_1)), ((al3 2), .inl ((ka3 2), 120, .inl f3_2)), ((al3 3), .inl ((ka3 3), 120, .inl (fun j => nI (aO j)))), (o6, .inr (6, [.ref (al6 0), .ref o5, .ref (al6 1), .ref (al6 2), .ref (al6 3), .ref (al6 4), .ref (al6 5), .ref (al6 6), .int v6_8, .int v6_9])), ((al6 0), .inl ((ka6 0), 10, .inl (fun j => nI (cH j)))), ((al6 1), .inl ((ka6 1), 10, .inl f6_2)), ((al6 2), .inl ((ka6 2), 10, .inl f6_3)), ((al6 3), .inl ((ka6 3), 10, .inl f6_4)), ((al6 4), .inl ((ka6 4), 5, .inl f6_5)), ((al6 5), .inl ((ka6 5), 5, .inl f6_6)), ((al6 6), .inl ((ka6 6), 1024, .inl (fun j => nI (tF j)))), (o4, .inr (4, [.int v4_0, .int v4_1, .ref (al4 0), .ref (al4 1), .ref (al4 2), .ref (al4 3), .ref (al4 4), .ref o5, .ref o3])), ((al4 0), .inl ((ka4 0), 120, .inl (fun j => nI (ow j)))), ((al4 1), .inl ((ka4 1), 120, .inl (fun j => nI (sA j)))), ((al4 2), .inl ((ka4 2), 120, .inl f4_4)), ((al4 3), .inl ((ka4 3), 120, .inl f4_5)), ((al4 4), .inl ((ka4 4), 120, .inl f4_6)), (o1, .inr (1, [.ref (al1 0), .int v1_1, .int v1_2, .int v1_3, .ref (al1 1), .ref (al1 2), .ref (al1 3), .ref (al1 4), .ref (al1 5), .ref (al1 6), .ref o5, .ref o4])), ((al1 0), .inl ((ka1 0), 7, .inl f1_0)), ((al1 1), .inl ((ka1 1), 120, .inl (fun j => nI (sS j)))), ((al1 2), .inl ((ka1 2), 120, .inl f1_5)), ((al1 3), .inl ((ka1 3), 7, .inl (fun j => nI (dF j)))), ((al1 4), .inl ((ka1 4), 7, .inl f1_7)), ((al1 5), .inl ((ka1 5), 7, .inl f1_8)), ((al1 6), .inl ((ka1 6), 7, .inl f1_9)), (o0, .inr (0, [.int v0_0, .int v0_1, .int v0_2, .ref o2, .ref o5, .ref o3, .ref (al0 0), .ref (al0 1), .int v0_8, .ref (al0 2)])), ((al0 0), .inl ((ka0 0), 30, .inl f0_6)), ((al0 1), .inl ((ka0 1), 30, .inr (.inl f0_7))), ((al0 2), .inl ((ka0 2), 74, .inr (.inl f0_9))), (o8, .inr (8, [.ref (al8 0), .ref (al8 1), .ref (al8 2), .ref (al8 3), .ref (al8 4), .ref (al8 5), .int v8_6, .ref (al8 6), .ref (al8 7), .ref (al8 8), .ref (al8 9), .ref (al8 10), .int (nI bsR), .ref (al8 11), .ref (al8 12), .ref (al8 13), .ref (al8 14), .ref (al8 15), .ref (al8 16), .ref (al8 17), .ref (al8 18), .ref (al8 19), .ref (al8 20), .ref (al8 21), .ref (al8 22), .int (nI lenR), .int v8_26, .ref (al8 23), .ref (al8 24), .ref (al8 25), .ref (al8 26), .ref (al8 27), .int (nI gR), .int v8_33, .int v8_34, .int v8_35, .ref (al8 28), .ref (al8 29), .int v8_38, .int v8_39, .int v8_40, .ref (al8 30), .ref (al8 31), .int v8_43])), ((al8 0), .inl ((ka8 0), 74, .inr (.inl f8_0))), ((al8 1), .inl ((ka8 1), 74, .inr (.inl f8_1))), ((al8 2), .inl ((ka8 2), 74, .inr (.inl f8_2))), ((al8 3), .inl ((ka8 3), 74, .inr (.inl f8_3))), ((al8 4), .inl ((ka8 4), 74, .inr (.inl f8_4))), ((al8 5), .inl ((ka8 5), 8, .inl f8_5)), ((al8 6), .inl ((ka8 6), 120, .inl f8_7)), ((al8 7), .inl ((ka8 7), 120, .inl f8_8)), ((al8 8), .inl ((ka8 8), 120, .inl f8_9)), ((al8 9), .inl ((ka8 9), 120, .inl f8_10)), ((al8 10), .inl ((ka8 10), 12, .inl f8_11)), ((al8 11), .inl ((ka8 11), 8, .inl f8_13)), ((al8 12), .inl ((ka8 12), 1024, .inl (fun j => nI (fW j)))), ((al8 13), .inl ((ka8 13), 120, .inl (fun j => nI (wD j)))), ((al8 14), .inl ((ka8 14), 12, .inl f8_16)), ((al8 15), .inl ((ka8 15), 10, .inl (fun j => nI (eE j)))), ((al8 16), .inl ((ka8 16), 10, .inl (fun j => nI (eB j)))), ((al8 17), .inl ((ka8 17), 12, .inl f8_19)), ((al8 18), .inl ((ka8 18), 120, .inl (fun j => nI (pR j)))), ((al8 19), .inl ((ka8 19), 120, .inl f8_21)), ((al8 20), .inl ((ka8 20), 120, .inl f8_22)), ((al8 21), .inl ((ka8 21), 120, .inl f8_23)), ((al8 22), .inl ((ka8 22), 120, .inl f8_24)), ((al8 23), .inl ((ka8 23), 840, .inl f8_27)), ((al8 24), .inl ((ka8 24), 7, .inl (fun j => nI (dR j)))), ((al8 25), .inl ((ka8 25), 7, .inl f8_29)), ((al8 26), .inl ((ka8 26), 7, .inl f8_30)), ((al8 27), .inl ((ka8 27), 7, .inl (fun j => nI (gA j)))), ((al8 28), .inl ((ka8 28), 74, .inr (.inl f8_36))), ((al8 29), .inl ((ka8 29), 16, .inl f8_37)), ((al8 30), .inl ((ka8 30), 64, .inl f8_41)), ((al8 31), .inl ((ka8 31), 64, .inl f8_42))] [((ka7 0), .int), ((ka7 1), .int), ((ka7 2), .long), ((ka7 3), .short), ((ka7 4), .int), ((ka2 0), .int), ((ka2 1), .long), ((ka2 2), .int), ((ka2 3), .long), ((ka5 0), .int), ((ka5 1), .int), ((ka5 2), .int), ((ka5 3), .int), ((ka5 4), .int), ((ka5 5), .int), ((ka5 6), .int), ((ka3 0), .boolean), ((ka3 1), .int), ((ka3 2), .int), ((ka3 3), .int), ((ka6 0), .int), ((ka6 1), .int), ((ka6 2), .int), ((ka6 3), .int), ((ka6 4), .int), ((ka6 5), .int), ((ka6 6), .byte), ((ka4 0), .int), ((ka4 1), .int), ((ka4 2), .int), ((ka4 3), .int), ((ka4 4), .int), ((ka1 0), .int), ((ka1 1), .int), ((ka1 2), .int), ((ka1 3), .int), ((ka1 4), .int), ((ka1 5), .int), ((ka1 6), .int), ((ka0 0), .int), ((ka0 1), .long), ((ka0 2), .long), ((ka8 0), .long), ((ka8 1), .long), ((ka8 2), .long), ((ka8 3), .long), ((ka8 4), .long), ((ka8 5), .int), ((ka8 6), .int), ((ka8 7), .int), ((ka8 8), .int), ((ka8 9), .int), ((ka8 10), .int), ((ka8 11), .int), ((ka8 12), .int), ((ka8 13), .int), ((ka8 14), .int), ((ka8 15), .int), ((ka8 16), .int), ((ka8 17), .boolean), ((ka8 18), .int), ((ka8 19), .int), ((ka8 20), .int), ((ka8 21), .int), ((ka8 22), .int), ((ka8 23), .int), ((ka8 24), .int), ((ka8 25), .int), ((ka8 26), .int), ((ka8 27), .int), ((ka8 28), .long), ((ka8 29), .int), ((ka8 30), .int), ((ka8 31), .int)] s H locs) (cIw : IW f2_0) (cN : IN f2_1) (cO : IP f2_2) (cM : IO f2_3) (col : 0 ≤ v2_4.toInt ∧ v2_4.toInt ≤ 30) (cR : IR f5_1 f5_2 f5_3 f5_4) (cL5 : IL f5_0) (cL3 : IL f3_1) (cbs : 1 ≤ bsC ∧ bsC ≤ 3) (cPK : PKa f5_1 f5_5 f5_6 f5_0 f3_0 f3_1 aO bsC) (cB : IB f3_0) (cQ : IP f0_6) (cw : 0 ≤ v0_8.toInt ∧ v0_8.toInt ≤ 30) (cT : IT f7_7) (cv : -1 ≤ v7_14.toInt ∧ v7_14.toInt ≤ 64) (cS : IS f7_13) (cv4 : 0 ≤ v4_1.toInt ∧ v4_1.toInt ≤ 120) (rIw : IW f8_5) (rN : IN f8_0) (rKe : IN f8_1) (rR_ : IR f8_7 f8_8 f8_9 f8_10) (rL8 : IL f8_11) (rbs : 1 ≤ bsR ∧ bsR ≤ 3) (rL6 : IL f8_16) (rB : IB f8_19) (rPK : PK8a f8_7 f8_8 f8_9 f8_10 f8_11 f8_19 f8_16 wD bsR) (rT : IT f8_37) (rv : -1 ≤ v8_43.toInt ∧ v8_43.toInt ≤ 64) (rpR : pRok pR) (rlen : lenR ≤ 120) (rgr : gR ≤ 7) (rg : ∀ g, g < 7 → gA g ≤ 840) (j1 : ∀ k, k < 8 → f2_0 k = f8_5 k) (j2 : v7_14 = v8_43) (j3 : bsC = bsR) (j4 : ∀ k, k < 16 → f7_7 k = f8_37 k) (j5 : ∀ k, k < 12 → f5_0 k = f8_11 k) (j6 : ∀ j, j < 120 → f5_1 j = f8_7 j) (j6b : ∀ j, j < 120 → f5_2 j = f8_8 j) (j6c : ∀ j, j < 120 → f5_3 j = f8_9 j) (j6d : ∀ j, j < 120 → f5_4 j = f8_10 j) (j7 : J7 f5_0 f5_5 f5_6 f8_7 f8_8 f8_9 f8_10) (j8 : f2_1 = f8_0) (j9 : v7_12 = v8_6) (j9b : f7_11 = f8_1) (j10 : f7_6 0 = v8_33) (j10b : f7_6 1 = v8_34) (j10c : f7_6 2 = v8_35) (j11 : v7_8 = v8_38) (j11b : v7_9 = v8_39) (j11c : v7_10 = v8_40) (j12 : ∀ k : Nat, (k : Int) < v7_14.toInt → f7_13 k = f8_41 k) : LInv dC dI A s o7 o8 al7 ka7 o2 al2 ka2 o5 al5 ka5 o3 al3 ka3 o6 al6 ka6 o4 al4 ka4 o1 al1 ka1 o0 al0 ka0 al8 ka8 H locs := ⟨v7_8, v7_9, v7_10, v7_12, v7_14, f7_6, f7_7, f7_11, f7_13, f7_15, v2_4, f2_0, f2_1, f2_2, f2_3, f5_0, f5_1, f5_2, f5_3, f5_4, f5_5, f5_6, bsC, f3_0, f3_1, f3_2, aO, v6_8, v6_9, cH, f6_2, f6_3, f6_4, f6_5, f6_6, tF, v4_0, v4_1, ow, sA, f4_4, f4_5, f4_6, v1_1, v1_2, v1_3, f1_0, sS, f1_5, dF, f1_7, f1_8, f1_9, v0_0, v0_1, v0_2, v0_8, f0_6, f0_7, f0_9, v8_6, bsR, lenR, v8_26, gR, v8_33, v8_34, v8_35, v8_38, v8_39, v8_40, v8_43, f8_0, f8_1, f8_2, f8_3, f8_4, f8_5, f8_7, f8_8, f8_9, f8_10, f8_11, f8_13, fW, wD, f8_16, eE, eB, f8_19, pR, f8_21, f8_22, f8_23, f8_24, f8_27, dR, f8_29, f8_30, gA, f8_36, f8_37, f8_41, f8_42, h, cIw, cN, cO, cM, col, cR, cL5, cL3, cbs, cPK, cB, cQ, cw, cT, cv, cS, cv4, rIw, rN, rKe, rR_, rL8, rbs, rL6, rB, rPK, rT, rv, rpR, rlen, rgr, rg, j1, j2, j3, j4, j5, j6, j6b, j6c, j6d, j7, j8, j9, j9b, j10, j10b, j10c, j11, j11b, j11c, j12⟩
theorem cmp_tear {v : Int32} (h : -1 ≤ v.toInt ∧ v.toInt ≤ 64) : (if v = -1 then (0 : Int32) else 1) = (if v.toInt < 0 then 0 else 1) := by
  have m1 : (-1 : Int32).toInt = -1 := by decide
  by_cases c : v.toInt < 0
  · rw [if_pos c, if_pos ((fa_eq _ _).mpr (by omega))]
  · rw [if_neg c, if_neg (fun z => c (by rw [z]; decide))]
theorem kadd10 {x : Int32} (h : 0 ≤ x.toInt ∧ x.toInt < 64) : (10 + x).toInt = 10 + x.toInt := by
  rw [Int32.toInt_add, show (10 : Int32).toInt = 10 by decide]
  exact fb_bmod (by omega) (by omega)
theorem kadd8 {x : Int32} (h : 0 ≤ x.toInt ∧ x.toInt ≤ 1) : (8 + x).toInt = 8 + x.toInt := by
  rw [Int32.toInt_add, show (8 : Int32).toInt = 8 by decide]
  exact fb_bmod (by omega) (by omega)
-- both sides do alike
theorem pkq_eq {q q' : mPI} (h : Qeq q q') : pkL q = pkL q' ∧ ∀ j, j < pkL q → pkA q j = pkA q' j := by
  have eL : pkL q = pkL q' := by
    by_cases c : ∃ L, mMW q 0 L
    · obtain ⟨L, hL⟩ := c
      rw [pk_L hL, pk_L (mMW_of h hL)]
    · have c' : ¬ ∃ L, mMW q' 0 L := fun ⟨L, z⟩ => c ⟨L, mMW_of (Qeq_symm h) z⟩
      unfold pkL
      rw [dif_neg c, dif_neg c']
  refine ⟨eL, fun j hj => ?_⟩
  by_cases c : ∃ A, mPW q A (pkL q) 0 0
  · have c' : ∃ A, mPW q' A (pkL q') 0 0 := by
      obtain ⟨A, hA⟩ := c
      exact ⟨A, by rw [← eL]; exact mPW_of h _ _ _ hA⟩
    have e1 : mPW q (pkA q) (pkL q) 0 0 := by
      unfold pkA
      rw [dif_pos c]
      exact Classical.choose_spec c
    have e2 : mPW q' (pkA q') (pkL q') 0 0 := by
      unfold pkA
      rw [dif_pos c']
      exact Classical.choose_spec c'
    rw [← eL] at e2
    exact mPW_unique q' _ _ _ (mPW_of h _ _ _ e1) e2 j (Nat.zero_le _) (by omega)
  · have c' : ¬ ∃ A, mPW q' A (pkL q') 0 0 := fun ⟨A, z⟩ => c ⟨A, by rw [eL]; exact mPW_of (Qeq_symm h) _ _ _ z⟩
    unfold pkA
    rw [dif_neg c, dif_neg c']
theorem rows_eq {K D X Y K' D' X' Y' : Nat → Int32} {i : Nat} (hi : i < 12) (hR : IR K D X Y) (jK : ∀ j, j < 120 → K j = K' j) (jD : ∀ j, j < 120 → D j = D' j) (jX : ∀ j, j < 120 → X j = X' j) (jY : ∀ j, j < 120 → Y j = Y' j) : ∀ b, b < 10 → kAct (K (i * 10 + b)) (D (i * 10 + b)) (X (i * 10 + b)) (Y (i * 10 + b)) ∧ K (i * 10 + b) = K' (i * 10 + b) ∧ D (i * 10 + b) = D' (i * 10 + b) ∧ X (i * 10 + b) = X' (i * 10 + b) ∧ Y (i * 10 + b) = Y' (i * 10 + b) := fun b hb => ⟨hR _ (by omega), jK _ (by omega), jD _ (by omega), jX _ (by omega), jY _ (by omega)⟩
theorem doR_eq {w w' K D X Y L K' D' X' Y' L' : Nat → Int32} {q q' : mPI} {i : Nat} {N N' : Nat → Int64} (hw : ∀ k, k < 8 → w k = w' k) (hIw : IW w) (hN : IN N) (hi : i < 12) (hR : IR K D X Y) (jK : ∀ j, j < 120 → K j = K' j) (jD : ∀ j, j < 120 → D j = D' j) (jX : ∀ j, j < 120 → X j = X' j) (jY : ∀ j, j < 120 → Y j = Y' j) (jL : ∀ k, k < 12 → L k = L' k) (hq : Qeq q q') (jN : N = N') : ∀ p : Int32, doR w K D X Y L q p i N = doR w' K' D' X' Y' L' q' p i N' := by
  intro p
  subst jN
  have hr := rows_eq hi hR jK jD jX jY
  unfold doR
  by_cases hp : p.toInt = 0
  · rw [if_pos hp, if_pos hp]
    have e : lenN L i = lenN L' i := by
      unfold lenN
      rw [jL i hi]
    rw [← e]
    exact rnS_congr hw hIw hN hr _ (fun _ _ => rfl)
  · rw [if_neg hp, if_neg hp]
    obtain ⟨e1, e2⟩ := pkq_eq hq
    rw [← e1]
    exact rnS_congr hw hIw hN hr _ e2
theorem st1_eq {w w' T T' K D X Y K' D' X' Y' : Nat → Int32} {Q Q' : Nat → mPI} {N : Nat → Int64} (hw : ∀ k, k < 8 → w k = w' k) (hIw : IW w) (hN : IN N) (hR : IR K D X Y) (jK : ∀ j, j < 120 → K j = K' j) (jD : ∀ j, j < 120 → D j = D' j) (jX : ∀ j, j < 120 → X j = X' j) (jY : ∀ j, j < 120 → Y j = Y' j) (jT : ∀ k, k < 16 → T k = T' k) (hT : IT T) (hQ : ∀ c, c < 12 → Qeq (Q c) (Q' c)) (a o t p : Int32) : st1 w T K D X Y Q N a o t p = st1 w' T' K' D' X' Y' Q' N a o t p := by
  by_cases h : 63 < (N 7).toInt
  · rw [st1_1 h, st1_1 h]
  · have hc := cdX_lt hN h
    have e := jT _ hc
    have ht := hT _ hc
    by_cases h2 : (T (cdX N)).toInt < 0
    · rw [st1_2 h h2, st1_2 h (by rw [← e]; exact h2)]
    · obtain ⟨c, hc2, e9⟩ := kIns (x := T (cdX N)) (by omega)
      have hr := rows_eq hc2 hR jK jD jX jY
      obtain ⟨e1, e2⟩ := pkq_eq (hQ c hc2)
      have eR : rnS w K D X Y (c * 10) (pkA (Q c)) (gput w N 7 (N 7 + 1)) (pkL (Q c)) = rnS w' K' D' X' Y' (c * 10) (pkA (Q' c)) (gput w' N 7 (N 7 + 1)) (pkL (Q' c)) := by
        rw [← e1, ← gput_c hw (x := 7) (by decide)]
        exact rnS_congr hw hIw (IN_gput hIw hN (by decide)) hr _ e2
      rw [st1_0 h e9 hc2 rfl, st1_0 (T := T') h (by rw [← e]; exact e9) hc2 eR]
theorem IN_st1 {w T K D X Y : Nat → Int32} {Q : Nat → mPI} {N : Nat → Int64} (hIw : IW w) (hN : IN N) (hR : IR K D X Y) (hT : IT T) (a o t p : Int32) : IN (st1 w T K D X Y Q N a o t p).2.1 := by
  by_cases h : 63 < (N 7).toInt
  · rw [st1_1 h]
    exact hN
  · have hc := cdX_lt hN h
    have ht := hT _ hc
    by_cases h2 : (T (cdX N)).toInt < 0
    · rw [st1_2 h h2]
      exact hN
    · obtain ⟨c, hc2, e9⟩ := kIns (x := T (cdX N)) (by omega)
      rw [st1_0 h e9 hc2 rfl]
      exact IN_rnS hIw (IN_gput hIw hN (by decide)) (fun b hb => hR _ (by omega)) _
theorem stS_eq {w w' T T' K D X Y K' D' X' Y' : Nat → Int32} {Q Q' : Nat → mPI} {N N' : Nat → Int64} (hw : ∀ k, k < 8 → w k = w' k) (hIw : IW w) (hN : IN N) (hR : IR K D X Y) (jK : ∀ j, j < 120 → K j = K' j) (jD : ∀ j, j < 120 → D j = D' j) (jX : ∀ j, j < 120 → X j = X' j) (jY : ∀ j, j < 120 → Y j = Y' j) (jT : ∀ k, k < 16 → T k = T' k) (hT : IT T) (hQ : ∀ c, c < 12 → Qeq (Q c) (Q' c)) (jN : N = N') {a o t p a' o' t' p' : Int32} (ja : a = a') (jo : o = o') (jt : t = t') (jp : p = p') : ∀ n, stS w T K D X Y Q N a o t p n = stS w' T' K' D' X' Y' Q' N' a' o' t' p' n ∧ IN (stS w T K D X Y Q N a o t p n).1.2.1
  | 0 => by
    subst jN ja jo jt jp
    rw [stS_0, stS_0]
    exact ⟨rfl, hN⟩
  | n + 1 => by
    obtain ⟨ih, hI⟩ := stS_eq hw hIw hN hR jK jD jX jY jT hT hQ jN ja jo jt jp n
    have e1 := st1_eq hw hIw hI hR jK jD jX jY jT hT hQ
    rw [stS_s, stS_s, ← ih]
    by_cases c : (stS w T K D X Y Q N a o t p n).1.1 = 0
    · rw [st2_go c, st2_go c, ← e1]
      exact ⟨rfl, IN_st1 hIw hI hR hT _ _ _ _⟩
    · rw [st2_st c, st2_st c]
      exact ⟨rfl, hI⟩
theorem jN_p {w w' : Nat → Int32} {f f' g g' : Nat → Int64} {c : Prop} [Decidable c] {x : Int32} {v v' : Int64} (hw : c → ∀ k, k < 8 → w k = w' k) (hx : c → 0 ≤ x.toInt) (j8 : f = g) (hv : v = v') (e : f' = if c then gput w f x v else f) (e' : g' = if c then gput w' g x v' else g) : f' = g' := by
  subst j8 hv
  rw [e, e']
  by_cases h : c
  · rw [if_pos h, if_pos h, gput_c (hw h) (hx h)]
  · rw [if_neg h, if_neg h]
theorem rsF_c {w w' : Nat → Int32} {x : Nat → Int64} (h : ∀ k, k < 8 → w k = w' k) : rsF w x = rsF w' x := by
  funext j
  unfold rsF
  by_cases c : j < 74
  · rw [if_pos c, if_pos c, kput_c h (by rw [nI_toInt (by omega)]; omega)]
  · rw [if_neg c, if_neg c]
theorem jI {c : Prop} [Decidable c] {α : Type} {a b a' b' x y : α} (ha : c → a = a') (hb : b = b') (e : x = if c then a else b) (e' : y = if c then a' else b') : x = y := by
  rw [e, e', hb]
  by_cases h : c
  · rw [if_pos h, if_pos h, ha h]
  · rw [if_neg h, if_neg h]
theorem cmp_bes {c : Prop} {P P' : Prop} {r r' : Int32} (hP : c → (P ↔ P')) (h : (c → (r = 0 ∧ P) ∨ (r = 1 ∧ ¬ P)) ∧ (¬ c → r = -3)) (h' : (c → (r' = 0 ∧ P') ∨ (r' = 1 ∧ ¬ P')) ∧ (¬ c → r' = -3)) : r = r' := by
  by_cases z : c
  · have hp := hP z
    rcases h.1 z with ⟨e1, q1⟩ | ⟨e1, q1⟩ <;> rcases h'.1 z with ⟨e2, q2⟩ | ⟨e2, q2⟩
    · rw [e1, e2]
    · exact absurd (hp.mp q1) q2
    · exact absurd (hp.mpr q2) q1
    · rw [e1, e2]
  · rw [h.2 z, h'.2 z]
theorem klc0 (x : Int64) : lg_cmp x x = 0 := by
  rcases klc x x with ⟨e, k⟩ | ⟨e, k⟩ | ⟨e, k⟩
  · exact absurd k (by omega)
  · exact e
  · exact absurd k (by omega)
theorem cmp_told {f : Nat → Int32} {a b c x : Int32} (h0 : f 0 = a) (h1 : f 1 = b) (h2 : f 2 = c) : (if 0 ≤ x.toInt ∧ x.toInt < 3 then f x.toNatClampNeg else -6) = (if x.toInt = 0 then a else if x.toInt = 1 then b else if x.toInt = 2 then c else -6) := by
  by_cases c0 : x.toInt = 0
  · have e : x.toNatClampNeg = 0 := by unfold Int32.toNatClampNeg; omega
    rw [if_pos (by omega), if_pos c0, e, h0]
  · by_cases c1 : x.toInt = 1
    · have e : x.toNatClampNeg = 1 := by unfold Int32.toNatClampNeg; omega
      rw [if_pos (by omega), if_neg c0, if_pos c1, e, h1]
    · by_cases c2 : x.toInt = 2
      · have e : x.toNatClampNeg = 2 := by unfold Int32.toNatClampNeg; omega
        rw [if_pos (by omega), if_neg c0, if_neg c1, if_pos c2, e, h2]
      · rw [if_neg (by omega), if_neg c0, if_neg c1, if_neg c2]
theorem jL_lay {v v' u u' x y : Int32} {f f' g g' : Nat → Int32} {N N' : Nat → Int64} {c : Prop} [Decidable c] (hc : c → 0 ≤ y.toInt) (jN : N = N') (jv : v = u) (j : ∀ k : Nat, (k : Int) < v.toInt → f k = g k) (ev : v' = if c then y else v) (h1 : (c → ∀ k : Nat, (k : Int) < y.toInt → f' k = shv (N ((10 + x) + nI k).toNatClampNeg)) ∧ (¬ c → f' = f)) (h2 : (c → ∀ k : Nat, (k : Int) < y.toInt → g' k = shv (N' ((10 + x) + nI k).toNatClampNeg)) ∧ (¬ c → g' = g)) : ∀ k : Nat, (k : Int) < v'.toInt → f' k = g' k := by
  intro k hk
  by_cases z : c
  · rw [if_pos z] at ev
    rw [ev] at hk
    rw [h1.1 z k hk, h2.1 z k hk, jN]
  · rw [if_neg z] at ev
    rw [ev] at hk
    rw [h1.2 z, h2.2 z]
    exact j k hk
theorem jL_cp {v u x y n : Int32} {f f' g g' : Nat → Int32} (jv : v = u) (j : ∀ k : Nat, (k : Int) < v.toInt → f k = g k) (h1 : ((0 ≤ v.toInt ∧ 0 ≤ n.toInt ∧ 0 ≤ x.toInt ∧ 0 ≤ y.toInt ∧ x.toInt + n.toInt ≤ v.toInt ∧ y.toInt + n.toInt ≤ v.toInt) → ∀ t, f' t = va_cpy f f x.toNatClampNeg y.toNatClampNeg n.toNatClampNeg t) ∧ (¬ (0 ≤ v.toInt ∧ 0 ≤ n.toInt ∧ 0 ≤ x.toInt ∧ 0 ≤ y.toInt ∧ x.toInt + n.toInt ≤ v.toInt ∧ y.toInt + n.toInt ≤ v.toInt) → f' = f)) (h2 : ((0 ≤ u.toInt ∧ 0 ≤ n.toInt ∧ 0 ≤ x.toInt ∧ 0 ≤ y.toInt ∧ x.toInt + n.toInt ≤ u.toInt ∧ y.toInt + n.toInt ≤ u.toInt) → ∀ t, g' t = va_cpy g g x.toNatClampNeg y.toNatClampNeg n.toNatClampNeg t) ∧ (¬ (0 ≤ u.toInt ∧ 0 ≤ n.toInt ∧ 0 ≤ x.toInt ∧ 0 ≤ y.toInt ∧ x.toInt + n.toInt ≤ u.toInt ∧ y.toInt + n.toInt ≤ u.toInt) → g' = g)) : ∀ k : Nat, (k : Int) < v.toInt → f' k = g' k := by
  subst jv
  intro k hk
  by_cases z : 0 ≤ v.toInt ∧ 0 ≤ n.toInt ∧ 0 ≤ x.toInt ∧ 0 ≤ y.toInt ∧ x.toInt + n.toInt ≤ v.toInt ∧ y.toInt + n.toInt ≤ v.toInt
  · rw [h1.1 z k, h2.1 z k]
    have a1 := cl32 (z := x) z.2.2.1
    have a2 := cl32 (z := y) z.2.2.2.1
    have a3 := cl32 (z := n) z.2.1
    by_cases d : y.toNatClampNeg ≤ k ∧ k < y.toNatClampNeg + n.toNatClampNeg
    · rw [pk_cpy_in d.1 d.2, pk_cpy_in d.1 d.2]
      exact j _ (by omega)
    · rw [pk_cpy_out (by omega), pk_cpy_out (by omega)]
      exact j k hk
  · rw [h1.2 z, h2.2 z]
    exact j k hk
theorem cmp_row {v u x : Int32} {f g : Nat → Int32} (hv : -1 ≤ v.toInt ∧ v.toInt ≤ 64) (jv : v = u) (j : ∀ k : Nat, (k : Int) < v.toInt → f k = g k) : (if v.toInt = -1 then (-2 : Int32) else if 0 ≤ x.toInt ∧ x.toInt < v.toInt then f x.toNatClampNeg else -3) = (if u.toInt < 0 then -2 else if 0 ≤ x.toInt ∧ x.toInt < u.toInt then g x.toNatClampNeg else -3) := by
  subst jv
  by_cases c : v.toInt = -1
  · rw [if_pos c, if_pos (show v.toInt < 0 by omega)]
  · rw [if_neg c, if_neg (show ¬ v.toInt < 0 by omega)]
    by_cases d : 0 ≤ x.toInt ∧ x.toInt < v.toInt
    · rw [if_pos d, if_pos d]
      exact j _ (by rw [cl32 d.1]; exact d.2)
    · rw [if_neg d, if_neg d]
theorem updc {w w' : Nat → Int32} {a : Nat} {b : Int32} (h : ∀ k, k < 8 → w k = w' k) : ∀ k, k < 8 → upd w a b k = upd w' a b k := by
  intro k hk
  unfold upd
  split
  · rfl
  · exact h k hk
theorem IN_rx {w : Nat → Int32} {f f' x : Nat → Int64} {c : Prop} [Decidable c] (hw : IW w) (hf : IN f) (e : f' = if c then f else rsF w x) : IN f' := by
  rw [e]
  split
  · exact hf
  · exact IN_rsF hw
theorem jRst {w w' : Nat → Int32} {f f' g g' x y : Nat → Int64} {v u : Int32} (j9 : v = u) (j9b : x = y) (j8 : f = g) (hw : ∀ k, k < 8 → w k = w' k) (e : f' = if v.toInt = 0 then f else rsF w x) (e' : g' = if u.toInt = 0 then g else rsF w' y) : f' = g' := by
  subst j9 j9b j8
  rw [e, e', rsF_c hw]
theorem neg1 (k : Nat) : ¬ (k : Int) < (-1 : Int32).toInt := by
  rw [show (-1 : Int32).toInt = -1 by decide]
  omega
