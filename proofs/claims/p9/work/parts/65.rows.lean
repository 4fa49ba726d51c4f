/-- v is of the sort s -/
def kSort (s v : Int32) : Bool := decide (s.toInt = 0 ∨ ((kTabL s.toNatClampNeg).toInt ≤ v.toInt ∧ v.toInt ≤ (kTabM s.toNatClampNeg).toInt))
/-- which numbers make an ACT -/
def kActOK (k d x y : Int32) : Bool := decide ((0 ≤ k.toInt ∧ k.toInt ≤ 10) ∧ (7 < k.toInt ∨ (0 ≤ d.toInt ∧ d.toInt < 8)) ∧ (¬ k.toInt = 0 ∨ (0 ≤ x.toInt ∧ x.toInt ≤ 255)) ∧ (k.toInt < 9 ∨ (0 ≤ x.toInt ∧ x.toInt ≤ 1)) ∧ (k.toInt < 1 ∨ 8 < k.toInt ∨ (0 ≤ x.toInt ∧ x.toInt < 8)) ∧ (¬ k.toInt = 6 ∨ (-31 ≤ y.toInt ∧ y.toInt ≤ 31)) ∧ (k.toInt < 9 ∨ (0 ≤ y.toInt ∧ y.toInt ≤ 1)) ∧ (k.toInt < 2 ∨ k.toInt = 6 ∨ k.toInt = 7 ∨ 8 < k.toInt ∨ (0 ≤ y.toInt ∧ y.toInt < 8)))
theorem kSort_0 (v : Int32) : kSort 0 v = true := rfl
theorem kSort_1 (v : Int32) : kSort 1 v = decide (0 ≤ v.toInt ∧ v.toInt < 8) := by
  unfold kSort
  have e1 : (kTabL (1 : Int32).toNatClampNeg).toInt = 0 := by decide
  have e2 : (kTabM (1 : Int32).toNatClampNeg).toInt = 7 := by decide
  have e3 : (1 : Int32).toInt = 1 := by decide
  rw [e1, e2, e3, decide_eq_decide]
  omega
theorem kSort_2 (v : Int32) : kSort 2 v = decide (0 ≤ v.toInt ∧ v.toInt ≤ 255) := by
  unfold kSort
  have e1 : (kTabL (2 : Int32).toNatClampNeg).toInt = 0 := by decide
  have e2 : (kTabM (2 : Int32).toNatClampNeg).toInt = 255 := by decide
  have e3 : (2 : Int32).toInt = 2 := by decide
  rw [e1, e2, e3, decide_eq_decide]
  omega
theorem kSort_3 (v : Int32) : kSort 3 v = decide (-31 ≤ v.toInt ∧ v.toInt ≤ 31) := by
  unfold kSort
  have e1 : (kTabL (3 : Int32).toNatClampNeg).toInt = -31 := by decide
  have e2 : (kTabM (3 : Int32).toNatClampNeg).toInt = 31 := by decide
  have e3 : (3 : Int32).toInt = 3 := by decide
  rw [e1, e2, e3, decide_eq_decide]
  omega
theorem kSort_4 (v : Int32) : kSort 4 v = decide (0 ≤ v.toInt ∧ v.toInt ≤ 1) := by
  unfold kSort
  have e1 : (kTabL (4 : Int32).toNatClampNeg).toInt = 0 := by decide
  have e2 : (kTabM (4 : Int32).toNatClampNeg).toInt = 1 := by decide
  have e3 : (4 : Int32).toInt = 4 := by decide
  rw [e1, e2, e3, decide_eq_decide]
  omega
theorem kcl {k : Int32} {n : Nat} (h : k.toInt = n) : k.toNatClampNeg = n := by
  unfold Int32.toNatClampNeg
  omega
theorem kAct_iff {k d x y : Int32} (h0 : 0 ≤ k.toInt) (h1 : k.toInt < 11) : kActOK k d x y = true ↔ (kSort (kTabD k.toNatClampNeg) d = true ∧ kSort (kTabX k.toNatClampNeg) x = true ∧ kSort (kTabY k.toNatClampNeg) y = true) := by
  have hk : k.toInt = 0 ∨ k.toInt = 1 ∨ k.toInt = 2 ∨ k.toInt = 3 ∨ k.toInt = 4 ∨ k.toInt = 5 ∨ k.toInt = 6 ∨ k.toInt = 7 ∨ k.toInt = 8 ∨ k.toInt = 9 ∨ k.toInt = 10 := by omega
  have main : ∀ (n : Nat) (a b c : Int32), k.toInt = n → kTabD n = a → kTabX n = b → kTabY n = c → (kActOK k d x y = true ↔ (kSort a d = true ∧ kSort b x = true ∧ kSort c y = true)) → (kActOK k d x y = true ↔ (kSort (kTabD k.toNatClampNeg) d = true ∧ kSort (kTabX k.toNatClampNeg) x = true ∧ kSort (kTabY k.toNatClampNeg) y = true)) := by
    intro n a b c hn ha hb hc hh
    rw [kcl hn, ha, hb, hc]
    exact hh
  rcases hk with e | e | e | e | e | e | e | e | e | e | e
  · exact main 0 1 2 0 e rfl rfl rfl (by rw [kSort_1, kSort_2, kSort_0]; simp only [kActOK, e, decide_eq_true_eq, eq_self, true_and, and_true, not_true_eq_false, false_or, or_false, true_or, or_true]; omega)
  · exact main 1 1 1 0 e rfl rfl rfl (by rw [kSort_1, kSort_1, kSort_0]; simp only [kActOK, e, decide_eq_true_eq, eq_self, true_and, and_true, not_true_eq_false, false_or, or_false, true_or, or_true]; omega)
  · exact main 2 1 1 1 e rfl rfl rfl (by rw [kSort_1, kSort_1, kSort_1]; simp only [kActOK, e, decide_eq_true_eq, eq_self, true_and, and_true, not_true_eq_false, false_or, or_false, true_or, or_true]; omega)
  · exact main 3 1 1 1 e rfl rfl rfl (by rw [kSort_1, kSort_1, kSort_1]; simp only [kActOK, e, decide_eq_true_eq, eq_self, true_and, and_true, not_true_eq_false, false_or, or_false, true_or, or_true]; omega)
  · exact main 4 1 1 1 e rfl rfl rfl (by rw [kSort_1, kSort_1, kSort_1]; simp only [kActOK, e, decide_eq_true_eq, eq_self, true_and, and_true, not_true_eq_false, false_or, or_false, true_or, or_true]; omega)
  · exact main 5 1 1 1 e rfl rfl rfl (by rw [kSort_1, kSort_1, kSort_1]; simp only [kActOK, e, decide_eq_true_eq, eq_self, true_and, and_true, not_true_eq_false, false_or, or_false, true_or, or_true]; omega)
  · exact main 6 1 1 3 e rfl rfl rfl (by rw [kSort_1, kSort_1, kSort_3]; simp only [kActOK, e, decide_eq_true_eq, eq_self, true_and, and_true, not_true_eq_false, false_or, or_false, true_or, or_true]; omega)
  · exact main 7 1 1 0 e rfl rfl rfl (by rw [kSort_1, kSort_1, kSort_0]; simp only [kActOK, e, decide_eq_true_eq, eq_self, true_and, and_true, not_true_eq_false, false_or, or_false, true_or, or_true]; omega)
  · exact main 8 0 1 1 e rfl rfl rfl (by rw [kSort_0, kSort_1, kSort_1]; simp only [kActOK, e, decide_eq_true_eq, eq_self, true_and, and_true, not_true_eq_false, false_or, or_false, true_or, or_true]; omega)
  · exact main 9 0 4 4 e rfl rfl rfl (by rw [kSort_0, kSort_4, kSort_4]; simp only [kActOK, e, decide_eq_true_eq, eq_self, true_and, and_true, not_true_eq_false, false_or, or_false, true_or, or_true]; omega)
  · exact main 10 0 4 4 e rfl rfl rfl (by rw [kSort_0, kSort_4, kSort_4]; simp only [kActOK, e, decide_eq_true_eq, eq_self, true_and, and_true, not_true_eq_false, false_or, or_false, true_or, or_true]; omega)
theorem kTabD_in (j : Nat) : 0 ≤ (kTabD j).toInt ∧ (kTabD j).toInt < 5 := by
  by_cases h : j < 11
  · exact (show ∀ i : Fin 11, 0 ≤ (kTabD i.val).toInt ∧ (kTabD i.val).toInt < 5 by decide) ⟨j, h⟩
  · have e : kTabD j = 0 := by
      unfold kTabD
      rw [List.getD_eq_getElem?_getD, List.getElem?_eq_none (by simp; omega)]
      rfl
    rw [e]
    decide
theorem kTabX_in (j : Nat) : 0 ≤ (kTabX j).toInt ∧ (kTabX j).toInt < 5 := by
  by_cases h : j < 11
  · exact (show ∀ i : Fin 11, 0 ≤ (kTabX i.val).toInt ∧ (kTabX i.val).toInt < 5 by decide) ⟨j, h⟩
  · have e : kTabX j = 0 := by
      unfold kTabX
      rw [List.getD_eq_getElem?_getD, List.getElem?_eq_none (by simp; omega)]
      rfl
    rw [e]
    decide
theorem kTabY_in (j : Nat) : 0 ≤ (kTabY j).toInt ∧ (kTabY j).toInt < 5 := by
  by_cases h : j < 11
  · exact (show ∀ i : Fin 11, 0 ≤ (kTabY i.val).toInt ∧ (kTabY i.val).toInt < 5 by decide) ⟨j, h⟩
  · have e : kTabY j = 0 := by
      unfold kTabY
      rw [List.getD_eq_getElem?_getD, List.getElem?_eq_none (by simp; omega)]
      rfl
    rw [e]
    decide
theorem kAct_of {k d x y : Int32} (h : kActOK k d x y = true) {d2 y2 : Int32} (hd : d2 = d ∨ 7 < k.toInt) (hy : y2 = y ∨ k.toInt < 2 ∨ k.toInt = 7) : kAct k d2 x y2 := by
  simp only [kActOK, decide_eq_true_eq] at h
  obtain ⟨h1, h2, h3, h4, h5, h6, h7, h8⟩ := h
  refine ⟨h1, ?_, ?_, h4, ?_, ?_⟩
  · rcases hd with e | e
    · rw [e]; exact h2
    · exact Or.inl e
  · rcases h5 with e | e | e
    · exact Or.inl (by omega)
    · exact Or.inr (Or.inl e)
    · exact Or.inr (Or.inr e)
  · rcases hy with e | e | e
    · rw [e]
      rcases h8 with z | z | z | z | z
      · exact Or.inl z
      · exact Or.inr (Or.inl z)
      · exact Or.inr (Or.inr (Or.inl z))
      · exact Or.inr (Or.inr (Or.inr (Or.inl z)))
      · exact Or.inr (Or.inr (Or.inr (Or.inr z)))
    · exact Or.inl e
    · exact Or.inr (Or.inr (Or.inl e))
  · rcases hy with e | e | e
    · rw [e]; exact h6
    · exact Or.inl (by omega)
    · exact Or.inl (by omega)
theorem IR_upd {k d x y : Nat → Int32} {j : Nat} {a b c e : Int32} (h : IR k d x y) (hn : kAct a b c e) : IR (upd k j a) (upd d j b) (upd x j c) (upd y j e) := by
  intro i hi
  unfold upd
  by_cases q : i = j
  · simp only [q, if_true]
    exact hn
  · simp only [q, if_false]
    exact h i hi
theorem kTabD_0 {k : Int32} (h0 : 0 ≤ k.toInt ∧ k.toInt < 11) (h : (kTabD k.toNatClampNeg).toInt = 0) : 7 < k.toInt := by
  have main : ∀ i : Fin 11, (kTabD i.val).toInt = 0 → 7 < i.val := by decide
  have hk : k.toNatClampNeg < 11 := by unfold Int32.toNatClampNeg; omega
  have z := main ⟨_, hk⟩ h
  unfold Int32.toNatClampNeg at z
  simp only at z
  omega
theorem kTabY_0 {k : Int32} (h0 : 0 ≤ k.toInt ∧ k.toInt < 11) (h : (kTabY k.toNatClampNeg).toInt = 0) : k.toInt < 2 ∨ k.toInt = 7 := by
  have main : ∀ i : Fin 11, (kTabY i.val).toInt = 0 → i.val < 2 ∨ i.val = 7 := by decide
  have hk : k.toNatClampNeg < 11 := by unfold Int32.toNatClampNeg; omega
  have z := main ⟨_, hk⟩ h
  unfold Int32.toNatClampNeg at z
  simp only at z
  omega
set_option maxHeartbeats 4000000 in
set_option maxRecDepth 100000 in
theorem c_X7_isOfSort (l : Launch) (dC : Nat → ClassId) (dI : Nat → Nat → Nat) (sz : Nat) (p0 : Int32) (p1 : Int32) (hp : 0 ≤ p0.toInt ∧ p0.toInt < 5) : Met l yX7_isOfSort wsX7_isOfSort ({ frames := 0, cells := 0, slots := 0, locals := 0 } : Room) (va_Pc [.int p0, .int p1] (KPre (dC, dI) [] [] sz (fun U => KAll (va_A [] sz) U))) (va_Qi (fun (r : Int32) (u : Unit) => r = if kSort p0 p1 = true then 1 else 0) (KPost (dC, dI) (va_A [] sz) (fun (u : Unit) => [])) (va_A [] sz)) 0 0 (va_A [] sz) := by
  refine kMet (y := yX7_isOfSort) (wsM := wsX7_isOfSort) (cc := cX7_isOfSort) (maxL := 2) (ret := (some .boolean)) (rm := ({ frames := 0, cells := 0, slots := 0, locals := 0 } : Room)) (mc := 0) (ms := 0) (av := [.int p0, .int p1]) (D := (dC, dI)) (wc := []) (tc := []) (sz := sz) (X := fun U => KAll (va_A [] sz) U) (Qc := fun A => va_Qi (fun (r : Int32) (u : Unit) => r = if kSort p0 p1 = true then 1 else 0) (KPost (dC, dI) A (fun (u : Unit) => [])) A) (by decide) rfl (Nat.le_of_ble_eq_true rfl) ?_
  intro p e s m below meth c A ls E hr hlocks hnm hsz hAe hX h hl
  have hx := E.1
  have hb := E.2.1
  have hl : lv_has ls 2 [(0, .int p0), (1, .int p1)] := hl
  have hX : KAll A s := by rw [← hAe]; exact hX
  obtain ⟨⟨tD, hZD, hTD⟩, ⟨tX, hZX, hTX⟩, ⟨tY, hZY, hTY⟩, ⟨tP, hZP, hTP⟩, ⟨tL, hZL, hTL⟩, ⟨tM, hZM, hTM⟩, hN0_134, hN0_60, hN0_96, hN1_83, hN1_87, hN3_49, hN3_52, hN4_44, hN4_69, hN5_33, hN6_102, hN6_67, hF37, hF40, hF50, hF53⟩ := id hX
  refine lv_iload_n hx hb dX7_isOfSort_0 rfl (lv_at hl 0 rfl) ?_
  refine lv_if_eq (tgt := 22) hx hb dX7_isOfSort_1 (by decide) (fun c_1 => ?_) (fun c_1 => ?_)
  · skip
    have i_1 : p0.toInt = 0 := (fa_eq _ _).mp c_1
    refine lv_iconst (v := 1) hx hb dX7_isOfSort_22 (by decide) ?_
    refine lv_goto (tgt := 27) hx hb dX7_isOfSort_23 (by decide) ?_
    have hP9 := h.2.1.sub [] rfl
    have hD9 := h.2.2.1.sub (ws' := []) [] (by decide) rfl
    exact W.zret (v := 1) hx hb hr (by decide) (fun t ht hW => ⟨⟨1, (), rfl, (by unfold kSort; simp only [decide_eq_true_eq]; (repeat' split) <;> first | rfl | omega), (by rw [ht]; exact hP9), hD9⟩, h.2.2.2.1.F ht⟩) h.2.2.2.1.2.2 dX7_isOfSort_27 hlocks
  · skip
    have i_1 : ¬ p0.toInt = 0 := fun h9 => c_1 ((fa_eq _ _).mpr h9)
    refine lv_iload_n hx hb dX7_isOfSort_4 rfl (lv_at hl 1 rfl) ?_
    refine va_gets (v := .ref tL) hx hb hZL h.2.2.2.1 E.2.2.2.1 (E.2.2.2.2 _ (List.mem_of_getElem? (i := 1) rfl)) (fun _ h9 => h9) dX7_isOfSort_5 ?_
    refine lv_iload_n hx hb dX7_isOfSort_8 rfl (lv_at hl 0 rfl) ?_
    refine va_ti (v := .int (kTabL p0.toNatClampNeg)) hx hb hTL h.2.2.2.1 (vp_in_iff.mpr (by omega)) rfl dX7_isOfSort_9 ?_
    refine lv_icmp_lt (tgt := 26) hx hb dX7_isOfSort_10 (by decide) (fun c_2 => ?_) (fun c_2 => ?_)
    · skip
      have i_2 : p1.toInt < (kTabL p0.toNatClampNeg).toInt := (fa_lt _ _).mp c_2
      refine lv_iconst (v := 0) hx hb dX7_isOfSort_26 (by decide) ?_
      have hP9 := h.2.1.sub [] rfl
      have hD9 := h.2.2.1.sub (ws' := []) [] (by decide) rfl
      exact W.zret (v := 0) hx hb hr (by decide) (fun t ht hW => ⟨⟨0, (), rfl, (by unfold kSort; simp only [decide_eq_true_eq]; (repeat' split) <;> first | rfl | omega), (by rw [ht]; exact hP9), hD9⟩, h.2.2.2.1.F ht⟩) h.2.2.2.1.2.2 dX7_isOfSort_27 hlocks
    · skip
      have i_2 : ¬ p1.toInt < (kTabL p0.toNatClampNeg).toInt := fun h9 => c_2 ((fa_lt _ _).mpr h9)
      refine lv_iload_n hx hb dX7_isOfSort_13 rfl (lv_at hl 1 rfl) ?_
      refine va_gets (v := .ref tM) hx hb hZM h.2.2.2.1 E.2.2.2.1 (E.2.2.2.2 _ (List.mem_of_getElem? (i := 2) rfl)) (fun _ h9 => h9) dX7_isOfSort_14 ?_
      refine lv_iload_n hx hb dX7_isOfSort_17 rfl (lv_at hl 0 rfl) ?_
      refine va_ti (v := .int (kTabM p0.toNatClampNeg)) hx hb hTM h.2.2.2.1 (vp_in_iff.mpr (by omega)) rfl dX7_isOfSort_18 ?_
      refine lv_icmp_gt (tgt := 26) hx hb dX7_isOfSort_19 (by decide) (fun c_3 => ?_) (fun c_3 => ?_)
      · skip
        have i_3 : (kTabM p0.toNatClampNeg).toInt < p1.toInt := (fa_lt _ _).mp c_3
        refine lv_iconst (v := 0) hx hb dX7_isOfSort_26 (by decide) ?_
        have hP9 := h.2.1.sub [] rfl
        have hD9 := h.2.2.1.sub (ws' := []) [] (by decide) rfl
        exact W.zret (v := 0) hx hb hr (by decide) (fun t ht hW => ⟨⟨0, (), rfl, (by unfold kSort; simp only [decide_eq_true_eq]; (repeat' split) <;> first | rfl | omega), (by rw [ht]; exact hP9), hD9⟩, h.2.2.2.1.F ht⟩) h.2.2.2.1.2.2 dX7_isOfSort_27 hlocks
      · skip
        have i_3 : ¬ (kTabM p0.toNatClampNeg).toInt < p1.toInt := fun h9 => c_3 ((fa_lt _ _).mpr h9)
        refine lv_iconst (v := 1) hx hb dX7_isOfSort_22 (by decide) ?_
        refine lv_goto (tgt := 27) hx hb dX7_isOfSort_23 (by decide) ?_
        have hP9 := h.2.1.sub [] rfl
        have hD9 := h.2.2.1.sub (ws' := []) [] (by decide) rfl
        exact W.zret (v := 1) hx hb hr (by decide) (fun t ht hW => ⟨⟨1, (), rfl, (by unfold kSort; simp only [decide_eq_true_eq]; (repeat' split) <;> first | rfl | omega), (by rw [ht]; exact hP9), hD9⟩, h.2.2.2.1.F ht⟩) h.2.2.2.1.2.2 dX7_isOfSort_27 hlocks
set_option maxHeartbeats 4000000 in
set_option maxRecDepth 100000 in
theorem c_X7_isAct (l : Launch) (dC : Nat → ClassId) (dI : Nat → Nat → Nat) (sz : Nat) (p0 : Int32) (p1 : Int32) (p2 : Int32) (p3 : Int32)  : Met l yX7_isAct wsX7_isAct ({ frames := 1, cells := 0, slots := 0, locals := 21 } : Room) (va_Pc [.int p0, .int p1, .int p2, .int p3] (KPre (dC, dI) [] [] sz (fun U => KAll (va_A [] sz) U))) (va_Qi (fun (r : Int32) (u : Unit) => r = if kActOK p0 p1 p2 p3 = true then 1 else 0) (KPost (dC, dI) (va_A [] sz) (fun (u : Unit) => [])) (va_A [] sz)) 0 0 (va_A [] sz) := by
  refine kMet (y := yX7_isAct) (wsM := wsX7_isAct) (cc := cX7_isAct) (maxL := 4) (ret := (some .boolean)) (rm := ({ frames := 1, cells := 0, slots := 0, locals := 21 } : Room)) (mc := 0) (ms := 0) (av := [.int p0, .int p1, .int p2, .int p3]) (D := (dC, dI)) (wc := []) (tc := []) (sz := sz) (X := fun U => KAll (va_A [] sz) U) (Qc := fun A => va_Qi (fun (r : Int32) (u : Unit) => r = if kActOK p0 p1 p2 p3 = true then 1 else 0) (KPost (dC, dI) A (fun (u : Unit) => [])) A) (by decide) rfl (Nat.le_of_ble_eq_true rfl) ?_
  intro p e s m below meth c A ls E hr hlocks hnm hsz hAe hX h hl
  have hx := E.1
  have hb := E.2.1
  have hl : lv_has ls 4 [(0, .int p0), (1, .int p1), (2, .int p2), (3, .int p3)] := hl
  have hX : KAll A s := by rw [← hAe]; exact hX
  obtain ⟨⟨tD, hZD, hTD⟩, ⟨tX, hZX, hTX⟩, ⟨tY, hZY, hTY⟩, ⟨tP, hZP, hTP⟩, ⟨tL, hZL, hTL⟩, ⟨tM, hZM, hTM⟩, hN0_134, hN0_60, hN0_96, hN1_83, hN1_87, hN3_49, hN3_52, hN4_44, hN4_69, hN5_33, hN6_102, hN6_67, hF37, hF40, hF50, hF53⟩ := id hX
  refine lv_iload_n hx hb dX7_isAct_0 rfl (lv_at hl 0 rfl) ?_
  refine lv_if_lt (tgt := 50) hx hb dX7_isAct_1 (by decide) (fun c_1 => ?_) (fun c_1 => ?_)
  · skip
    have i_1 : p0.toInt < 0 := (fa_lt _ _).mp c_1
    refine lv_iconst (v := 0) hx hb dX7_isAct_50 (by decide) ?_
    have hP9 := h.2.1.sub [] rfl
    have hD9 := h.2.2.1.sub (ws' := []) [] (by decide) rfl
    exact W.zret (v := 0) hx hb hr (by decide) (fun t ht hW => ⟨⟨0, (), rfl, (by split <;> first | rfl | (rename_i q; exfalso; simp only [kActOK, decide_eq_true_eq] at q; omega) | (rename_i q; exfalso; have z := kAct_iff (k := p0) (d := p1) (x := p2) (y := p3) (by omega) (by omega); simp_all)), (by rw [ht]; exact hP9), hD9⟩, h.2.2.2.1.F ht⟩) h.2.2.2.1.2.2 dX7_isAct_51 hlocks
  · skip
    have i_1 : ¬ p0.toInt < 0 := fun h9 => c_1 ((fa_lt _ _).mpr h9)
    refine lv_iload_n hx hb dX7_isAct_4 rfl (lv_at hl 0 rfl) ?_
    refine lv_bipush (v := 11) hx hb dX7_isAct_5 (by decide) ?_
    refine lv_icmp_ge (tgt := 50) hx hb dX7_isAct_7 (by decide) (fun c_2 => ?_) (fun c_2 => ?_)
    · skip
      have i_2 : 11 ≤ p0.toInt := (fa_le _ _).mp c_2
      refine lv_iconst (v := 0) hx hb dX7_isAct_50 (by decide) ?_
      have hP9 := h.2.1.sub [] rfl
      have hD9 := h.2.2.1.sub (ws' := []) [] (by decide) rfl
      exact W.zret (v := 0) hx hb hr (by decide) (fun t ht hW => ⟨⟨0, (), rfl, (by split <;> first | rfl | (rename_i q; exfalso; simp only [kActOK, decide_eq_true_eq] at q; omega) | (rename_i q; exfalso; have z := kAct_iff (k := p0) (d := p1) (x := p2) (y := p3) (by omega) (by omega); simp_all)), (by rw [ht]; exact hP9), hD9⟩, h.2.2.2.1.F ht⟩) h.2.2.2.1.2.2 dX7_isAct_51 hlocks
    · skip
      have i_2 : ¬ 11 ≤ p0.toInt := fun h9 => c_2 ((fa_le _ _).mpr h9)
      refine va_gets (v := .ref tD) hx hb hZD h.2.2.2.1 E.2.2.2.1 (E.2.2.2.2 _ (List.mem_of_getElem? (i := 1) rfl)) (fun _ h9 => h9) dX7_isAct_10 ?_
      refine lv_iload_n hx hb dX7_isAct_13 rfl (lv_at hl 0 rfl) ?_
      refine va_ti (v := .int (kTabD p0.toNatClampNeg)) hx hb hTD h.2.2.2.1 (vp_in_iff.mpr (by omega)) rfl dX7_isAct_14 ?_
      refine lv_iload_n hx hb dX7_isAct_15 rfl (lv_at hl 1 rfl) ?_
      refine kc_i (wc := []) (wr := []) h (va_runS (As := [.int (kTabD p0.toNatClampNeg), .int p1]) (rest := []) E (c_X7_isOfSort l dC dI _ (p0 := kTabD p0.toNatClampNeg) (p1 := p1)  (hp := (kTabD_in _))) (va_cwS 2 E.2.2.2.2 gX7_isAct_X7_isOfSort rfl rfl rfl (by decide +kernel) ⟨Nat.le_of_ble_eq_true rfl, Nat.le_of_ble_eq_true rfl⟩) (kPreS h KAll.blind (KAll.call hX h [] rfl) [] [] (by decide) rfl rfl) rfl rfl hl.1 rfl (lv_room (Nat.le_of_ble_eq_true rfl)) dX7_isAct_16 ⟨Nat.le_of_ble_eq_true rfl, Nat.le_of_ble_eq_true rfl⟩) [] [] rfl rfl (by decide) (by decide) (fun r_3 u_3 H locs hw_3 h => ?_)
      have h : KS (dC, dI) A [] [] s H locs := h
      have hw_3 : r_3 = if kSort (kTabD p0.toNatClampNeg) p1 = true then 1 else 0 := by first | exact hw_3 | (simp only [Int32.toInt_toInt64] at hw_3; exact hw_3)
      refine W.eq (g2 := F0 m 19 ls [.int r_3]) rfl ?_
      refine lv_if_eq (tgt := 50) hx hb dX7_isAct_19 (by decide) (fun c_4 => ?_) (fun c_4 => ?_)
      · skip
        have b_4 := kb0 hw_3 c_4
        refine lv_iconst (v := 0) hx hb dX7_isAct_50 (by decide) ?_
        have hP9 := h.2.1.sub [] rfl
        have hD9 := h.2.2.1.sub (ws' := []) [] (by decide) rfl
        exact W.zret (v := 0) hx hb hr (by decide) (fun t ht hW => ⟨⟨0, (), rfl, (by split <;> first | rfl | (rename_i q; exfalso; simp only [kActOK, decide_eq_true_eq] at q; omega) | (rename_i q; exfalso; have z := kAct_iff (k := p0) (d := p1) (x := p2) (y := p3) (by omega) (by omega); simp_all)), (by rw [ht]; exact hP9), hD9⟩, h.2.2.2.1.F ht⟩) h.2.2.2.1.2.2 dX7_isAct_51 hlocks
      · skip
        have b_4 := kb1 hw_3 c_4
        refine va_gets (v := .ref tX) hx hb hZX h.2.2.2.1 E.2.2.2.1 (E.2.2.2.2 _ (List.mem_of_getElem? (i := 2) rfl)) (fun _ h9 => h9) dX7_isAct_22 ?_
        refine lv_iload_n hx hb dX7_isAct_25 rfl (lv_at hl 0 rfl) ?_
        refine va_ti (v := .int (kTabX p0.toNatClampNeg)) hx hb hTX h.2.2.2.1 (vp_in_iff.mpr (by omega)) rfl dX7_isAct_26 ?_
        refine lv_iload_n hx hb dX7_isAct_27 rfl (lv_at hl 2 rfl) ?_
        refine kc_i (wc := []) (wr := []) h (va_runS (As := [.int (kTabX p0.toNatClampNeg), .int p2]) (rest := []) E (c_X7_isOfSort l dC dI _ (p0 := kTabX p0.toNatClampNeg) (p1 := p2)  (hp := (kTabX_in _))) (va_cwS 2 E.2.2.2.2 gX7_isAct_X7_isOfSort rfl rfl rfl (by decide +kernel) ⟨Nat.le_of_ble_eq_true rfl, Nat.le_of_ble_eq_true rfl⟩) (kPreS h KAll.blind (KAll.call hX h [] rfl) [] [] (by decide) rfl rfl) rfl rfl hl.1 rfl (lv_room (Nat.le_of_ble_eq_true rfl)) dX7_isAct_28 ⟨Nat.le_of_ble_eq_true rfl, Nat.le_of_ble_eq_true rfl⟩) [] [] rfl rfl (by decide) (by decide) (fun r_5 u_5 H locs hw_5 h => ?_)
        have h : KS (dC, dI) A [] [] s H locs := h
        have hw_5 : r_5 = if kSort (kTabX p0.toNatClampNeg) p2 = true then 1 else 0 := by first | exact hw_5 | (simp only [Int32.toInt_toInt64] at hw_5; exact hw_5)
        refine W.eq (g2 := F0 m 31 ls [.int r_5]) rfl ?_
        refine lv_if_eq (tgt := 50) hx hb dX7_isAct_31 (by decide) (fun c_6 => ?_) (fun c_6 => ?_)
        · skip
          have b_6 := kb0 hw_5 c_6
          refine lv_iconst (v := 0) hx hb dX7_isAct_50 (by decide) ?_
          have hP9 := h.2.1.sub [] rfl
          have hD9 := h.2.2.1.sub (ws' := []) [] (by decide) rfl
          exact W.zret (v := 0) hx hb hr (by decide) (fun t ht hW => ⟨⟨0, (), rfl, (by split <;> first | rfl | (rename_i q; exfalso; simp only [kActOK, decide_eq_true_eq] at q; omega) | (rename_i q; exfalso; have z := kAct_iff (k := p0) (d := p1) (x := p2) (y := p3) (by omega) (by omega); simp_all)), (by rw [ht]; exact hP9), hD9⟩, h.2.2.2.1.F ht⟩) h.2.2.2.1.2.2 dX7_isAct_51 hlocks
        · skip
          have b_6 := kb1 hw_5 c_6
          refine va_gets (v := .ref tY) hx hb hZY h.2.2.2.1 E.2.2.2.1 (E.2.2.2.2 _ (List.mem_of_getElem? (i := 3) rfl)) (fun _ h9 => h9) dX7_isAct_34 ?_
          refine lv_iload_n hx hb dX7_isAct_37 rfl (lv_at hl 0 rfl) ?_
          refine va_ti (v := .int (kTabY p0.toNatClampNeg)) hx hb hTY h.2.2.2.1 (vp_in_iff.mpr (by omega)) rfl dX7_isAct_38 ?_
          refine lv_iload_n hx hb dX7_isAct_39 rfl (lv_at hl 3 rfl) ?_
          refine kc_i (wc := []) (wr := []) h (va_runS (As := [.int (kTabY p0.toNatClampNeg), .int p3]) (rest := []) E (c_X7_isOfSort l dC dI _ (p0 := kTabY p0.toNatClampNeg) (p1 := p3)  (hp := (kTabY_in _))) (va_cwS 2 E.2.2.2.2 gX7_isAct_X7_isOfSort rfl rfl rfl (by decide +kernel) ⟨Nat.le_of_ble_eq_true rfl, Nat.le_of_ble_eq_true rfl⟩) (kPreS h KAll.blind (KAll.call hX h [] rfl) [] [] (by decide) rfl rfl) rfl rfl hl.1 rfl (lv_room (Nat.le_of_ble_eq_true rfl)) dX7_isAct_40 ⟨Nat.le_of_ble_eq_true rfl, Nat.le_of_ble_eq_true rfl⟩) [] [] rfl rfl (by decide) (by decide) (fun r_7 u_7 H locs hw_7 h => ?_)
          have h : KS (dC, dI) A [] [] s H locs := h
          have hw_7 : r_7 = if kSort (kTabY p0.toNatClampNeg) p3 = true then 1 else 0 := by first | exact hw_7 | (simp only [Int32.toInt_toInt64] at hw_7; exact hw_7)
          refine W.eq (g2 := F0 m 43 ls [.int r_7]) rfl ?_
          refine lv_if_eq (tgt := 50) hx hb dX7_isAct_43 (by decide) (fun c_8 => ?_) (fun c_8 => ?_)
          · skip
            have b_8 := kb0 hw_7 c_8
            refine lv_iconst (v := 0) hx hb dX7_isAct_50 (by decide) ?_
            have hP9 := h.2.1.sub [] rfl
            have hD9 := h.2.2.1.sub (ws' := []) [] (by decide) rfl
            exact W.zret (v := 0) hx hb hr (by decide) (fun t ht hW => ⟨⟨0, (), rfl, (by split <;> first | rfl | (rename_i q; exfalso; simp only [kActOK, decide_eq_true_eq] at q; omega) | (rename_i q; exfalso; have z := kAct_iff (k := p0) (d := p1) (x := p2) (y := p3) (by omega) (by omega); simp_all)), (by rw [ht]; exact hP9), hD9⟩, h.2.2.2.1.F ht⟩) h.2.2.2.1.2.2 dX7_isAct_51 hlocks
          · skip
            have b_8 := kb1 hw_7 c_8
            refine lv_iconst (v := 1) hx hb dX7_isAct_46 (by decide) ?_
            refine lv_goto (tgt := 51) hx hb dX7_isAct_47 (by decide) ?_
            have hP9 := h.2.1.sub [] rfl
            have hD9 := h.2.2.1.sub (ws' := []) [] (by decide) rfl
            exact W.zret (v := 1) hx hb hr (by decide) (fun t ht hW => ⟨⟨1, (), rfl, (by split <;> first | rfl | (rename_i q; exfalso; simp only [kActOK, decide_eq_true_eq] at q; omega) | (rename_i q; exfalso; have z := kAct_iff (k := p0) (d := p1) (x := p2) (y := p3) (by omega) (by omega); simp_all)), (by rw [ht]; exact hP9), hD9⟩, h.2.2.2.1.F ht⟩) h.2.2.2.1.2.2 dX7_isAct_51 hlocks
set_option maxHeartbeats 4000000 in
set_option maxRecDepth 100000 in
theorem c_X5_readsOf (l : Launch) (dC : Nat → ClassId) (dI : Nat → Nat → Nat) (sz : Nat) (p0 : Int32) (p1 : Int32) (p2 : Int32) (hp : 0 ≤ p0.toInt ∧ p0.toInt < 11) : Met l yX5_readsOf wsX5_readsOf ({ frames := 0, cells := 0, slots := 0, locals := 0 } : Room) (va_Pc [.int p0, .int p1, .int p2] (KPre (dC, dI) [] [] sz (fun U => KAll (va_A [] sz) U))) (va_Qi (fun (r : Int32) (u : Unit) => True) (KPost (dC, dI) (va_A [] sz) (fun (u : Unit) => [])) (va_A [] sz)) 0 0 (va_A [] sz) := by
  refine kMet (y := yX5_readsOf) (wsM := wsX5_readsOf) (cc := cX5_readsOf) (maxL := 4) (ret := (some .int)) (rm := ({ frames := 0, cells := 0, slots := 0, locals := 0 } : Room)) (mc := 0) (ms := 0) (av := [.int p0, .int p1, .int p2]) (D := (dC, dI)) (wc := []) (tc := []) (sz := sz) (X := fun U => KAll (va_A [] sz) U) (Qc := fun A => va_Qi (fun (r : Int32) (u : Unit) => True) (KPost (dC, dI) A (fun (u : Unit) => [])) A) (by decide) rfl (Nat.le_of_ble_eq_true rfl) ?_
  intro p e s m below meth c A ls E hr hlocks hnm hsz hAe hX h hl
  have hx := E.1
  have hb := E.2.1
  have hl : lv_has ls 4 [(0, .int p0), (1, .int p1), (2, .int p2)] := hl
  have hX : KAll A s := by rw [← hAe]; exact hX
  obtain ⟨⟨tD, hZD, hTD⟩, ⟨tX, hZX, hTX⟩, ⟨tY, hZY, hTY⟩, ⟨tP, hZP, hTP⟩, ⟨tL, hZL, hTL⟩, ⟨tM, hZM, hTM⟩, hN0_134, hN0_60, hN0_96, hN1_83, hN1_87, hN3_49, hN3_52, hN4_44, hN4_69, hN5_33, hN6_102, hN6_67, hF37, hF40, hF50, hF53⟩ := id hX
  refine lv_iconst (v := 0) hx hb dX5_readsOf_0 (by decide) ?_
  refine lv_istore_n (lv' := [(3, .int 0), (0, .int p0), (1, .int p1), (2, .int p2)]) hx hb dX5_readsOf_1 rfl hl (by decide) rfl (fun ls hl => ?_)
  refine va_getsN (v := .ref tX) hx hb hZX h.2.2.2.1 E.2.2.2.1 (va_Nw.use rfl hF50) (fun _ h9 => h9) dX5_readsOf_2 ?_
  refine lv_iload_n hx hb dX5_readsOf_5 rfl (lv_at hl 1 rfl) ?_
  refine va_ti (v := .int (kTabX p0.toNatClampNeg)) hx hb hTX h.2.2.2.1 (vp_in_iff.mpr (by omega)) rfl dX5_readsOf_6 ?_
  refine lv_iconst (v := 1) hx hb dX5_readsOf_7 (by decide) ?_
  refine lv_icmp_ne (tgt := 17) hx hb dX5_readsOf_8 (by decide) (fun c_1 => ?_) (fun c_1 => ?_)
  · skip
    have i_1 : ¬ (kTabX p0.toNatClampNeg).toInt = 1 := fun h9 => c_1 ((fa_eq _ _).mpr h9)
    refine va_getsN (v := .ref tY) hx hb hZY h.2.2.2.1 E.2.2.2.1 (va_Nw.use rfl hF40) (fun _ h9 => h9) dX5_readsOf_17 ?_
    refine lv_iload_n hx hb dX5_readsOf_20 rfl (lv_at hl 1 rfl) ?_
    refine va_ti (v := .int (kTabY p0.toNatClampNeg)) hx hb hTY h.2.2.2.1 (vp_in_iff.mpr (by omega)) rfl dX5_readsOf_21 ?_
    refine lv_iconst (v := 1) hx hb dX5_readsOf_22 (by decide) ?_
    refine lv_icmp_ne (tgt := 32) hx hb dX5_readsOf_23 (by decide) (fun c_2 => ?_) (fun c_2 => ?_)
    · skip
      have i_2 : ¬ (kTabY p0.toNatClampNeg).toInt = 1 := fun h9 => c_2 ((fa_eq _ _).mpr h9)
      refine lv_iload_n hx hb dX5_readsOf_32 rfl (lv_at hl 1 rfl) ?_
      refine lv_bipush (v := 7) hx hb dX5_readsOf_33 (by decide) ?_
      refine lv_icmp_ne (tgt := 44) hx hb dX5_readsOf_35 (by decide) (fun c_3 => ?_) (fun c_3 => ?_)
      · skip
        have i_3 : ¬ p0.toInt = 7 := fun h9 => c_3 ((fa_eq _ _).mpr h9)
        refine lv_iload_n hx hb dX5_readsOf_44 rfl (lv_at hl 1 rfl) ?_
        refine lv_bipush (v := 9) hx hb dX5_readsOf_45 (by decide) ?_
        refine lv_icmp_eq (tgt := 56) hx hb dX5_readsOf_47 (by decide) (fun c_4 => ?_) (fun c_4 => ?_)
        · skip
          have i_4 : p0.toInt = 9 := (fa_eq _ _).mp c_4
          refine lv_iload_n hx hb dX5_readsOf_56 rfl (lv_at hl 0 rfl) ?_
          refine lv_iconst (v := 1) hx hb dX5_readsOf_57 (by decide) ?_
          refine lv_bipush (v := 8) hx hb dX5_readsOf_58 (by decide) ?_
          refine lv_iload_n hx hb dX5_readsOf_60 rfl (lv_at hl 2 rfl) ?_
          refine lv_iadd hx hb dX5_readsOf_61 ?_
          refine lv_ishl hx hb dX5_readsOf_62 ?_
          refine lv_ior hx hb dX5_readsOf_63 ?_
          refine lv_istore_n (lv' := [(3, .int ((0 : Int32) ||| ((1 : Int32) <<< ((8 + p1) &&& 31)))), (0, .int p0), (1, .int p1), (2, .int p2)]) hx hb dX5_readsOf_64 rfl hl (by decide) rfl (fun ls hl => ?_)
          refine lv_iload_n hx hb dX5_readsOf_65 rfl (lv_at hl 0 rfl) ?_
          have hP9 := h.2.1.sub [] rfl
          have hD9 := h.2.2.1.sub (ws' := []) [] (by decide) rfl
          exact W.iret (v := (0 : Int32) ||| ((1 : Int32) <<< ((8 + p1) &&& 31))) hx hb hr (fun t ht hW => ⟨⟨(0 : Int32) ||| ((1 : Int32) <<< ((8 + p1) &&& 31)), (), rfl, trivial, (by rw [ht]; exact hP9), hD9⟩, h.2.2.2.1.F ht⟩) h.2.2.2.1.2.2 dX5_readsOf_66 hlocks
        · skip
          have i_4 : ¬ p0.toInt = 9 := fun h9 => c_4 ((fa_eq _ _).mpr h9)
          refine lv_iload_n hx hb dX5_readsOf_50 rfl (lv_at hl 1 rfl) ?_
          refine lv_bipush (v := 10) hx hb dX5_readsOf_51 (by decide) ?_
          refine lv_icmp_ne (tgt := 65) hx hb dX5_readsOf_53 (by decide) (fun c_5 => ?_) (fun c_5 => ?_)
          · skip
            have i_5 : ¬ p0.toInt = 10 := fun h9 => c_5 ((fa_eq _ _).mpr h9)
            refine lv_iload_n hx hb dX5_readsOf_65 rfl (lv_at hl 0 rfl) ?_
            have hP9 := h.2.1.sub [] rfl
            have hD9 := h.2.2.1.sub (ws' := []) [] (by decide) rfl
            exact W.iret (v := 0) hx hb hr (fun t ht hW => ⟨⟨0, (), rfl, trivial, (by rw [ht]; exact hP9), hD9⟩, h.2.2.2.1.F ht⟩) h.2.2.2.1.2.2 dX5_readsOf_66 hlocks
          · skip
            have i_5 : p0.toInt = 10 := (fa_eq _ _).mp c_5
            refine lv_iload_n hx hb dX5_readsOf_56 rfl (lv_at hl 0 rfl) ?_
            refine lv_iconst (v := 1) hx hb dX5_readsOf_57 (by decide) ?_
            refine lv_bipush (v := 8) hx hb dX5_readsOf_58 (by decide) ?_
            refine lv_iload_n hx hb dX5_readsOf_60 rfl (lv_at hl 2 rfl) ?_
            refine lv_iadd hx hb dX5_readsOf_61 ?_
            refine lv_ishl hx hb dX5_readsOf_62 ?_
            refine lv_ior hx hb dX5_readsOf_63 ?_
            refine lv_istore_n (lv' := [(3, .int ((0 : Int32) ||| ((1 : Int32) <<< ((8 + p1) &&& 31)))), (0, .int p0), (1, .int p1), (2, .int p2)]) hx hb dX5_readsOf_64 rfl hl (by decide) rfl (fun ls hl => ?_)
            refine lv_iload_n hx hb dX5_readsOf_65 rfl (lv_at hl 0 rfl) ?_
            have hP9 := h.2.1.sub [] rfl
            have hD9 := h.2.2.1.sub (ws' := []) [] (by decide) rfl
            exact W.iret (v := (0 : Int32) ||| ((1 : Int32) <<< ((8 + p1) &&& 31))) hx hb hr (fun t ht hW => ⟨⟨(0 : Int32) ||| ((1 : Int32) <<< ((8 + p1) &&& 31)), (), rfl, trivial, (by rw [ht]; exact hP9), hD9⟩, h.2.2.2.1.F ht⟩) h.2.2.2.1.2.2 dX5_readsOf_66 hlocks
      · skip
        have i_3 : p0.toInt = 7 := (fa_eq _ _).mp c_3
        refine lv_iload_n hx hb dX5_readsOf_38 rfl (lv_at hl 0 rfl) ?_
        refine lv_sipush (v := 1024) hx hb dX5_readsOf_39 (by decide) ?_
        refine lv_ior hx hb dX5_readsOf_42 ?_
        refine k_topi (y := 1024) (by decide) ?_
        refine lv_istore_n (lv' := [(3, .int 1024), (0, .int p0), (1, .int p1), (2, .int p2)]) hx hb dX5_readsOf_43 rfl hl (by decide) rfl (fun ls hl => ?_)
        refine lv_iload_n hx hb dX5_readsOf_44 rfl (lv_at hl 1 rfl) ?_
        refine lv_bipush (v := 9) hx hb dX5_readsOf_45 (by decide) ?_
        refine lv_icmp_eq (tgt := 56) hx hb dX5_readsOf_47 (by decide) (fun c_6 => ?_) (fun c_6 => ?_)
        · skip
          have i_6 : p0.toInt = 9 := (fa_eq _ _).mp c_6
          refine lv_iload_n hx hb dX5_readsOf_56 rfl (lv_at hl 0 rfl) ?_
          refine lv_iconst (v := 1) hx hb dX5_readsOf_57 (by decide) ?_
          refine lv_bipush (v := 8) hx hb dX5_readsOf_58 (by decide) ?_
          refine lv_iload_n hx hb dX5_readsOf_60 rfl (lv_at hl 2 rfl) ?_
          refine lv_iadd hx hb dX5_readsOf_61 ?_
          refine lv_ishl hx hb dX5_readsOf_62 ?_
          refine lv_ior hx hb dX5_readsOf_63 ?_
          refine lv_istore_n (lv' := [(3, .int ((1024 : Int32) ||| ((1 : Int32) <<< ((8 + p1) &&& 31)))), (0, .int p0), (1, .int p1), (2, .int p2)]) hx hb dX5_readsOf_64 rfl hl (by decide) rfl (fun ls hl => ?_)
          refine lv_iload_n hx hb dX5_readsOf_65 rfl (lv_at hl 0 rfl) ?_
          have hP9 := h.2.1.sub [] rfl
          have hD9 := h.2.2.1.sub (ws' := []) [] (by decide) rfl
          exact W.iret (v := (1024 : Int32) ||| ((1 : Int32) <<< ((8 + p1) &&& 31))) hx hb hr (fun t ht hW => ⟨⟨(1024 : Int32) ||| ((1 : Int32) <<< ((8 + p1) &&& 31)), (), rfl, trivial, (by rw [ht]; exact hP9), hD9⟩, h.2.2.2.1.F ht⟩) h.2.2.2.1.2.2 dX5_readsOf_66 hlocks
        · skip
          have i_6 : ¬ p0.toInt = 9 := fun h9 => c_6 ((fa_eq _ _).mpr h9)
          refine lv_iload_n hx hb dX5_readsOf_50 rfl (lv_at hl 1 rfl) ?_
          refine lv_bipush (v := 10) hx hb dX5_readsOf_51 (by decide) ?_
          refine lv_icmp_ne (tgt := 65) hx hb dX5_readsOf_53 (by decide) (fun c_7 => ?_) (fun c_7 => ?_)
          · skip
            have i_7 : ¬ p0.toInt = 10 := fun h9 => c_7 ((fa_eq _ _).mpr h9)
            refine lv_iload_n hx hb dX5_readsOf_65 rfl (lv_at hl 0 rfl) ?_
            have hP9 := h.2.1.sub [] rfl
            have hD9 := h.2.2.1.sub (ws' := []) [] (by decide) rfl
            exact W.iret (v := 1024) hx hb hr (fun t ht hW => ⟨⟨1024, (), rfl, trivial, (by rw [ht]; exact hP9), hD9⟩, h.2.2.2.1.F ht⟩) h.2.2.2.1.2.2 dX5_readsOf_66 hlocks
          · skip
            have i_7 : p0.toInt = 10 := (fa_eq _ _).mp c_7
            refine lv_iload_n hx hb dX5_readsOf_56 rfl (lv_at hl 0 rfl) ?_
            refine lv_iconst (v := 1) hx hb dX5_readsOf_57 (by decide) ?_
            refine lv_bipush (v := 8) hx hb dX5_readsOf_58 (by decide) ?_
            refine lv_iload_n hx hb dX5_readsOf_60 rfl (lv_at hl 2 rfl) ?_
            refine lv_iadd hx hb dX5_readsOf_61 ?_
            refine lv_ishl hx hb dX5_readsOf_62 ?_
            refine lv_ior hx hb dX5_readsOf_63 ?_
            refine lv_istore_n (lv' := [(3, .int ((1024 : Int32) ||| ((1 : Int32) <<< ((8 + p1) &&& 31)))), (0, .int p0), (1, .int p1), (2, .int p2)]) hx hb dX5_readsOf_64 rfl hl (by decide) rfl (fun ls hl => ?_)
            refine lv_iload_n hx hb dX5_readsOf_65 rfl (lv_at hl 0 rfl) ?_
            have hP9 := h.2.1.sub [] rfl
            have hD9 := h.2.2.1.sub (ws' := []) [] (by decide) rfl
            exact W.iret (v := (1024 : Int32) ||| ((1 : Int32) <<< ((8 + p1) &&& 31))) hx hb hr (fun t ht hW => ⟨⟨(1024 : Int32) ||| ((1 : Int32) <<< ((8 + p1) &&& 31)), (), rfl, trivial, (by rw [ht]; exact hP9), hD9⟩, h.2.2.2.1.F ht⟩) h.2.2.2.1.2.2 dX5_readsOf_66 hlocks
    · skip
      have i_2 : (kTabY p0.toNatClampNeg).toInt = 1 := (fa_eq _ _).mp c_2
      refine lv_iload_n hx hb dX5_readsOf_26 rfl (lv_at hl 0 rfl) ?_
      refine lv_iconst (v := 1) hx hb dX5_readsOf_27 (by decide) ?_
      refine lv_iload_n hx hb dX5_readsOf_28 rfl (lv_at hl 3 rfl) ?_
      refine lv_ishl hx hb dX5_readsOf_29 ?_
      refine lv_ior hx hb dX5_readsOf_30 ?_
      refine lv_istore_n (lv' := [(3, .int ((0 : Int32) ||| ((1 : Int32) <<< (p2 &&& 31)))), (0, .int p0), (1, .int p1), (2, .int p2)]) hx hb dX5_readsOf_31 rfl hl (by decide) rfl (fun ls hl => ?_)
      refine lv_iload_n hx hb dX5_readsOf_32 rfl (lv_at hl 1 rfl) ?_
      refine lv_bipush (v := 7) hx hb dX5_readsOf_33 (by decide) ?_
      refine lv_icmp_ne (tgt := 44) hx hb dX5_readsOf_35 (by decide) (fun c_8 => ?_) (fun c_8 => ?_)
      · skip
        have i_8 : ¬ p0.toInt = 7 := fun h9 => c_8 ((fa_eq _ _).mpr h9)
        refine lv_iload_n hx hb dX5_readsOf_44 rfl (lv_at hl 1 rfl) ?_
        refine lv_bipush (v := 9) hx hb dX5_readsOf_45 (by decide) ?_
        refine lv_icmp_eq (tgt := 56) hx hb dX5_readsOf_47 (by decide) (fun c_9 => ?_) (fun c_9 => ?_)
        · skip
          have i_9 : p0.toInt = 9 := (fa_eq _ _).mp c_9
          refine lv_iload_n hx hb dX5_readsOf_56 rfl (lv_at hl 0 rfl) ?_
          refine lv_iconst (v := 1) hx hb dX5_readsOf_57 (by decide) ?_
          refine lv_bipush (v := 8) hx hb dX5_readsOf_58 (by decide) ?_
          refine lv_iload_n hx hb dX5_readsOf_60 rfl (lv_at hl 2 rfl) ?_
          refine lv_iadd hx hb dX5_readsOf_61 ?_
          refine lv_ishl hx hb dX5_readsOf_62 ?_
          refine lv_ior hx hb dX5_readsOf_63 ?_
          refine lv_istore_n (lv' := [(3, .int (((0 : Int32) ||| ((1 : Int32) <<< (p2 &&& 31))) ||| ((1 : Int32) <<< ((8 + p1) &&& 31)))), (0, .int p0), (1, .int p1), (2, .int p2)]) hx hb dX5_readsOf_64 rfl hl (by decide) rfl (fun ls hl => ?_)
          refine lv_iload_n hx hb dX5_readsOf_65 rfl (lv_at hl 0 rfl) ?_
          have hP9 := h.2.1.sub [] rfl
          have hD9 := h.2.2.1.sub (ws' := []) [] (by decide) rfl
          exact W.iret (v := ((0 : Int32) ||| ((1 : Int32) <<< (p2 &&& 31))) ||| ((1 : Int32) <<< ((8 + p1) &&& 31))) hx hb hr (fun t ht hW => ⟨⟨((0 : Int32) ||| ((1 : Int32) <<< (p2 &&& 31))) ||| ((1 : Int32) <<< ((8 + p1) &&& 31)), (), rfl, trivial, (by rw [ht]; exact hP9), hD9⟩, h.2.2.2.1.F ht⟩) h.2.2.2.1.2.2 dX5_readsOf_66 hlocks
        · skip
          have i_9 : ¬ p0.toInt = 9 := fun h9 => c_9 ((fa_eq _ _).mpr h9)
          refine lv_iload_n hx hb dX5_readsOf_50 rfl (lv_at hl 1 rfl) ?_
          refine lv_bipush (v := 10) hx hb dX5_readsOf_51 (by decide) ?_
          refine lv_icmp_ne (tgt := 65) hx hb dX5_readsOf_53 (by decide) (fun c_10 => ?_) (fun c_10 => ?_)
          · skip
            have i_10 : ¬ p0.toInt = 10 := fun h9 => c_10 ((fa_eq _ _).mpr h9)
            refine lv_iload_n hx hb dX5_readsOf_65 rfl (lv_at hl 0 rfl) ?_
            have hP9 := h.2.1.sub [] rfl
            have hD9 := h.2.2.1.sub (ws' := []) [] (by decide) rfl
            exact W.iret (v := (0 : Int32) ||| ((1 : Int32) <<< (p2 &&& 31))) hx hb hr (fun t ht hW => ⟨⟨(0 : Int32) ||| ((1 : Int32) <<< (p2 &&& 31)), (), rfl, trivial, (by rw [ht]; exact hP9), hD9⟩, h.2.2.2.1.F ht⟩) h.2.2.2.1.2.2 dX5_readsOf_66 hlocks
          · skip
            have i_10 : p0.toInt = 10 := (fa_eq _ _).mp c_10
            refine lv_iload_n hx hb dX5_readsOf_56 rfl (lv_at hl 0 rfl) ?_
            refine lv_iconst (v := 1) hx hb dX5_readsOf_57 (by decide) ?_
            refine lv_bipush (v := 8) hx hb dX5_readsOf_58 (by decide) ?_
            refine lv_iload_n hx hb dX5_readsOf_60 rfl (lv_at hl 2 rfl) ?_
            refine lv_iadd hx hb dX5_readsOf_61 ?_
            refine lv_ishl hx hb dX5_readsOf_62 ?_
            refine lv_ior hx hb dX5_readsOf_63 ?_
            refine lv_istore_n (lv' := [(3, .int (((0 : Int32) ||| ((1 : Int32) <<< (p2 &&& 31))) ||| ((1 : Int32) <<< ((8 + p1) &&& 31)))), (0, .int p0), (1, .int p1), (2, .int p2)]) hx hb dX5_readsOf_64 rfl hl (by decide) rfl (fun ls hl => ?_)
            refine lv_iload_n hx hb dX5_readsOf_65 rfl (lv_at hl 0 rfl) ?_
            have hP9 := h.2.1.sub [] rfl
            have hD9 := h.2.2.1.sub (ws' := []) [] (by decide) rfl
            exact W.iret (v := ((0 : Int32) ||| ((1 : Int32) <<< (p2 &&& 31))) ||| ((1 : Int32) <<< ((8 + p1) &&& 31))) hx hb hr (fun t ht hW => ⟨⟨((0 : Int32) ||| ((1 : Int32) <<< (p2 &&& 31))) ||| ((1 : Int32) <<< ((8 + p1) &&& 31)), (), rfl, trivial, (by rw [ht]; exact hP9), hD9⟩, h.2.2.2.1.F ht⟩) h.2.2.2.1.2.2 dX5_readsOf_66 hlocks
      · skip
        have i_8 : p0.toInt = 7 := (fa_eq _ _).mp c_8
        refine lv_iload_n hx hb dX5_readsOf_38 rfl (lv_at hl 0 rfl) ?_
        refine lv_sipush (v := 1024) hx hb dX5_readsOf_39 (by decide) ?_
        refine lv_ior hx hb dX5_readsOf_42 ?_
        refine lv_istore_n (lv' := [(3, .int (((0 : Int32) ||| ((1 : Int32) <<< (p2 &&& 31))) ||| (1024 : Int32))), (0, .int p0), (1, .int p1), (2, .int p2)]) hx hb dX5_readsOf_43 rfl hl (by decide) rfl (fun ls hl => ?_)
        refine lv_iload_n hx hb dX5_readsOf_44 rfl (lv_at hl 1 rfl) ?_
        refine lv_bipush (v := 9) hx hb dX5_readsOf_45 (by decide) ?_
        refine lv_icmp_eq (tgt := 56) hx hb dX5_readsOf_47 (by decide) (fun c_11 => ?_) (fun c_11 => ?_)
        · skip
          have i_11 : p0.toInt = 9 := (fa_eq _ _).mp c_11
          refine lv_iload_n hx hb dX5_readsOf_56 rfl (lv_at hl 0 rfl) ?_
          refine lv_iconst (v := 1) hx hb dX5_readsOf_57 (by decide) ?_
          refine lv_bipush (v := 8) hx hb dX5_readsOf_58 (by decide) ?_
          refine lv_iload_n hx hb dX5_readsOf_60 rfl (lv_at hl 2 rfl) ?_
          refine lv_iadd hx hb dX5_readsOf_61 ?_
          refine lv_ishl hx hb dX5_readsOf_62 ?_
          refine lv_ior hx hb dX5_readsOf_63 ?_
          refine lv_istore_n (lv' := [(3, .int ((((0 : Int32) ||| ((1 : Int32) <<< (p2 &&& 31))) ||| (1024 : Int32)) ||| ((1 : Int32) <<< ((8 + p1) &&& 31)))), (0, .int p0), (1, .int p1), (2, .int p2)]) hx hb dX5_readsOf_64 rfl hl (by decide) rfl (fun ls hl => ?_)
          refine lv_iload_n hx hb dX5_readsOf_65 rfl (lv_at hl 0 rfl) ?_
          have hP9 := h.2.1.sub [] rfl
          have hD9 := h.2.2.1.sub (ws' := []) [] (by decide) rfl
          exact W.iret (v := (((0 : Int32) ||| ((1 : Int32) <<< (p2 &&& 31))) ||| (1024 : Int32)) ||| ((1 : Int32) <<< ((8 + p1) &&& 31))) hx hb hr (fun t ht hW => ⟨⟨(((0 : Int32) ||| ((1 : Int32) <<< (p2 &&& 31))) ||| (1024 : Int32)) ||| ((1 : Int32) <<< ((8 + p1) &&& 31)), (), rfl, trivial, (by rw [ht]; exact hP9), hD9⟩, h.2.2.2.1.F ht⟩) h.2.2.2.1.2.2 dX5_readsOf_66 hlocks
        · skip
          have i_11 : ¬ p0.toInt = 9 := fun h9 => c_11 ((fa_eq _ _).mpr h9)
          refine lv_iload_n hx hb dX5_readsOf_50 rfl (lv_at hl 1 rfl) ?_
          refine lv_bipush (v := 10) hx hb dX5_readsOf_51 (by decide) ?_
          refine lv_icmp_ne (tgt := 65) hx hb dX5_readsOf_53 (by decide) (fun c_12 => ?_) (fun c_12 => ?_)
          · skip
            have i_12 : ¬ p0.toInt = 10 := fun h9 => c_12 ((fa_eq _ _).mpr h9)
            refine lv_iload_n hx hb dX5_readsOf_65 rfl (lv_at hl 0 rfl) ?_
            have hP9 := h.2.1.sub [] rfl
            have hD9 := h.2.2.1.sub (ws' := []) [] (by decide) rfl
            exact W.iret (v := ((0 : Int32) ||| ((1 : Int32) <<< (p2 &&& 31))) ||| (1024 : Int32)) hx hb hr (fun t ht hW => ⟨⟨((0 : Int32) ||| ((1 : Int32) <<< (p2 &&& 31))) ||| (1024 : Int32), (), rfl, trivial, (by rw [ht]; exact hP9), hD9⟩, h.2.2.2.1.F ht⟩) h.2.2.2.1.2.2 dX5_readsOf_66 hlocks
          · skip
            have i_12 : p0.toInt = 10 := (fa_eq _ _).mp c_12
            refine lv_iload_n hx hb dX5_readsOf_56 rfl (lv_at hl 0 rfl) ?_
            refine lv_iconst (v := 1) hx hb dX5_readsOf_57 (by decide) ?_
            refine lv_bipush (v := 8) hx hb dX5_readsOf_58 (by decide) ?_
            refine lv_iload_n hx hb dX5_readsOf_60 rfl (lv_at hl 2 rfl) ?_
            refine lv_iadd hx hb dX5_readsOf_61 ?_
            refine lv_ishl hx hb dX5_readsOf_62 ?_
            refine lv_ior hx hb dX5_readsOf_63 ?_
            refine lv_istore_n (lv' := [(3, .int ((((0 : Int32) ||| ((1 : Int32) <<< (p2 &&& 31))) ||| (1024 : Int32)) ||| ((1 : Int32) <<< ((8 + p1) &&& 31)))), (0, .int p0), (1, .int p1), (2, .int p2)]) hx hb dX5_readsOf_64 rfl hl (by decide) rfl (fun ls hl => ?_)
            refine lv_iload_n hx hb dX5_readsOf_65 rfl (lv_at hl 0 rfl) ?_
            have hP9 := h.2.1.sub [] rfl
            have hD9 := h.2.2.1.sub (ws' := []) [] (by decide) rfl
            exact W.iret (v := (((0 : Int32) ||| ((1 : Int32) <<< (p2 &&& 31))) ||| (1024 : Int32)) ||| ((1 : Int32) <<< ((8 + p1) &&& 31))) hx hb hr (fun t ht hW => ⟨⟨(((0 : Int32) ||| ((1 : Int32) <<< (p2 &&& 31))) ||| (1024 : Int32)) ||| ((1 : Int32) <<< ((8 + p1) &&& 31)), (), rfl, trivial, (by rw [ht]; exact hP9), hD9⟩, h.2.2.2.1.F ht⟩) h.2.2.2.1.2.2 dX5_readsOf_66 hlocks
  · skip
    have i_1 : (kTabX p0.toNatClampNeg).toInt = 1 := (fa_eq _ _).mp c_1
    refine lv_iload_n hx hb dX5_readsOf_11 rfl (lv_at hl 0 rfl) ?_
    refine lv_iconst (v := 1) hx hb dX5_readsOf_12 (by decide) ?_
    refine lv_iload_n hx hb dX5_readsOf_13 rfl (lv_at hl 2 rfl) ?_
    refine lv_ishl hx hb dX5_readsOf_14 ?_
    refine lv_ior hx hb dX5_readsOf_15 ?_
    refine lv_istore_n (lv' := [(3, .int ((0 : Int32) ||| ((1 : Int32) <<< (p1 &&& 31)))), (0, .int p0), (1, .int p1), (2, .int p2)]) hx hb dX5_readsOf_16 rfl hl (by decide) rfl (fun ls hl => ?_)
    refine va_getsN (v := .ref tY) hx hb hZY h.2.2.2.1 E.2.2.2.1 (va_Nw.use rfl hF40) (fun _ h9 => h9) dX5_readsOf_17 ?_
    refine lv_iload_n hx hb dX5_readsOf_20 rfl (lv_at hl 1 rfl) ?_
    refine va_ti (v := .int (kTabY p0.toNatClampNeg)) hx hb hTY h.2.2.2.1 (vp_in_iff.mpr (by omega)) rfl dX5_readsOf_21 ?_
    refine lv_iconst (v := 1) hx hb dX5_readsOf_22 (by decide) ?_
    refine lv_icmp_ne (tgt := 32) hx hb dX5_readsOf_23 (by decide) (fun c_13 => ?_) (fun c_13 => ?_)
    · skip
      have i_13 : ¬ (kTabY p0.toNatClampNeg).toInt = 1 := fun h9 => c_13 ((fa_eq _ _).mpr h9)
      refine lv_iload_n hx hb dX5_readsOf_32 rfl (lv_at hl 1 rfl) ?_
      refine lv_bipush (v := 7) hx hb dX5_readsOf_33 (by decide) ?_
      refine lv_icmp_ne (tgt := 44) hx hb dX5_readsOf_35 (by decide) (fun c_14 => ?_) (fun c_14 => ?_)
      · skip
        have i_14 : ¬ p0.toInt = 7 := fun h9 => c_14 ((fa_eq _ _).mpr h9)
        refine lv_iload_n hx hb dX5_readsOf_44 rfl (lv_at hl 1 rfl) ?_
        refine lv_bipush (v := 9) hx hb dX5_readsOf_45 (by decide) ?_
        refine lv_icmp_eq (tgt := 56) hx hb dX5_readsOf_47 (by decide) (fun c_15 => ?_) (fun c_15 => ?_)
        · skip
          have i_15 : p0.toInt = 9 := (fa_eq _ _).mp c_15
          refine lv_iload_n hx hb dX5_readsOf_56 rfl (lv_at hl 0 rfl) ?_
          refine lv_iconst (v := 1) hx hb dX5_readsOf_57 (by decide) ?_
          refine lv_bipush (v := 8) hx hb dX5_readsOf_58 (by decide) ?_
          refine lv_iload_n hx hb dX5_readsOf_60 rfl (lv_at hl 2 rfl) ?_
          refine lv_iadd hx hb dX5_readsOf_61 ?_
          refine lv_ishl hx hb dX5_readsOf_62 ?_
          refine lv_ior hx hb dX5_readsOf_63 ?_
          refine lv_istore_n (lv' := [(3, .int (((0 : Int32) ||| ((1 : Int32) <<< (p1 &&& 31))) ||| ((1 : Int32) <<< ((8 + p1) &&& 31)))), (0, .int p0), (1, .int p1), (2, .int p2)]) hx hb dX5_readsOf_64 rfl hl (by decide) rfl (fun ls hl => ?_)
          refine lv_iload_n hx hb dX5_readsOf_65 rfl (lv_at hl 0 rfl) ?_
          have hP9 := h.2.1.sub [] rfl
          have hD9 := h.2.2.1.sub (ws' := []) [] (by decide) rfl
          exact W.iret (v := ((0 : Int32) ||| ((1 : Int32) <<< (p1 &&& 31))) ||| ((1 : Int32) <<< ((8 + p1) &&& 31))) hx hb hr (fun t ht hW => ⟨⟨((0 : Int32) ||| ((1 : Int32) <<< (p1 &&& 31))) ||| ((1 : Int32) <<< ((8 + p1) &&& 31)), (), rfl, trivial, (by rw [ht]; exact hP9), hD9⟩, h.2.2.2.1.F ht⟩) h.2.2.2.1.2.2 dX5_readsOf_66 hlocks
        · skip
          have i_15 : ¬ p0.toInt = 9 := fun h9 => c_15 ((fa_eq _ _).mpr h9)
          refine lv_iload_n hx hb dX5_readsOf_50 rfl (lv_at hl 1 rfl) ?_
          refine lv_bipush (v := 10) hx hb dX5_readsOf_51 (by decide) ?_
          refine lv_icmp_ne (tgt := 65) hx hb dX5_readsOf_53 (by decide) (fun c_16 => ?_) (fun c_16 => ?_)
          · skip
            have i_16 : ¬ p0.toInt = 10 := fun h9 => c_16 ((fa_eq _ _).mpr h9)
            refine lv_iload_n hx hb dX5_readsOf_65 rfl (lv_at hl 0 rfl) ?_
            have hP9 := h.2.1.sub [] rfl
            have hD9 := h.2.2.1.sub (ws' := []) [] (by decide) rfl
            exact W.iret (v := (0 : Int32) ||| ((1 : Int32) <<< (p1 &&& 31))) hx hb hr (fun t ht hW => ⟨⟨(0 : Int32) ||| ((1 : Int32) <<< (p1 &&& 31)), (), rfl, trivial, (by rw [ht]; exact hP9), hD9⟩, h.2.2.2.1.F ht⟩) h.2.2.2.1.2.2 dX5_readsOf_66 hlocks
          · skip
            have i_16 : p0.toInt = 10 := (fa_eq _ _).mp c_16
            refine lv_iload_n hx hb dX5_readsOf_56 rfl (lv_at hl 0 rfl) ?_
            refine lv_iconst (v := 1) hx hb dX5_readsOf_57 (by decide) ?_
            refine lv_bipush (v := 8) hx hb dX5_readsOf_58 (by decide) ?_
            refine lv_iload_n hx hb dX5_readsOf_60 rfl (lv_at hl 2 rfl) ?_
            refine lv_iadd hx hb dX5_readsOf_61 ?_
            refine lv_ishl hx hb dX5_readsOf_62 ?_
            refine lv_ior hx hb dX5_readsOf_63 ?_
            refine lv_istore_n (lv' := [(3, .int (((0 : Int32) ||| ((1 : Int32) <<< (p1 &&& 31))) ||| ((1 : Int32) <<< ((8 + p1) &&& 31)))), (0, .int p0), (1, .int p1), (2, .int p2)]) hx hb dX5_readsOf_64 rfl hl (by decide) rfl (fun ls hl => ?_)
            refine lv_iload_n hx hb dX5_readsOf_65 rfl (lv_at hl 0 rfl) ?_
            have hP9 := h.2.1.sub [] rfl
            have hD9 := h.2.2.1.sub (ws' := []) [] (by decide) rfl
            exact W.iret (v := ((0 : Int32) ||| ((1 : Int32) <<< (p1 &&& 31))) ||| ((1 : Int32) <<< ((8 + p1) &&& 31))) hx hb hr (fun t ht hW => ⟨⟨((0 : Int32) ||| ((1 : Int32) <<< (p1 &&& 31))) ||| ((1 : Int32) <<< ((8 + p1) &&& 31)), (), rfl, trivial, (by rw [ht]; exact hP9), hD9⟩, h.2.2.2.1.F ht⟩) h.2.2.2.1.2.2 dX5_readsOf_66 hlocks
      · skip
        have i_14 : p0.toInt = 7 := (fa_eq _ _).mp c_14
        refine lv_iload_n hx hb dX5_readsOf_38 rfl (lv_at hl 0 rfl) ?_
        refine lv_sipush (v := 1024) hx hb dX5_readsOf_39 (by decide) ?_
        refine lv_ior hx hb dX5_readsOf_42 ?_
        refine lv_istore_n (lv' := [(3, .int (((0 : Int32) ||| ((1 : Int32) <<< (p1 &&& 31))) ||| (1024 : Int32))), (0, .int p0), (1, .int p1), (2, .int p2)]) hx hb dX5_readsOf_43 rfl hl (by decide) rfl (fun ls hl => ?_)
        refine lv_iload_n hx hb dX5_readsOf_44 rfl (lv_at hl 1 rfl) ?_
        refine lv_bipush (v := 9) hx hb dX5_readsOf_45 (by decide) ?_
        refine lv_icmp_eq (tgt := 56) hx hb dX5_readsOf_47 (by decide) (fun c_17 => ?_) (fun c_17 => ?_)
        · skip
          have i_17 : p0.toInt = 9 := (fa_eq _ _).mp c_17
          refine lv_iload_n hx hb dX5_readsOf_56 rfl (lv_at hl 0 rfl) ?_
          refine lv_iconst (v := 1) hx hb dX5_readsOf_57 (by decide) ?_
          refine lv_bipush (v := 8) hx hb dX5_readsOf_58 (by decide) ?_
          refine lv_iload_n hx hb dX5_readsOf_60 rfl (lv_at hl 2 rfl) ?_
          refine lv_iadd hx hb dX5_readsOf_61 ?_
          refine lv_ishl hx hb dX5_readsOf_62 ?_
          refine lv_ior hx hb dX5_readsOf_63 ?_
          refine lv_istore_n (lv' := [(3, .int ((((0 : Int32) ||| ((1 : Int32) <<< (p1 &&& 31))) ||| (1024 : Int32)) ||| ((1 : Int32) <<< ((8 + p1) &&& 31)))), (0, .int p0), (1, .int p1), (2, .int p2)]) hx hb dX5_readsOf_64 rfl hl (by decide) rfl (fun ls hl => ?_)
          refine lv_iload_n hx hb dX5_readsOf_65 rfl (lv_at hl 0 rfl) ?_
          have hP9 := h.2.1.sub [] rfl
          have hD9 := h.2.2.1.sub (ws' := []) [] (by decide) rfl
          exact W.iret (v := (((0 : Int32) ||| ((1 : Int32) <<< (p1 &&& 31))) ||| (1024 : Int32)) ||| ((1 : Int32) <<< ((8 + p1) &&& 31))) hx hb hr (fun t ht hW => ⟨⟨(((0 : Int32) ||| ((1 : Int32) <<< (p1 &&& 31))) ||| (1024 : Int32)) ||| ((1 : Int32) <<< ((8 + p1) &&& 31)), (), rfl, trivial, (by rw [ht]; exact hP9), hD9⟩, h.2.2.2.1.F ht⟩) h.2.2.2.1.2.2 dX5_readsOf_66 hlocks
        · skip
          have i_17 : ¬ p0.toInt = 9 := fun h9 => c_17 ((fa_eq _ _).mpr h9)
          refine lv_iload_n hx hb dX5_readsOf_50 rfl (lv_at hl 1 rfl) ?_
          refine lv_bipush (v := 10) hx hb dX5_readsOf_51 (by decide) ?_
          refine lv_icmp_ne (tgt := 65) hx hb dX5_readsOf_53 (by decide) (fun c_18 => ?_) (fun c_18 => ?_)
          · skip
            have i_18 : ¬ p0.toInt = 10 := fun h9 => c_18 ((fa_eq _ _).mpr h9)
            refine lv_iload_n hx hb dX5_readsOf_65 rfl (lv_at hl 0 rfl) ?_
            have hP9 := h.2.1.sub [] rfl
            have hD9 := h.2.2.1.sub (ws' := []) [] (by decide) rfl
            exact W.iret (v := ((0 : Int32) ||| ((1 : Int32) <<< (p1 &&& 31))) ||| (1024 : Int32)) hx hb hr (fun t ht hW => ⟨⟨((0 : Int32) ||| ((1 : Int32) <<< (p1 &&& 31))) ||| (1024 : Int32), (), rfl, trivial, (by rw [ht]; exact hP9), hD9⟩, h.2.2.2.1.F ht⟩) h.2.2.2.1.2.2 dX5_readsOf_66 hlocks
          · skip
            have i_18 : p0.toInt = 10 := (fa_eq _ _).mp c_18
            refine lv_iload_n hx hb dX5_readsOf_56 rfl (lv_at hl 0 rfl) ?_
            refine lv_iconst (v := 1) hx hb dX5_readsOf_57 (by decide) ?_
            refine lv_bipush (v := 8) hx hb dX5_readsOf_58 (by decide) ?_
            refine lv_iload_n hx hb dX5_readsOf_60 rfl (lv_at hl 2 rfl) ?_
            refine lv_iadd hx hb dX5_readsOf_61 ?_
            refine lv_ishl hx hb dX5_readsOf_62 ?_
            refine lv_ior hx hb dX5_readsOf_63 ?_
            refine lv_istore_n (lv' := [(3, .int ((((0 : Int32) ||| ((1 : Int32) <<< (p1 &&& 31))) ||| (1024 : Int32)) ||| ((1 : Int32) <<< ((8 + p1) &&& 31)))), (0, .int p0), (1, .int p1), (2, .int p2)]) hx hb dX5_readsOf_64 rfl hl (by decide) rfl (fun ls hl => ?_)
            refine lv_iload_n hx hb dX5_readsOf_65 rfl (lv_at hl 0 rfl) ?_
            have hP9 := h.2.1.sub [] rfl
            have hD9 := h.2.2.1.sub (ws' := []) [] (by decide) rfl
            exact W.iret (v := (((0 : Int32) ||| ((1 : Int32) <<< (p1 &&& 31))) ||| (1024 : Int32)) ||| ((1 : Int32) <<< ((8 + p1) &&& 31))) hx hb hr (fun t ht hW => ⟨⟨(((0 : Int32) ||| ((1 : Int32) <<< (p1 &&& 31))) ||| (1024 : Int32)) ||| ((1 : Int32) <<< ((8 + p1) &&& 31)), (), rfl, trivial, (by rw [ht]; exact hP9), hD9⟩, h.2.2.2.1.F ht⟩) h.2.2.2.1.2.2 dX5_readsOf_66 hlocks
    · skip
      have i_13 : (kTabY p0.toNatClampNeg).toInt = 1 := (fa_eq _ _).mp c_13
      refine lv_iload_n hx hb dX5_readsOf_26 rfl (lv_at hl 0 rfl) ?_
      refine lv_iconst (v := 1) hx hb dX5_readsOf_27 (by decide) ?_
      refine lv_iload_n hx hb dX5_readsOf_28 rfl (lv_at hl 3 rfl) ?_
      refine lv_ishl hx hb dX5_readsOf_29 ?_
      refine lv_ior hx hb dX5_readsOf_30 ?_
      refine lv_istore_n (lv' := [(3, .int (((0 : Int32) ||| ((1 : Int32) <<< (p1 &&& 31))) ||| ((1 : Int32) <<< (p2 &&& 31)))), (0, .int p0), (1, .int p1), (2, .int p2)]) hx hb dX5_readsOf_31 rfl hl (by decide) rfl (fun ls hl => ?_)
      refine lv_iload_n hx hb dX5_readsOf_32 rfl (lv_at hl 1 rfl) ?_
      refine lv_bipush (v := 7) hx hb dX5_readsOf_33 (by decide) ?_
      refine lv_icmp_ne (tgt := 44) hx hb dX5_readsOf_35 (by decide) (fun c_19 => ?_) (fun c_19 => ?_)
      · skip
        have i_19 : ¬ p0.toInt = 7 := fun h9 => c_19 ((fa_eq _ _).mpr h9)
        refine lv_iload_n hx hb dX5_readsOf_44 rfl (lv_at hl 1 rfl) ?_
        refine lv_bipush (v := 9) hx hb dX5_readsOf_45 (by decide) ?_
        refine lv_icmp_eq (tgt := 56) hx hb dX5_readsOf_47 (by decide) (fun c_20 => ?_) (fun c_20 => ?_)
        · skip
          have i_20 : p0.toInt = 9 := (fa_eq _ _).mp c_20
          refine lv_iload_n hx hb dX5_readsOf_56 rfl (lv_at hl 0 rfl) ?_
          refine lv_iconst (v := 1) hx hb dX5_readsOf_57 (by decide) ?_
          refine lv_bipush (v := 8) hx hb dX5_readsOf_58 (by decide) ?_
          refine lv_iload_n hx hb dX5_readsOf_60 rfl (lv_at hl 2 rfl) ?_
          refine lv_iadd hx hb dX5_readsOf_61 ?_
          refine lv_ishl hx hb dX5_readsOf_62 ?_
          refine lv_ior hx hb dX5_readsOf_63 ?_
          refine lv_istore_n (lv' := [(3, .int ((((0 : Int32) ||| ((1 : Int32) <<< (p1 &&& 31))) ||| ((1 : Int32) <<< (p2 &&& 31))) ||| ((1 : Int32) <<< ((8 + p1) &&& 31)))), (0, .int p0), (1, .int p1), (2, .int p2)]) hx hb dX5_readsOf_64 rfl hl (by decide) rfl (fun ls hl => ?_)
          refine lv_iload_n hx hb dX5_readsOf_65 rfl (lv_at hl 0 rfl) ?_
          have hP9 := h.2.1.sub [] rfl
          have hD9 := h.2.2.1.sub (ws' := []) [] (by decide) rfl
          exact W.iret (v := (((0 : Int32) ||| ((1 : Int32) <<< (p1 &&& 31))) ||| ((1 : Int32) <<< (p2 &&& 31))) ||| ((1 : Int32) <<< ((8 + p1) &&& 31))) hx hb hr (fun t ht hW => ⟨⟨(((0 : Int32) ||| ((1 : Int32) <<< (p1 &&& 31))) ||| ((1 : Int32) <<< (p2 &&& 31))) ||| ((1 : Int32) <<< ((8 + p1) &&& 31)), (), rfl, trivial, (by rw [ht]; exact hP9), hD9⟩, h.2.2.2.1.F ht⟩) h.2.2.2.1.2.2 dX5_readsOf_66 hlocks
        · skip
          have i_20 : ¬ p0.toInt = 9 := fun h9 => c_20 ((fa_eq _ _).mpr h9)
          refine lv_iload_n hx hb dX5_readsOf_50 rfl (lv_at hl 1 rfl) ?_
          refine lv_bipush (v := 10) hx hb dX5_readsOf_51 (by decide) ?_
          refine lv_icmp_ne (tgt := 65) hx hb dX5_readsOf_53 (by decide) (fun c_21 => ?_) (fun c_21 => ?_)
          · skip
            have i_21 : ¬ p0.toInt = 10 := fun h9 => c_21 ((fa_eq _ _).mpr h9)
            refine lv_iload_n hx hb dX5_readsOf_65 rfl (lv_at hl 0 rfl) ?_
            have hP9 := h.2.1.sub [] rfl
            have hD9 := h.2.2.1.sub (ws' := []) [] (by decide) rfl
            exact W.iret (v := ((0 : Int32) ||| ((1 : Int32) <<< (p1 &&& 31))) ||| ((1 : Int32) <<< (p2 &&& 31))) hx hb hr (fun t ht hW => ⟨⟨((0 : Int32) ||| ((1 : Int32) <<< (p1 &&& 31))) ||| ((1 : Int32) <<< (p2 &&& 31)), (), rfl, trivial, (by rw [ht]; exact hP9), hD9⟩, h.2.2.2.1.F ht⟩) h.2.2.2.1.2.2 dX5_readsOf_66 hlocks
          · skip
            have i_21 : p0.toInt = 10 := (fa_eq _ _).mp c_21
            refine lv_iload_n hx hb dX5_readsOf_56 rfl (lv_at hl 0 rfl) ?_
            refine lv_iconst (v := 1) hx hb dX5_readsOf_57 (by decide) ?_
            refine lv_bipush (v := 8) hx hb dX5_readsOf_58 (by decide) ?_
            refine lv_iload_n hx hb dX5_readsOf_60 rfl (lv_at hl 2 rfl) ?_
            refine lv_iadd hx hb dX5_readsOf_61 ?_
            refine lv_ishl hx hb dX5_readsOf_62 ?_
            refine lv_ior hx hb dX5_readsOf_63 ?_
            refine lv_istore_n (lv' := [(3, .int ((((0 : Int32) ||| ((1 : Int32) <<< (p1 &&& 31))) ||| ((1 : Int32) <<< (p2 &&& 31))) ||| ((1 : Int32) <<< ((8 + p1) &&& 31)))), (0, .int p0), (1, .int p1), (2, .int p2)]) hx hb dX5_readsOf_64 rfl hl (by decide) rfl (fun ls hl => ?_)
            refine lv_iload_n hx hb dX5_readsOf_65 rfl (lv_at hl 0 rfl) ?_
            have hP9 := h.2.1.sub [] rfl
            have hD9 := h.2.2.1.sub (ws' := []) [] (by decide) rfl
            exact W.iret (v := (((0 : Int32) ||| ((1 : Int32) <<< (p1 &&& 31))) ||| ((1 : Int32) <<< (p2 &&& 31))) ||| ((1 : Int32) <<< ((8 + p1) &&& 31))) hx hb hr (fun t ht hW => ⟨⟨(((0 : Int32) ||| ((1 : Int32) <<< (p1 &&& 31))) ||| ((1 : Int32) <<< (p2 &&& 31))) ||| ((1 : Int32) <<< ((8 + p1) &&& 31)), (), rfl, trivial, (by rw [ht]; exact hP9), hD9⟩, h.2.2.2.1.F ht⟩) h.2.2.2.1.2.2 dX5_readsOf_66 hlocks
      · skip
        have i_19 : p0.toInt = 7 := (fa_eq _ _).mp c_19
        refine lv_iload_n hx hb dX5_readsOf_38 rfl (lv_at hl 0 rfl) ?_
        refine lv_sipush (v := 1024) hx hb dX5_readsOf_39 (by decide) ?_
        refine lv_ior hx hb dX5_readsOf_42 ?_
        refine lv_istore_n (lv' := [(3, .int ((((0 : Int32) ||| ((1 : Int32) <<< (p1 &&& 31))) ||| ((1 : Int32) <<< (p2 &&& 31))) ||| (1024 : Int32))), (0, .int p0), (1, .int p1), (2, .int p2)]) hx hb dX5_readsOf_43 rfl hl (by decide) rfl (fun ls hl => ?_)
        refine lv_iload_n hx hb dX5_readsOf_44 rfl (lv_at hl 1 rfl) ?_
        refine lv_bipush (v := 9) hx hb dX5_readsOf_45 (by decide) ?_
        refine lv_icmp_eq (tgt := 56) hx hb dX5_readsOf_47 (by decide) (fun c_22 => ?_) (fun c_22 => ?_)
        · skip
          have i_22 : p0.toInt = 9 := (fa_eq _ _).mp c_22
          refine lv_iload_n hx hb dX5_readsOf_56 rfl (lv_at hl 0 rfl) ?_
          refine lv_iconst (v := 1) hx hb dX5_readsOf_57 (by decide) ?_
          refine lv_bipush (v := 8) hx hb dX5_readsOf_58 (by decide) ?_
          refine lv_iload_n hx hb dX5_readsOf_60 rfl (lv_at hl 2 rfl) ?_
          refine lv_iadd hx hb dX5_readsOf_61 ?_
          refine lv_ishl hx hb dX5_readsOf_62 ?_
          refine lv_ior hx hb dX5_readsOf_63 ?_
          refine lv_istore_n (lv' := [(3, .int (((((0 : Int32) ||| ((1 : Int32) <<< (p1 &&& 31))) ||| ((1 : Int32) <<< (p2 &&& 31))) ||| (1024 : Int32)) ||| ((1 : Int32) <<< ((8 + p1) &&& 31)))), (0, .int p0), (1, .int p1), (2, .int p2)]) hx hb dX5_readsOf_64 rfl hl (by decide) rfl (fun ls hl => ?_)
          refine lv_iload_n hx hb dX5_readsOf_65 rfl (lv_at hl 0 rfl) ?_
          have hP9 := h.2.1.sub [] rfl
          have hD9 := h.2.2.1.sub (ws' := []) [] (by decide) rfl
          exact W.iret (v := ((((0 : Int32) ||| ((1 : Int32) <<< (p1 &&& 31))) ||| ((1 : Int32) <<< (p2 &&& 31))) ||| (1024 : Int32)) ||| ((1 : Int32) <<< ((8 + p1) &&& 31))) hx hb hr (fun t ht hW => ⟨⟨((((0 : Int32) ||| ((1 : Int32) <<< (p1 &&& 31))) ||| ((1 : Int32) <<< (p2 &&& 31))) ||| (1024 : Int32)) ||| ((1 : Int32) <<< ((8 + p1) &&& 31)), (), rfl, trivial, (by rw [ht]; exact hP9), hD9⟩, h.2.2.2.1.F ht⟩) h.2.2.2.1.2.2 dX5_readsOf_66 hlocks
        · skip
          have i_22 : ¬ p0.toInt = 9 := fun h9 => c_22 ((fa_eq _ _).mpr h9)
          refine lv_iload_n hx hb dX5_readsOf_50 rfl (lv_at hl 1 rfl) ?_
          refine lv_bipush (v := 10) hx hb dX5_readsOf_51 (by decide) ?_
          refine lv_icmp_ne (tgt := 65) hx hb dX5_readsOf_53 (by decide) (fun c_23 => ?_) (fun c_23 => ?_)
          · skip
            have i_23 : ¬ p0.toInt = 10 := fun h9 => c_23 ((fa_eq _ _).mpr h9)
            refine lv_iload_n hx hb dX5_readsOf_65 rfl (lv_at hl 0 rfl) ?_
            have hP9 := h.2.1.sub [] rfl
            have hD9 := h.2.2.1.sub (ws' := []) [] (by decide) rfl
            exact W.iret (v := (((0 : Int32) ||| ((1 : Int32) <<< (p1 &&& 31))) ||| ((1 : Int32) <<< (p2 &&& 31))) ||| (1024 : Int32)) hx hb hr (fun t ht hW => ⟨⟨(((0 : Int32) ||| ((1 : Int32) <<< (p1 &&& 31))) ||| ((1 : Int32) <<< (p2 &&& 31))) ||| (1024 : Int32), (), rfl, trivial, (by rw [ht]; exact hP9), hD9⟩, h.2.2.2.1.F ht⟩) h.2.2.2.1.2.2 dX5_readsOf_66 hlocks
          · skip
            have i_23 : p0.toInt = 10 := (fa_eq _ _).mp c_23
            refine lv_iload_n hx hb dX5_readsOf_56 rfl (lv_at hl 0 rfl) ?_
            refine lv_iconst (v := 1) hx hb dX5_readsOf_57 (by decide) ?_
            refine lv_bipush (v := 8) hx hb dX5_readsOf_58 (by decide) ?_
            refine lv_iload_n hx hb dX5_readsOf_60 rfl (lv_at hl 2 rfl) ?_
            refine lv_iadd hx hb dX5_readsOf_61 ?_
            refine lv_ishl hx hb dX5_readsOf_62 ?_
            refine lv_ior hx hb dX5_readsOf_63 ?_
            refine lv_istore_n (lv' := [(3, .int (((((0 : Int32) ||| ((1 : Int32) <<< (p1 &&& 31))) ||| ((1 : Int32) <<< (p2 &&& 31))) ||| (1024 : Int32)) ||| ((1 : Int32) <<< ((8 + p1) &&& 31)))), (0, .int p0), (1, .int p1), (2, .int p2)]) hx hb dX5_readsOf_64 rfl hl (by decide) rfl (fun ls hl => ?_)
            refine lv_iload_n hx hb dX5_readsOf_65 rfl (lv_at hl 0 rfl) ?_
            have hP9 := h.2.1.sub [] rfl
            have hD9 := h.2.2.1.sub (ws' := []) [] (by decide) rfl
            exact W.iret (v := ((((0 : Int32) ||| ((1 : Int32) <<< (p1 &&& 31))) ||| ((1 : Int32) <<< (p2 &&& 31))) ||| (1024 : Int32)) ||| ((1 : Int32) <<< ((8 + p1) &&& 31))) hx hb hr (fun t ht hW => ⟨⟨((((0 : Int32) ||| ((1 : Int32) <<< (p1 &&& 31))) ||| ((1 : Int32) <<< (p2 &&& 31))) ||| (1024 : Int32)) ||| ((1 : Int32) <<< ((8 + p1) &&& 31)), (), rfl, trivial, (by rw [ht]; exact hP9), hD9⟩, h.2.2.2.1.F ht⟩) h.2.2.2.1.2.2 dX5_readsOf_66 hlocks
set_option maxHeartbeats 4000000 in
set_option maxRecDepth 100000 in
theorem c_X5_writesOf (l : Launch) (dC : Nat → ClassId) (dI : Nat → Nat → Nat) (sz : Nat) (p0 : Int32) (p1 : Int32) (hp : 0 ≤ p0.toInt ∧ p0.toInt < 11) : Met l yX5_writesOf wsX5_writesOf ({ frames := 0, cells := 0, slots := 0, locals := 0 } : Room) (va_Pc [.int p0, .int p1] (KPre (dC, dI) [] [] sz (fun U => KAll (va_A [] sz) U))) (va_Qi (fun (r : Int32) (u : Unit) => True) (KPost (dC, dI) (va_A [] sz) (fun (u : Unit) => [])) (va_A [] sz)) 0 0 (va_A [] sz) := by
  refine kMet (y := yX5_writesOf) (wsM := wsX5_writesOf) (cc := cX5_writesOf) (maxL := 3) (ret := (some .int)) (rm := ({ frames := 0, cells := 0, slots := 0, locals := 0 } : Room)) (mc := 0) (ms := 0) (av := [.int p0, .int p1]) (D := (dC, dI)) (wc := []) (tc := []) (sz := sz) (X := fun U => KAll (va_A [] sz) U) (Qc := fun A => va_Qi (fun (r : Int32) (u : Unit) => True) (KPost (dC, dI) A (fun (u : Unit) => [])) A) (by decide) rfl (Nat.le_of_ble_eq_true rfl) ?_
  intro p e s m below meth c A ls E hr hlocks hnm hsz hAe hX h hl
  have hx := E.1
  have hb := E.2.1
  have hl : lv_has ls 3 [(0, .int p0), (1, .int p1)] := hl
  have hX : KAll A s := by rw [← hAe]; exact hX
  obtain ⟨⟨tD, hZD, hTD⟩, ⟨tX, hZX, hTX⟩, ⟨tY, hZY, hTY⟩, ⟨tP, hZP, hTP⟩, ⟨tL, hZL, hTL⟩, ⟨tM, hZM, hTM⟩, hN0_134, hN0_60, hN0_96, hN1_83, hN1_87, hN3_49, hN3_52, hN4_44, hN4_69, hN5_33, hN6_102, hN6_67, hF37, hF40, hF50, hF53⟩ := id hX
  refine lv_iconst (v := 0) hx hb dX5_writesOf_0 (by decide) ?_
  refine lv_istore_n (lv' := [(2, .int 0), (0, .int p0), (1, .int p1)]) hx hb dX5_writesOf_1 rfl hl (by decide) rfl (fun ls hl => ?_)
  refine va_getsN (v := .ref tD) hx hb hZD h.2.2.2.1 E.2.2.2.1 (va_Nw.use rfl hF37) (fun _ h9 => h9) dX5_writesOf_2 ?_
  refine lv_iload_n hx hb dX5_writesOf_5 rfl (lv_at hl 1 rfl) ?_
  refine va_ti (v := .int (kTabD p0.toNatClampNeg)) hx hb hTD h.2.2.2.1 (vp_in_iff.mpr (by omega)) rfl dX5_writesOf_6 ?_
  refine lv_iconst (v := 1) hx hb dX5_writesOf_7 (by decide) ?_
  refine lv_icmp_ne (tgt := 17) hx hb dX5_writesOf_8 (by decide) (fun c_1 => ?_) (fun c_1 => ?_)
  · skip
    have i_1 : ¬ (kTabD p0.toNatClampNeg).toInt = 1 := fun h9 => c_1 ((fa_eq _ _).mpr h9)
    refine va_getsN (v := .ref tP) hx hb hZP h.2.2.2.1 E.2.2.2.1 (va_Nw.use rfl hF53) (fun _ h9 => h9) dX5_writesOf_17 ?_
    refine lv_iload_n hx hb dX5_writesOf_20 rfl (lv_at hl 1 rfl) ?_
    refine va_ti (v := .int (kTabP p0.toNatClampNeg)) hx hb hTP h.2.2.2.1 (vp_in_iff.mpr (by omega)) rfl dX5_writesOf_21 ?_
    refine lv_iconst (v := 1) hx hb dX5_writesOf_22 (by decide) ?_
    refine lv_icmp_ne (tgt := 32) hx hb dX5_writesOf_23 (by decide) (fun c_2 => ?_) (fun c_2 => ?_)
    · skip
      have i_2 : ¬ (kTabP p0.toNatClampNeg).toInt = 1 := fun h9 => c_2 ((fa_eq _ _).mpr h9)
      refine lv_iload_n hx hb dX5_writesOf_32 rfl (lv_at hl 1 rfl) ?_
      refine lv_bipush (v := 8) hx hb dX5_writesOf_33 (by decide) ?_
      refine lv_icmp_ne (tgt := 44) hx hb dX5_writesOf_35 (by decide) (fun c_3 => ?_) (fun c_3 => ?_)
      · skip
        have i_3 : ¬ p0.toInt = 8 := fun h9 => c_3 ((fa_eq _ _).mpr h9)
        refine lv_iload_n hx hb dX5_writesOf_44 rfl (lv_at hl 0 rfl) ?_
        have hP9 := h.2.1.sub [] rfl
        have hD9 := h.2.2.1.sub (ws' := []) [] (by decide) rfl
        exact W.iret (v := 0) hx hb hr (fun t ht hW => ⟨⟨0, (), rfl, trivial, (by rw [ht]; exact hP9), hD9⟩, h.2.2.2.1.F ht⟩) h.2.2.2.1.2.2 dX5_writesOf_45 hlocks
      · skip
        have i_3 : p0.toInt = 8 := (fa_eq _ _).mp c_3
        refine lv_iload_n hx hb dX5_writesOf_38 rfl (lv_at hl 0 rfl) ?_
        refine lv_sipush (v := 1024) hx hb dX5_writesOf_39 (by decide) ?_
        refine lv_ior hx hb dX5_writesOf_42 ?_
        refine k_topi (y := 1024) (by decide) ?_
        refine lv_istore_n (lv' := [(2, .int 1024), (0, .int p0), (1, .int p1)]) hx hb dX5_writesOf_43 rfl hl (by decide) rfl (fun ls hl => ?_)
        refine lv_iload_n hx hb dX5_writesOf_44 rfl (lv_at hl 0 rfl) ?_
        have hP9 := h.2.1.sub [] rfl
        have hD9 := h.2.2.1.sub (ws' := []) [] (by decide) rfl
        exact W.iret (v := 1024) hx hb hr (fun t ht hW => ⟨⟨1024, (), rfl, trivial, (by rw [ht]; exact hP9), hD9⟩, h.2.2.2.1.F ht⟩) h.2.2.2.1.2.2 dX5_writesOf_45 hlocks
    · skip
      have i_2 : (kTabP p0.toNatClampNeg).toInt = 1 := (fa_eq _ _).mp c_2
      refine lv_iload_n hx hb dX5_writesOf_26 rfl (lv_at hl 0 rfl) ?_
      refine lv_sipush (v := 768) hx hb dX5_writesOf_27 (by decide) ?_
      refine lv_ior hx hb dX5_writesOf_30 ?_
      refine k_topi (y := 768) (by decide) ?_
      refine lv_istore_n (lv' := [(2, .int 768), (0, .int p0), (1, .int p1)]) hx hb dX5_writesOf_31 rfl hl (by decide) rfl (fun ls hl => ?_)
      refine lv_iload_n hx hb dX5_writesOf_32 rfl (lv_at hl 1 rfl) ?_
      refine lv_bipush (v := 8) hx hb dX5_writesOf_33 (by decide) ?_
      refine lv_icmp_ne (tgt := 44) hx hb dX5_writesOf_35 (by decide) (fun c_4 => ?_) (fun c_4 => ?_)
      · skip
        have i_4 : ¬ p0.toInt = 8 := fun h9 => c_4 ((fa_eq _ _).mpr h9)
        refine lv_iload_n hx hb dX5_writesOf_44 rfl (lv_at hl 0 rfl) ?_
        have hP9 := h.2.1.sub [] rfl
        have hD9 := h.2.2.1.sub (ws' := []) [] (by decide) rfl
        exact W.iret (v := 768) hx hb hr (fun t ht hW => ⟨⟨768, (), rfl, trivial, (by rw [ht]; exact hP9), hD9⟩, h.2.2.2.1.F ht⟩) h.2.2.2.1.2.2 dX5_writesOf_45 hlocks
      · skip
        have i_4 : p0.toInt = 8 := (fa_eq _ _).mp c_4
        refine lv_iload_n hx hb dX5_writesOf_38 rfl (lv_at hl 0 rfl) ?_
        refine lv_sipush (v := 1024) hx hb dX5_writesOf_39 (by decide) ?_
        refine lv_ior hx hb dX5_writesOf_42 ?_
        refine k_topi (y := 1792) (by decide) ?_
        refine lv_istore_n (lv' := [(2, .int 1792), (0, .int p0), (1, .int p1)]) hx hb dX5_writesOf_43 rfl hl (by decide) rfl (fun ls hl => ?_)
        refine lv_iload_n hx hb dX5_writesOf_44 rfl (lv_at hl 0 rfl) ?_
        have hP9 := h.2.1.sub [] rfl
        have hD9 := h.2.2.1.sub (ws' := []) [] (by decide) rfl
        exact W.iret (v := 1792) hx hb hr (fun t ht hW => ⟨⟨1792, (), rfl, trivial, (by rw [ht]; exact hP9), hD9⟩, h.2.2.2.1.F ht⟩) h.2.2.2.1.2.2 dX5_writesOf_45 hlocks
  · skip
    have i_1 : (kTabD p0.toNatClampNeg).toInt = 1 := (fa_eq _ _).mp c_1
    refine lv_iload_n hx hb dX5_writesOf_11 rfl (lv_at hl 0 rfl) ?_
    refine lv_iconst (v := 1) hx hb dX5_writesOf_12 (by decide) ?_
    refine lv_iload_n hx hb dX5_writesOf_13 rfl (lv_at hl 2 rfl) ?_
    refine lv_ishl hx hb dX5_writesOf_14 ?_
    refine lv_ior hx hb dX5_writesOf_15 ?_
    refine lv_istore_n (lv' := [(2, .int ((0 : Int32) ||| ((1 : Int32) <<< (p1 &&& 31)))), (0, .int p0), (1, .int p1)]) hx hb dX5_writesOf_16 rfl hl (by decide) rfl (fun ls hl => ?_)
    refine va_getsN (v := .ref tP) hx hb hZP h.2.2.2.1 E.2.2.2.1 (va_Nw.use rfl hF53) (fun _ h9 => h9) dX5_writesOf_17 ?_
    refine lv_iload_n hx hb dX5_writesOf_20 rfl (lv_at hl 1 rfl) ?_
    refine va_ti (v := .int (kTabP p0.toNatClampNeg)) hx hb hTP h.2.2.2.1 (vp_in_iff.mpr (by omega)) rfl dX5_writesOf_21 ?_
    refine lv_iconst (v := 1) hx hb dX5_writesOf_22 (by decide) ?_
    refine lv_icmp_ne (tgt := 32) hx hb dX5_writesOf_23 (by decide) (fun c_5 => ?_) (fun c_5 => ?_)
    · skip
      have i_5 : ¬ (kTabP p0.toNatClampNeg).toInt = 1 := fun h9 => c_5 ((fa_eq _ _).mpr h9)
      refine lv_iload_n hx hb dX5_writesOf_32 rfl (lv_at hl 1 rfl) ?_
      refine lv_bipush (v := 8) hx hb dX5_writesOf_33 (by decide) ?_
      refine lv_icmp_ne (tgt := 44) hx hb dX5_writesOf_35 (by decide) (fun c_6 => ?_) (fun c_6 => ?_)
      · skip
        have i_6 : ¬ p0.toInt = 8 := fun h9 => c_6 ((fa_eq _ _).mpr h9)
        refine lv_iload_n hx hb dX5_writesOf_44 rfl (lv_at hl 0 rfl) ?_
        have hP9 := h.2.1.sub [] rfl
        have hD9 := h.2.2.1.sub (ws' := []) [] (by decide) rfl
        exact W.iret (v := (0 : Int32) ||| ((1 : Int32) <<< (p1 &&& 31))) hx hb hr (fun t ht hW => ⟨⟨(0 : Int32) ||| ((1 : Int32) <<< (p1 &&& 31)), (), rfl, trivial, (by rw [ht]; exact hP9), hD9⟩, h.2.2.2.1.F ht⟩) h.2.2.2.1.2.2 dX5_writesOf_45 hlocks
      · skip
        have i_6 : p0.toInt = 8 := (fa_eq _ _).mp c_6
        refine lv_iload_n hx hb dX5_writesOf_38 rfl (lv_at hl 0 rfl) ?_
        refine lv_sipush (v := 1024) hx hb dX5_writesOf_39 (by decide) ?_
        refine lv_ior hx hb dX5_writesOf_42 ?_
        refine lv_istore_n (lv' := [(2, .int (((0 : Int32) ||| ((1 : Int32) <<< (p1 &&& 31))) ||| (1024 : Int32))), (0, .int p0), (1, .int p1)]) hx hb dX5_writesOf_43 rfl hl (by decide) rfl (fun ls hl => ?_)
        refine lv_iload_n hx hb dX5_writesOf_44 rfl (lv_at hl 0 rfl) ?_
        have hP9 := h.2.1.sub [] rfl
        have hD9 := h.2.2.1.sub (ws' := []) [] (by decide) rfl
        exact W.iret (v := ((0 : Int32) ||| ((1 : Int32) <<< (p1 &&& 31))) ||| (1024 : Int32)) hx hb hr (fun t ht hW => ⟨⟨((0 : Int32) ||| ((1 : Int32) <<< (p1 &&& 31))) ||| (1024 : Int32), (), rfl, trivial, (by rw [ht]; exact hP9), hD9⟩, h.2.2.2.1.F ht⟩) h.2.2.2.1.2.2 dX5_writesOf_45 hlocks
    · skip
      have i_5 : (kTabP p0.toNatClampNeg).toInt = 1 := (fa_eq _ _).mp c_5
      refine lv_iload_n hx hb dX5_writesOf_26 rfl (lv_at hl 0 rfl) ?_
      refine lv_sipush (v := 768) hx hb dX5_writesOf_27 (by decide) ?_
      refine lv_ior hx hb dX5_writesOf_30 ?_
      refine lv_istore_n (lv' := [(2, .int (((0 : Int32) ||| ((1 : Int32) <<< (p1 &&& 31))) ||| (768 : Int32))), (0, .int p0), (1, .int p1)]) hx hb dX5_writesOf_31 rfl hl (by decide) rfl (fun ls hl => ?_)
      refine lv_iload_n hx hb dX5_writesOf_32 rfl (lv_at hl 1 rfl) ?_
      refine lv_bipush (v := 8) hx hb dX5_writesOf_33 (by decide) ?_
      refine lv_icmp_ne (tgt := 44) hx hb dX5_writesOf_35 (by decide) (fun c_7 => ?_) (fun c_7 => ?_)
      · skip
        have i_7 : ¬ p0.toInt = 8 := fun h9 => c_7 ((fa_eq _ _).mpr h9)
        refine lv_iload_n hx hb dX5_writesOf_44 rfl (lv_at hl 0 rfl) ?_
        have hP9 := h.2.1.sub [] rfl
        have hD9 := h.2.2.1.sub (ws' := []) [] (by decide) rfl
        exact W.iret (v := ((0 : Int32) ||| ((1 : Int32) <<< (p1 &&& 31))) ||| (768 : Int32)) hx hb hr (fun t ht hW => ⟨⟨((0 : Int32) ||| ((1 : Int32) <<< (p1 &&& 31))) ||| (768 : Int32), (), rfl, trivial, (by rw [ht]; exact hP9), hD9⟩, h.2.2.2.1.F ht⟩) h.2.2.2.1.2.2 dX5_writesOf_45 hlocks
      · skip
        have i_7 : p0.toInt = 8 := (fa_eq _ _).mp c_7
        refine lv_iload_n hx hb dX5_writesOf_38 rfl (lv_at hl 0 rfl) ?_
        refine lv_sipush (v := 1024) hx hb dX5_writesOf_39 (by decide) ?_
        refine lv_ior hx hb dX5_writesOf_42 ?_
        refine lv_istore_n (lv' := [(2, .int ((((0 : Int32) ||| ((1 : Int32) <<< (p1 &&& 31))) ||| (768 : Int32)) ||| (1024 : Int32))), (0, .int p0), (1, .int p1)]) hx hb dX5_writesOf_43 rfl hl (by decide) rfl (fun ls hl => ?_)
        refine lv_iload_n hx hb dX5_writesOf_44 rfl (lv_at hl 0 rfl) ?_
        have hP9 := h.2.1.sub [] rfl
        have hD9 := h.2.2.1.sub (ws' := []) [] (by decide) rfl
        exact W.iret (v := (((0 : Int32) ||| ((1 : Int32) <<< (p1 &&& 31))) ||| (768 : Int32)) ||| (1024 : Int32)) hx hb hr (fun t ht hW => ⟨⟨(((0 : Int32) ||| ((1 : Int32) <<< (p1 &&& 31))) ||| (768 : Int32)) ||| (1024 : Int32), (), rfl, trivial, (by rw [ht]; exact hP9), hD9⟩, h.2.2.2.1.F ht⟩) h.2.2.2.1.2.2 dX5_writesOf_45 hlocks
set_option maxHeartbeats 4000000 in
set_option maxRecDepth 100000 in
theorem c_X5_add (l : Launch) (dC : Nat → ClassId) (dI : Nat → Nat → Nat) (sz : Nat) (o5 : Nat) (a5_0 : Nat) (a5_1 : Nat) (a5_2 : Nat) (a5_3 : Nat) (a5_4 : Nat) (a5_5 : Nat) (a5_6 : Nat) (c5_0 : ClassId) (f5_0 : Nat → Int32) (c5_1 : ClassId) (f5_1 : Nat → Int32) (c5_2 : ClassId) (f5_2 : Nat → Int32) (c5_3 : ClassId) (f5_3 : Nat → Int32) (c5_4 : ClassId) (f5_4 : Nat → Int32) (c5_5 : ClassId) (f5_5 : Nat → Int32) (c5_6 : ClassId) (f5_6 : Nat → Int32) (p0 : Int32) (p1 : Int32) (p2 : Int32) (p3 : Int32) (p4 : Int32) (hR : IR f5_1 f5_2 f5_3 f5_4) (hok : kActOK p1 p2 p3 p4 = true) (hp : 0 ≤ p0.toInt ∧ p0.toInt < 12) (hk : 0 ≤ p1.toInt ∧ p1.toInt < 11) (hv : 0 ≤ (f5_0 p0.toNatClampNeg).toInt ∧ (f5_0 p0.toNatClampNeg).toInt < 10) : Met l yX5_add wsX5_add ({ frames := 1, cells := 0, slots := 0, locals := 23 } : Room) (va_Pc [.ref o5, .int p0, .int p1, .int p2, .int p3, .int p4] (KPre (dC, dI) [(o5, .inr (5, [.ref a5_0, .ref a5_1, .ref a5_2, .ref a5_3, .ref a5_4, .ref a5_5, .ref a5_6])), (a5_0, .inl (c5_0, 12, .inl f5_0)), (a5_1, .inl (c5_1, 120, .inl f5_1)), (a5_2, .inl (c5_2, 120, .inl f5_2)), (a5_3, .inl (c5_3, 120, .inl f5_3)), (a5_4, .inl (c5_4, 120, .inl f5_4)), (a5_5, .inl (c5_5, 120, .inl f5_5)), (a5_6, .inl (c5_6, 120, .inl f5_6))] [(c5_0, .int), (c5_1, .int), (c5_2, .int), (c5_3, .int), (c5_4, .int), (c5_5, .int), (c5_6, .int)] sz (fun U => KAll (va_A [(o5, .inr (5, [.ref a5_0, .ref a5_1, .ref a5_2, .ref a5_3, .ref a5_4, .ref a5_5, .ref a5_6])), (a5_0, .inl (c5_0, 12, .inl f5_0)), (a5_1, .inl (c5_1, 120, .inl f5_1)), (a5_2, .inl (c5_2, 120, .inl f5_2)), (a5_3, .inl (c5_3, 120, .inl f5_3)), (a5_4, .inl (c5_4, 120, .inl f5_4)), (a5_5, .inl (c5_5, 120, .inl f5_5)), (a5_6, .inl (c5_6, 120, .inl f5_6))] sz) U))) (va_Qv (fun (u : (Nat → Int32) × (Nat → Int32) × (Nat → Int32) × (Nat → Int32) × (Nat → Int32) × (Nat → Int32)) => IR u.1 u.2.1 u.2.2.1 u.2.2.2.1) (KPost (dC, dI) (va_A [(o5, .inr (5, [.ref a5_0, .ref a5_1, .ref a5_2, .ref a5_3, .ref a5_4, .ref a5_5, .ref a5_6])), (a5_0, .inl (c5_0, 12, .inl f5_0)), (a5_1, .inl (c5_1, 120, .inl f5_1)), (a5_2, .inl (c5_2, 120, .inl f5_2)), (a5_3, .inl (c5_3, 120, .inl f5_3)), (a5_4, .inl (c5_4, 120, .inl f5_4)), (a5_5, .inl (c5_5, 120, .inl f5_5)), (a5_6, .inl (c5_6, 120, .inl f5_6))] sz) (fun (u : (Nat → Int32) × (Nat → Int32) × (Nat → Int32) × (Nat → Int32) × (Nat → Int32) × (Nat → Int32)) => [(o5, .inr (5, [.ref a5_0, .ref a5_1, .ref a5_2, .ref a5_3, .ref a5_4, .ref a5_5, .ref a5_6])), (a5_0, .inl (c5_0, 12, .inl (upd f5_0 p0.toNatClampNeg (f5_0 p0.toNatClampNeg + 1)))), (a5_1, .inl (c5_1, 120, .inl u.1)), (a5_2, .inl (c5_2, 120, .inl u.2.1)), (a5_3, .inl (c5_3, 120, .inl u.2.2.1)), (a5_4, .inl (c5_4, 120, .inl u.2.2.2.1)), (a5_5, .inl (c5_5, 120, .inl u.2.2.2.2.1)), (a5_6, .inl (c5_6, 120, .inl u.2.2.2.2.2))])) (va_A [(o5, .inr (5, [.ref a5_0, .ref a5_1, .ref a5_2, .ref a5_3, .ref a5_4, .ref a5_5, .ref a5_6])), (a5_0, .inl (c5_0, 12, .inl f5_0)), (a5_1, .inl (c5_1, 120, .inl f5_1)), (a5_2, .inl (c5_2, 120, .inl f5_2)), (a5_3, .inl (c5_3, 120, .inl f5_3)), (a5_4, .inl (c5_4, 120, .inl f5_4)), (a5_5, .inl (c5_5, 120, .inl f5_5)), (a5_6, .inl (c5_6, 120, .inl f5_6))] sz)) 0 0 (va_A [(o5, .inr (5, [.ref a5_0, .ref a5_1, .ref a5_2, .ref a5_3, .ref a5_4, .ref a5_5, .ref a5_6])), (a5_0, .inl (c5_0, 12, .inl f5_0)), (a5_1, .inl (c5_1, 120, .inl f5_1)), (a5_2, .inl (c5_2, 120, .inl f5_2)), (a5_3, .inl (c5_3, 120, .inl f5_3)), (a5_4, .inl (c5_4, 120, .inl f5_4)), (a5_5, .inl (c5_5, 120, .inl f5_5)), (a5_6, .inl (c5_6, 120, .inl f5_6))] sz) := by
  refine kMet (y := yX5_add) (wsM := wsX5_add) (cc := cX5_add) (maxL := 7) (ret := none) (rm := ({ frames := 1, cells := 0, slots := 0, locals := 23 } : Room)) (mc := 0) (ms := 0) (av := [.ref o5, .int p0, .int p1, .int p2, .int p3, .int p4]) (D := (dC, dI)) (wc := [(o5, .inr (5, [.ref a5_0, .ref a5_1, .ref a5_2, .ref a5_3, .ref a5_4, .ref a5_5, .ref a5_6])), (a5_0, .inl (c5_0, 12, .inl f5_0)), (a5_1, .inl (c5_1, 120, .inl f5_1)), (a5_2, .inl (c5_2, 120, .inl f5_2)), (a5_3, .inl (c5_3, 120, .inl f5_3)), (a5_4, .inl (c5_4, 120, .inl f5_4)), (a5_5, .inl (c5_5, 120, .inl f5_5)), (a5_6, .inl (c5_6, 120, .inl f5_6))]) (tc := [(c5_0, .int), (c5_1, .int), (c5_2, .int), (c5_3, .int), (c5_4, .int), (c5_5, .int), (c5_6, .int)]) (sz := sz) (X := fun U => KAll (va_A [(o5, .inr (5, [.ref a5_0, .ref a5_1, .ref a5_2, .ref a5_3, .ref a5_4, .ref a5_5, .ref a5_6])), (a5_0, .inl (c5_0, 12, .inl f5_0)), (a5_1, .inl (c5_1, 120, .inl f5_1)), (a5_2, .inl (c5_2, 120, .inl f5_2)), (a5_3, .inl (c5_3, 120, .inl f5_3)), (a5_4, .inl (c5_4, 120, .inl f5_4)), (a5_5, .inl (c5_5, 120, .inl f5_5)), (a5_6, .inl (c5_6, 120, .inl f5_6))] sz) U) (Qc := fun A => va_Qv (fun (u : (Nat → Int32) × (Nat → Int32) × (Nat → Int32) × (Nat → Int32) × (Nat → Int32) × (Nat → Int32)) => IR u.1 u.2.1 u.2.2.1 u.2.2.2.1) (KPost (dC, dI) A (fun (u : (Nat → Int32) × (Nat → Int32) × (Nat → Int32) × (Nat → Int32) × (Nat → Int32) × (Nat → Int32)) => [(o5, .inr (5, [.ref a5_0, .ref a5_1, .ref a5_2, .ref a5_3, .ref a5_4, .ref a5_5, .ref a5_6])), (a5_0, .inl (c5_0, 12, .inl (upd f5_0 p0.toNatClampNeg (f5_0 p0.toNatClampNeg + 1)))), (a5_1, .inl (c5_1, 120, .inl u.1)), (a5_2, .inl (c5_2, 120, .inl u.2.1)), (a5_3, .inl (c5_3, 120, .inl u.2.2.1)), (a5_4, .inl (c5_4, 120, .inl u.2.2.2.1)), (a5_5, .inl (c5_5, 120, .inl u.2.2.2.2.1)), (a5_6, .inl (c5_6, 120, .inl u.2.2.2.2.2))])) A) (by decide) rfl (Nat.le_of_ble_eq_true rfl) ?_
  intro p e s m below meth c A ls E hr hlocks hnm hsz hAe hX h hl
  have hx := E.1
  have hb := E.2.1
  have hl : lv_has ls 7 [(0, .ref o5), (1, .int p0), (2, .int p1), (3, .int p2), (4, .int p3), (5, .int p4)] := hl
  have hX : KAll A s := by rw [← hAe]; exact hX
  obtain ⟨⟨tD, hZD, hTD⟩, ⟨tX, hZX, hTX⟩, ⟨tY, hZY, hTY⟩, ⟨tP, hZP, hTP⟩, ⟨tL, hZL, hTL⟩, ⟨tM, hZM, hTM⟩, hN0_134, hN0_60, hN0_96, hN1_83, hN1_87, hN3_49, hN3_52, hN4_44, hN4_69, hN5_33, hN6_102, hN6_67, hF37, hF40, hF50, hF53⟩ := id hX
  refine lv_iload_n hx hb dX5_add_0 rfl (lv_at hl 1 rfl) ?_
  refine lv_aload_n hx hb dX5_add_1 rfl (lv_at hl 0 rfl) ?_
  refine k_get (v := .ref a5_0) E h (fun w h => List.mem_cons_of_mem _ (List.mem_append_right _ h)) 0 rfl rfl 0 (by decide) (List.mem_of_getElem? (i := 1) rfl) rfl dX5_add_2 ?_
  refine lv_iload_n hx hb dX5_add_5 rfl (lv_at hl 1 rfl) ?_
  refine k_iald (v := f5_0 p0.toNatClampNeg) E h 1 0 rfl rfl (vp_in_iff.mpr (by omega)) rfl dX5_add_6 ?_
  refine kc_i (wc := []) (wr := [(o5, .inr (5, [.ref a5_0, .ref a5_1, .ref a5_2, .ref a5_3, .ref a5_4, .ref a5_5, .ref a5_6])), (a5_0, .inl (c5_0, 12, .inl f5_0)), (a5_1, .inl (c5_1, 120, .inl f5_1)), (a5_2, .inl (c5_2, 120, .inl f5_2)), (a5_3, .inl (c5_3, 120, .inl f5_3)), (a5_4, .inl (c5_4, 120, .inl f5_4)), (a5_5, .inl (c5_5, 120, .inl f5_5)), (a5_6, .inl (c5_6, 120, .inl f5_6))]) h (va_runSN (As := [.int p0, .int (f5_0 p0.toNatClampNeg)]) (rest := []) E (c_X7_slot l dC dI _ (p0 := p0) (p1 := f5_0 p0.toNatClampNeg)  ) ⟨va_cnB 2 E.2.2.2.2 gX5_add_X7_slot_n33 rfl rfl rfl hN5_33 (E.2.2.2.2 _ (List.mem_of_getElem? (i := 9) rfl)) (by decide +kernel) ⟨Nat.le_of_ble_eq_true rfl, Nat.le_of_ble_eq_true rfl⟩, E.2.2.2.2 _ (List.mem_of_getElem? (i := 8) rfl), trivial⟩ (kPreS h KX_true (fun _ _ _ => trivial) [] [] (by decide) rfl rfl) rfl rfl hl.1 rfl (lv_room (Nat.le_of_ble_eq_true rfl)) dX5_add_7 ⟨Nat.le_of_ble_eq_true rfl, Nat.le_of_ble_eq_true rfl⟩) [] [0, 1, 2, 3, 4, 5, 6, 7] rfl rfl (by decide) (by decide) (fun r_1 u_1 H locs hw_1 h => ?_)
  have h : KS (dC, dI) A [(o5, .inr (5, [.ref a5_0, .ref a5_1, .ref a5_2, .ref a5_3, .ref a5_4, .ref a5_5, .ref a5_6])), (a5_0, .inl (c5_0, 12, .inl f5_0)), (a5_1, .inl (c5_1, 120, .inl f5_1)), (a5_2, .inl (c5_2, 120, .inl f5_2)), (a5_3, .inl (c5_3, 120, .inl f5_3)), (a5_4, .inl (c5_4, 120, .inl f5_4)), (a5_5, .inl (c5_5, 120, .inl f5_5)), (a5_6, .inl (c5_6, 120, .inl f5_6))] [(c5_0, .int), (c5_1, .int), (c5_2, .int), (c5_3, .int), (c5_4, .int), (c5_5, .int), (c5_6, .int)] s H locs := h
  have hw_1 : r_1 = p0 * 10 + (f5_0 p0.toNatClampNeg) := by first | exact hw_1 | (simp only [Int32.toInt_toInt64] at hw_1; exact hw_1)
  refine k_topi (y := p0 * 10 + (f5_0 p0.toNatClampNeg)) (hw_1) ?_
  have e8 : (p0 * 10 + (f5_0 p0.toNatClampNeg)).toInt = p0.toInt * 10 + (f5_0 p0.toNatClampNeg).toInt := kslot2 hp (by omega) (by omega)
  refine W.eq (g2 := F0 m 10 ls [.int (p0 * 10 + (f5_0 p0.toNatClampNeg))]) rfl ?_
  refine lv_istore (lv' := [(6, .int (p0 * 10 + (f5_0 p0.toNatClampNeg))), (0, .ref o5), (1, .int p0), (2, .int p1), (3, .int p2), (4, .int p3), (5, .int p4)]) hx hb dX5_add_10 hl (by decide) rfl (fun ls hl => ?_)
  refine lv_aload_n hx hb dX5_add_12 rfl (lv_at hl 1 rfl) ?_
  refine k_get (v := .ref a5_1) E h (fun w h => List.mem_cons_of_mem _ (List.mem_append_right _ h)) 0 rfl rfl 1 (by decide) (List.mem_of_getElem? (i := 2) rfl) rfl dX5_add_13 ?_
  refine lv_iload hx hb dX5_add_16 (lv_at hl 0 rfl) ?_
  refine lv_iload_n hx hb dX5_add_18 rfl (lv_at hl 3 rfl) ?_
  refine k_iast (j := (p0 * 10 + (f5_0 p0.toNatClampNeg)).toNatClampNeg) (ws' := [(o5, .inr (5, [.ref a5_0, .ref a5_1, .ref a5_2, .ref a5_3, .ref a5_4, .ref a5_5, .ref a5_6])), (a5_0, .inl (c5_0, 12, .inl f5_0)), (a5_1, .inl (c5_1, 120, .inl (upd f5_1 ((p0 * 10 + (f5_0 p0.toNatClampNeg)).toNatClampNeg) p1))), (a5_2, .inl (c5_2, 120, .inl f5_2)), (a5_3, .inl (c5_3, 120, .inl f5_3)), (a5_4, .inl (c5_4, 120, .inl f5_4)), (a5_5, .inl (c5_5, 120, .inl f5_5)), (a5_6, .inl (c5_6, 120, .inl f5_6))]) E h 2 1 rfl rfl (vp_in_iff.mpr (by omega)) rfl rfl dX5_add_19 (fun H locs h => ?_)
  refine lv_aload_n hx hb dX5_add_20 rfl (lv_at hl 1 rfl) ?_
  refine k_get (v := .ref a5_2) E h (fun w h => List.mem_cons_of_mem _ (List.mem_append_right _ h)) 0 rfl rfl 2 (by decide) (List.mem_of_getElem? (i := 3) rfl) rfl dX5_add_21 ?_
  refine lv_iload hx hb dX5_add_24 (lv_at hl 0 rfl) ?_
  refine va_getsN (v := .ref tD) hx hb hZD h.2.2.2.1 E.2.2.2.1 (va_Nw.use rfl hF37) (fun _ h9 => h9) dX5_add_26 ?_
  refine lv_iload_n hx hb dX5_add_29 rfl (lv_at hl 3 rfl) ?_
  refine W.eq (g2 := F0 m 30 ls [.int p1, .ref tD, .int (p0 * 10 + (f5_0 p0.toNatClampNeg)), .ref a5_2]) rfl ?_
  refine va_ti (v := .int (kTabD p1.toNatClampNeg)) hx hb hTD h.2.2.2.1 (vp_in_iff.mpr (by omega)) rfl dX5_add_30 ?_
  refine lv_if_ne (tgt := 38) hx hb dX5_add_31 (by decide) (fun c_2 => ?_) (fun c_2 => ?_)
  · skip
    have i_2 : ¬ (kTabD p1.toNatClampNeg).toInt = 0 := fun h9 => c_2 ((fa_eq _ _).mpr h9)
    refine lv_iload_n hx hb dX5_add_38 rfl (lv_at hl 4 rfl) ?_
    refine k_iast (j := (p0 * 10 + (f5_0 p0.toNatClampNeg)).toNatClampNeg) (ws' := [(o5, .inr (5, [.ref a5_0, .ref a5_1, .ref a5_2, .ref a5_3, .ref a5_4, .ref a5_5, .ref a5_6])), (a5_0, .inl (c5_0, 12, .inl f5_0)), (a5_1, .inl (c5_1, 120, .inl (upd f5_1 ((p0 * 10 + (f5_0 p0.toNatClampNeg)).toNatClampNeg) p1))), (a5_2, .inl (c5_2, 120, .inl (upd f5_2 ((p0 * 10 + (f5_0 p0.toNatClampNeg)).toNatClampNeg) p2))), (a5_3, .inl (c5_3, 120, .inl f5_3)), (a5_4, .inl (c5_4, 120, .inl f5_4)), (a5_5, .inl (c5_5, 120, .inl f5_5)), (a5_6, .inl (c5_6, 120, .inl f5_6))]) E h 3 2 rfl rfl (vp_in_iff.mpr (by omega)) rfl rfl dX5_add_39 (fun H locs h => ?_)
    refine lv_aload_n hx hb dX5_add_40 rfl (lv_at hl 1 rfl) ?_
    refine k_get (v := .ref a5_3) E h (fun w h => List.mem_cons_of_mem _ (List.mem_append_right _ h)) 0 rfl rfl 3 (by decide) (List.mem_of_getElem? (i := 4) rfl) rfl dX5_add_41 ?_
    refine lv_iload hx hb dX5_add_44 (lv_at hl 0 rfl) ?_
    refine lv_iload hx hb dX5_add_46 (lv_at hl 5 rfl) ?_
    refine k_iast (j := (p0 * 10 + (f5_0 p0.toNatClampNeg)).toNatClampNeg) (ws' := [(o5, .inr (5, [.ref a5_0, .ref a5_1, .ref a5_2, .ref a5_3, .ref a5_4, .ref a5_5, .ref a5_6])), (a5_0, .inl (c5_0, 12, .inl f5_0)), (a5_1, .inl (c5_1, 120, .inl (upd f5_1 ((p0 * 10 + (f5_0 p0.toNatClampNeg)).toNatClampNeg) p1))), (a5_2, .inl (c5_2, 120, .inl (upd f5_2 ((p0 * 10 + (f5_0 p0.toNatClampNeg)).toNatClampNeg) p2))), (a5_3, .inl (c5_3, 120, .inl (upd f5_3 ((p0 * 10 + (f5_0 p0.toNatClampNeg)).toNatClampNeg) p3))), (a5_4, .inl (c5_4, 120, .inl f5_4)), (a5_5, .inl (c5_5, 120, .inl f5_5)), (a5_6, .inl (c5_6, 120, .inl f5_6))]) E h 4 3 rfl rfl (vp_in_iff.mpr (by omega)) rfl rfl dX5_add_48 (fun H locs h => ?_)
    refine lv_aload_n hx hb dX5_add_49 rfl (lv_at hl 1 rfl) ?_
    refine k_get (v := .ref a5_4) E h (fun w h => List.mem_cons_of_mem _ (List.mem_append_right _ h)) 0 rfl rfl 4 (by decide) (List.mem_of_getElem? (i := 5) rfl) rfl dX5_add_50 ?_
    refine lv_iload hx hb dX5_add_53 (lv_at hl 0 rfl) ?_
    refine va_getsN (v := .ref tY) hx hb hZY h.2.2.2.1 E.2.2.2.1 (va_Nw.use rfl hF40) (fun _ h9 => h9) dX5_add_55 ?_
    refine W.eq (g2 := F0 m 58 ls [.ref tY, .int (p0 * 10 + (f5_0 p0.toNatClampNeg)), .ref a5_4]) rfl ?_
    refine lv_iload_n hx hb dX5_add_58 rfl (lv_at hl 3 rfl) ?_
    refine va_ti (v := .int (kTabY p1.toNatClampNeg)) hx hb hTY h.2.2.2.1 (vp_in_iff.mpr (by omega)) rfl dX5_add_59 ?_
    refine lv_if_ne (tgt := 67) hx hb dX5_add_60 (by decide) (fun c_3 => ?_) (fun c_3 => ?_)
    · skip
      have i_3 : ¬ (kTabY p1.toNatClampNeg).toInt = 0 := fun h9 => c_3 ((fa_eq _ _).mpr h9)
      refine lv_iload hx hb dX5_add_67 (lv_at hl 6 rfl) ?_
      refine k_iast (j := (p0 * 10 + (f5_0 p0.toNatClampNeg)).toNatClampNeg) (ws' := [(o5, .inr (5, [.ref a5_0, .ref a5_1, .ref a5_2, .ref a5_3, .ref a5_4, .ref a5_5, .ref a5_6])), (a5_0, .inl (c5_0, 12, .inl f5_0)), (a5_1, .inl (c5_1, 120, .inl (upd f5_1 ((p0 * 10 + (f5_0 p0.toNatClampNeg)).toNatClampNeg) p1))), (a5_2, .inl (c5_2, 120, .inl (upd f5_2 ((p0 * 10 + (f5_0 p0.toNatClampNeg)).toNatClampNeg) p2))), (a5_3, .inl (c5_3, 120, .inl (upd f5_3 ((p0 * 10 + (f5_0 p0.toNatClampNeg)).toNatClampNeg) p3))), (a5_4, .inl (c5_4, 120, .inl (upd f5_4 ((p0 * 10 + (f5_0 p0.toNatClampNeg)).toNatClampNeg) p4))), (a5_5, .inl (c5_5, 120, .inl f5_5)), (a5_6, .inl (c5_6, 120, .inl f5_6))]) E h 5 4 rfl rfl (vp_in_iff.mpr (by omega)) rfl rfl dX5_add_69 (fun H locs h => ?_)
      refine lv_aload_n hx hb dX5_add_70 rfl (lv_at hl 1 rfl) ?_
      refine k_get (v := .ref a5_5) E h (fun w h => List.mem_cons_of_mem _ (List.mem_append_right _ h)) 0 rfl rfl 5 (by decide) (List.mem_of_getElem? (i := 6) rfl) rfl dX5_add_71 ?_
      refine lv_iload hx hb dX5_add_74 (lv_at hl 0 rfl) ?_
      refine lv_iload_n hx hb dX5_add_76 rfl (lv_at hl 3 rfl) ?_
      refine lv_iload hx hb dX5_add_77 (lv_at hl 5 rfl) ?_
      refine lv_iload hx hb dX5_add_79 (lv_at hl 6 rfl) ?_
      refine kc_i (wc := []) (wr := [(o5, .inr (5, [.ref a5_0, .ref a5_1, .ref a5_2, .ref a5_3, .ref a5_4, .ref a5_5, .ref a5_6])), (a5_0, .inl (c5_0, 12, .inl f5_0)), (a5_1, .inl (c5_1, 120, .inl (upd f5_1 ((p0 * 10 + (f5_0 p0.toNatClampNeg)).toNatClampNeg) p1))), (a5_2, .inl (c5_2, 120, .inl (upd f5_2 ((p0 * 10 + (f5_0 p0.toNatClampNeg)).toNatClampNeg) p2))), (a5_3, .inl (c5_3, 120, .inl (upd f5_3 ((p0 * 10 + (f5_0 p0.toNatClampNeg)).toNatClampNeg) p3))), (a5_4, .inl (c5_4, 120, .inl (upd f5_4 ((p0 * 10 + (f5_0 p0.toNatClampNeg)).toNatClampNeg) p4))), (a5_5, .inl (c5_5, 120, .inl f5_5)), (a5_6, .inl (c5_6, 120, .inl f5_6))]) h (va_runS (As := [.int p1, .int p3, .int p4]) (rest := [.int (p0 * 10 + (f5_0 p0.toNatClampNeg)), .ref a5_5]) E (c_X5_readsOf l dC dI _ (p0 := p1) (p1 := p3) (p2 := p4)  (hp := (by first | decide | omega))) (va_cwS 3 E.2.2.2.2 gX5_add_X5_readsOf rfl rfl rfl (by decide +kernel) ⟨Nat.le_of_ble_eq_true rfl, Nat.le_of_ble_eq_true rfl⟩) (kPreS h KAll.blind (KAll.call hX h [] rfl) [] [] (by decide) rfl rfl) rfl rfl hl.1 rfl (lv_room (Nat.le_of_ble_eq_true rfl)) dX5_add_81 ⟨Nat.le_of_ble_eq_true rfl, Nat.le_of_ble_eq_true rfl⟩) [] [0, 1, 2, 3, 4, 5, 6, 7] rfl rfl (by decide) (by decide) (fun r_4 u_4 H locs hw_4 h => ?_)
      have h : KS (dC, dI) A [(o5, .inr (5, [.ref a5_0, .ref a5_1, .ref a5_2, .ref a5_3, .ref a5_4, .ref a5_5, .ref a5_6])), (a5_0, .inl (c5_0, 12, .inl f5_0)), (a5_1, .inl (c5_1, 120, .inl (upd f5_1 ((p0 * 10 + (f5_0 p0.toNatClampNeg)).toNatClampNeg) p1))), (a5_2, .inl (c5_2, 120, .inl (upd f5_2 ((p0 * 10 + (f5_0 p0.toNatClampNeg)).toNatClampNeg) p2))), (a5_3, .inl (c5_3, 120, .inl (upd f5_3 ((p0 * 10 + (f5_0 p0.toNatClampNeg)).toNatClampNeg) p3))), (a5_4, .inl (c5_4, 120, .inl (upd f5_4 ((p0 * 10 + (f5_0 p0.toNatClampNeg)).toNatClampNeg) p4))), (a5_5, .inl (c5_5, 120, .inl f5_5)), (a5_6, .inl (c5_6, 120, .inl f5_6))] [(c5_0, .int), (c5_1, .int), (c5_2, .int), (c5_3, .int), (c5_4, .int), (c5_5, .int), (c5_6, .int)] s H locs := h
      refine W.eq (g2 := F0 m 84 ls [.int r_4, .int (p0 * 10 + (f5_0 p0.toNatClampNeg)), .ref a5_5]) rfl ?_
      refine k_iast (j := (p0 * 10 + (f5_0 p0.toNatClampNeg)).toNatClampNeg) (ws' := [(o5, .inr (5, [.ref a5_0, .ref a5_1, .ref a5_2, .ref a5_3, .ref a5_4, .ref a5_5, .ref a5_6])), (a5_0, .inl (c5_0, 12, .inl f5_0)), (a5_1, .inl (c5_1, 120, .inl (upd f5_1 ((p0 * 10 + (f5_0 p0.toNatClampNeg)).toNatClampNeg) p1))), (a5_2, .inl (c5_2, 120, .inl (upd f5_2 ((p0 * 10 + (f5_0 p0.toNatClampNeg)).toNatClampNeg) p2))), (a5_3, .inl (c5_3, 120, .inl (upd f5_3 ((p0 * 10 + (f5_0 p0.toNatClampNeg)).toNatClampNeg) p3))), (a5_4, .inl (c5_4, 120, .inl (upd f5_4 ((p0 * 10 + (f5_0 p0.toNatClampNeg)).toNatClampNeg) p4))), (a5_5, .inl (c5_5, 120, .inl (upd f5_5 ((p0 * 10 + (f5_0 p0.toNatClampNeg)).toNatClampNeg) r_4))), (a5_6, .inl (c5_6, 120, .inl f5_6))]) E h 6 5 rfl rfl (vp_in_iff.mpr (by omega)) rfl rfl dX5_add_84 (fun H locs h => ?_)
      refine lv_aload_n hx hb dX5_add_85 rfl (lv_at hl 1 rfl) ?_
      refine k_get (v := .ref a5_6) E h (fun w h => List.mem_cons_of_mem _ (List.mem_append_right _ h)) 0 rfl rfl 6 (by decide) (List.mem_of_getElem? (i := 7) rfl) rfl dX5_add_86 ?_
      refine lv_iload hx hb dX5_add_89 (lv_at hl 0 rfl) ?_
      refine lv_iload_n hx hb dX5_add_91 rfl (lv_at hl 3 rfl) ?_
      refine lv_iload_n hx hb dX5_add_92 rfl (lv_at hl 4 rfl) ?_
      refine kc_i (wc := []) (wr := [(o5, .inr (5, [.ref a5_0, .ref a5_1, .ref a5_2, .ref a5_3, .ref a5_4, .ref a5_5, .ref a5_6])), (a5_0, .inl (c5_0, 12, .inl f5_0)), (a5_1, .inl (c5_1, 120, .inl (upd f5_1 ((p0 * 10 + (f5_0 p0.toNatClampNeg)).toNatClampNeg) p1))), (a5_2, .inl (c5_2, 120, .inl (upd f5_2 ((p0 * 10 + (f5_0 p0.toNatClampNeg)).toNatClampNeg) p2))), (a5_3, .inl (c5_3, 120, .inl (upd f5_3 ((p0 * 10 + (f5_0 p0.toNatClampNeg)).toNatClampNeg) p3))), (a5_4, .inl (c5_4, 120, .inl (upd f5_4 ((p0 * 10 + (f5_0 p0.toNatClampNeg)).toNatClampNeg) p4))), (a5_5, .inl (c5_5, 120, .inl (upd f5_5 ((p0 * 10 + (f5_0 p0.toNatClampNeg)).toNatClampNeg) r_4))), (a5_6, .inl (c5_6, 120, .inl f5_6))]) h (va_runS (As := [.int p1, .int p2]) (rest := [.int (p0 * 10 + (f5_0 p0.toNatClampNeg)), .ref a5_6]) E (c_X5_writesOf l dC dI _ (p0 := p1) (p1 := p2)  (hp := (by first | decide | omega))) (va_cwS 2 E.2.2.2.2 gX5_add_X5_writesOf rfl rfl rfl (by decide +kernel) ⟨Nat.le_of_ble_eq_true rfl, Nat.le_of_ble_eq_true rfl⟩) (kPreS h KAll.blind (KAll.call hX h [] rfl) [] [] (by decide) rfl rfl) rfl rfl hl.1 rfl (lv_room (Nat.le_of_ble_eq_true rfl)) dX5_add_93 ⟨Nat.le_of_ble_eq_true rfl, Nat.le_of_ble_eq_true rfl⟩) [] [0, 1, 2, 3, 4, 5, 6, 7] rfl rfl (by decide) (by decide) (fun r_5 u_5 H locs hw_5 h => ?_)
      have h : KS (dC, dI) A [(o5, .inr (5, [.ref a5_0, .ref a5_1, .ref a5_2, .ref a5_3, .ref a5_4, .ref a5_5, .ref a5_6])), (a5_0, .inl (c5_0, 12, .inl f5_0)), (a5_1, .inl (c5_1, 120, .inl (upd f5_1 ((p0 * 10 + (f5_0 p0.toNatClampNeg)).toNatClampNeg) p1))), (a5_2, .inl (c5_2, 120, .inl (upd f5_2 ((p0 * 10 + (f5_0 p0.toNatClampNeg)).toNatClampNeg) p2))), (a5_3, .inl (c5_3, 120, .inl (upd f5_3 ((p0 * 10 + (f5_0 p0.toNatClampNeg)).toNatClampNeg) p3))), (a5_4, .inl (c5_4, 120, .inl (upd f5_4 ((p0 * 10 + (f5_0 p0.toNatClampNeg)).toNatClampNeg) p4))), (a5_5, .inl (c5_5, 120, .inl (upd f5_5 ((p0 * 10 + (f5_0 p0.toNatClampNeg)).toNatClampNeg) r_4))), (a5_6, .inl (c5_6, 120, .inl f5_6))] [(c5_0, .int), (c5_1, .int), (c5_2, .int), (c5_3, .int), (c5_4, .int), (c5_5, .int), (c5_6, .int)] s H locs := h
      refine W.eq (g2 := F0 m 96 ls [.int r_5, .int (p0 * 10 + (f5_0 p0.toNatClampNeg)), .ref a5_6]) rfl ?_
      refine k_iast (j := (p0 * 10 + (f5_0 p0.toNatClampNeg)).toNatClampNeg) (ws' := [(o5, .inr (5, [.ref a5_0, .ref a5_1, .ref a5_2, .ref a5_3, .ref a5_4, .ref a5_5, .ref a5_6])), (a5_0, .inl (c5_0, 12, .inl f5_0)), (a5_1, .inl (c5_1, 120, .inl (upd f5_1 ((p0 * 10 + (f5_0 p0.toNatClampNeg)).toNatClampNeg) p1))), (a5_2, .inl (c5_2, 120, .inl (upd f5_2 ((p0 * 10 + (f5_0 p0.toNatClampNeg)).toNatClampNeg) p2))), (a5_3, .inl (c5_3, 120, .inl (upd f5_3 ((p0 * 10 + (f5_0 p0.toNatClampNeg)).toNatClampNeg) p3))), (a5_4, .inl (c5_4, 120, .inl (upd f5_4 ((p0 * 10 + (f5_0 p0.toNatClampNeg)).toNatClampNeg) p4))), (a5_5, .inl (c5_5, 120, .inl (upd f5_5 ((p0 * 10 + (f5_0 p0.toNatClampNeg)).toNatClampNeg) r_4))), (a5_6, .inl (c5_6, 120, .inl (upd f5_6 ((p0 * 10 + (f5_0 p0.toNatClampNeg)).toNatClampNeg) r_5)))]) E h 7 6 rfl rfl (vp_in_iff.mpr (by omega)) rfl rfl dX5_add_96 (fun H locs h => ?_)
      refine lv_aload_n hx hb dX5_add_97 rfl (lv_at hl 1 rfl) ?_
      refine k_get (v := .ref a5_0) E h (fun w h => List.mem_cons_of_mem _ (List.mem_append_right _ h)) 0 rfl rfl 0 (by decide) (List.mem_of_getElem? (i := 1) rfl) rfl dX5_add_98 ?_
      refine lv_iload_n hx hb dX5_add_101 rfl (lv_at hl 2 rfl) ?_
      refine lv_dup2_11 hx hb dX5_add_102 rfl rfl ?_
      refine k_iald (v := f5_0 p0.toNatClampNeg) E h 1 0 rfl rfl (vp_in_iff.mpr (by omega)) rfl dX5_add_103 ?_
      refine lv_iconst (v := 1) hx hb dX5_add_104 (by decide) ?_
      refine lv_iadd hx hb dX5_add_105 ?_
      refine k_iast (j := p0.toNatClampNeg) (ws' := [(o5, .inr (5, [.ref a5_0, .ref a5_1, .ref a5_2, .ref a5_3, .ref a5_4, .ref a5_5, .ref a5_6])), (a5_0, .inl (c5_0, 12, .inl (upd f5_0 p0.toNatClampNeg ((f5_0 p0.toNatClampNeg) + 1)))), (a5_1, .inl (c5_1, 120, .inl (upd f5_1 ((p0 * 10 + (f5_0 p0.toNatClampNeg)).toNatClampNeg) p1))), (a5_2, .inl (c5_2, 120, .inl (upd f5_2 ((p0 * 10 + (f5_0 p0.toNatClampNeg)).toNatClampNeg) p2))), (a5_3, .inl (c5_3, 120, .inl (upd f5_3 ((p0 * 10 + (f5_0 p0.toNatClampNeg)).toNatClampNeg) p3))), (a5_4, .inl (c5_4, 120, .inl (upd f5_4 ((p0 * 10 + (f5_0 p0.toNatClampNeg)).toNatClampNeg) p4))), (a5_5, .inl (c5_5, 120, .inl (upd f5_5 ((p0 * 10 + (f5_0 p0.toNatClampNeg)).toNatClampNeg) r_4))), (a5_6, .inl (c5_6, 120, .inl (upd f5_6 ((p0 * 10 + (f5_0 p0.toNatClampNeg)).toNatClampNeg) r_5)))]) E h 1 0 rfl rfl (vp_in_iff.mpr (by omega)) rfl rfl dX5_add_106 (fun H locs h => ?_)
      have hP9 := h.2.1.sub [0, 1, 2, 3, 4, 5, 6, 7] rfl
      have hD9 := h.2.2.1.sub (ws' := [(o5, .inr (5, [.ref a5_0, .ref a5_1, .ref a5_2, .ref a5_3, .ref a5_4, .ref a5_5, .ref a5_6])), (a5_0, .inl (c5_0, 12, .inl (upd f5_0 p0.toNatClampNeg ((f5_0 p0.toNatClampNeg) + 1)))), (a5_1, .inl (c5_1, 120, .inl (upd f5_1 ((p0 * 10 + (f5_0 p0.toNatClampNeg)).toNatClampNeg) p1))), (a5_2, .inl (c5_2, 120, .inl (upd f5_2 ((p0 * 10 + (f5_0 p0.toNatClampNeg)).toNatClampNeg) p2))), (a5_3, .inl (c5_3, 120, .inl (upd f5_3 ((p0 * 10 + (f5_0 p0.toNatClampNeg)).toNatClampNeg) p3))), (a5_4, .inl (c5_4, 120, .inl (upd f5_4 ((p0 * 10 + (f5_0 p0.toNatClampNeg)).toNatClampNeg) p4))), (a5_5, .inl (c5_5, 120, .inl (upd f5_5 ((p0 * 10 + (f5_0 p0.toNatClampNeg)).toNatClampNeg) r_4))), (a5_6, .inl (c5_6, 120, .inl (upd f5_6 ((p0 * 10 + (f5_0 p0.toNatClampNeg)).toNatClampNeg) r_5)))]) [0, 1, 2, 3, 4, 5, 6, 7] (by decide) rfl
      exact W.vret hx hb hr (fun t ht hW => ⟨⟨(upd f5_1 ((p0 * 10 + (f5_0 p0.toNatClampNeg)).toNatClampNeg) p1, upd f5_2 ((p0 * 10 + (f5_0 p0.toNatClampNeg)).toNatClampNeg) p2, upd f5_3 ((p0 * 10 + (f5_0 p0.toNatClampNeg)).toNatClampNeg) p3, upd f5_4 ((p0 * 10 + (f5_0 p0.toNatClampNeg)).toNatClampNeg) p4, upd f5_5 ((p0 * 10 + (f5_0 p0.toNatClampNeg)).toNatClampNeg) r_4, upd f5_6 ((p0 * 10 + (f5_0 p0.toNatClampNeg)).toNatClampNeg) r_5), rfl, (by refine IR_upd hR (kAct_of hok ?_ ?_) <;> first | exact Or.inl rfl | exact Or.inr (kTabD_0 hk (by assumption)) | exact Or.inr (kTabY_0 hk (by assumption))), (by rw [ht]; exact hP9), hD9⟩, h.2.2.2.1.F ht⟩) h.2.2.2.1.2.2 dX5_add_107 hlocks
    · skip
      have i_3 : (kTabY p1.toNatClampNeg).toInt = 0 := (fa_eq _ _).mp c_3
      refine lv_iconst (v := -1) hx hb dX5_add_63 (by decide) ?_
      refine lv_goto (tgt := 69) hx hb dX5_add_64 (by decide) ?_
      refine k_iast (j := (p0 * 10 + (f5_0 p0.toNatClampNeg)).toNatClampNeg) (ws' := [(o5, .inr (5, [.ref a5_0, .ref a5_1, .ref a5_2, .ref a5_3, .ref a5_4, .ref a5_5, .ref a5_6])), (a5_0, .inl (c5_0, 12, .inl f5_0)), (a5_1, .inl (c5_1, 120, .inl (upd f5_1 ((p0 * 10 + (f5_0 p0.toNatClampNeg)).toNatClampNeg) p1))), (a5_2, .inl (c5_2, 120, .inl (upd f5_2 ((p0 * 10 + (f5_0 p0.toNatClampNeg)).toNatClampNeg) p2))), (a5_3, .inl (c5_3, 120, .inl (upd f5_3 ((p0 * 10 + (f5_0 p0.toNatClampNeg)).toNatClampNeg) p3))), (a5_4, .inl (c5_4, 120, .inl (upd f5_4 ((p0 * 10 + (f5_0 p0.toNatClampNeg)).toNatClampNeg) (-1)))), (a5_5, .inl (c5_5, 120, .inl f5_5)), (a5_6, .inl (c5_6, 120, .inl f5_6))]) E h 5 4 rfl rfl (vp_in_iff.mpr (by omega)) rfl rfl dX5_add_69 (fun H locs h => ?_)
      refine lv_aload_n hx hb dX5_add_70 rfl (lv_at hl 1 rfl) ?_
      refine k_get (v := .ref a5_5) E h (fun w h => List.mem_cons_of_mem _ (List.mem_append_right _ h)) 0 rfl rfl 5 (by decide) (List.mem_of_getElem? (i := 6) rfl) rfl dX5_add_71 ?_
      refine lv_iload hx hb dX5_add_74 (lv_at hl 0 rfl) ?_
      refine lv_iload_n hx hb dX5_add_76 rfl (lv_at hl 3 rfl) ?_
      refine lv_iload hx hb dX5_add_77 (lv_at hl 5 rfl) ?_
      refine lv_iload hx hb dX5_add_79 (lv_at hl 6 rfl) ?_
      refine kc_i (wc := []) (wr := [(o5, .inr (5, [.ref a5_0, .ref a5_1, .ref a5_2, .ref a5_3, .ref a5_4, .ref a5_5, .ref a5_6])), (a5_0, .inl (c5_0, 12, .inl f5_0)), (a5_1, .inl (c5_1, 120, .inl (upd f5_1 ((p0 * 10 + (f5_0 p0.toNatClampNeg)).toNatClampNeg) p1))), (a5_2, .inl (c5_2, 120, .inl (upd f5_2 ((p0 * 10 + (f5_0 p0.toNatClampNeg)).toNatClampNeg) p2))), (a5_3, .inl (c5_3, 120, .inl (upd f5_3 ((p0 * 10 + (f5_0 p0.toNatClampNeg)).toNatClampNeg) p3))), (a5_4, .inl (c5_4, 120, .inl (upd f5_4 ((p0 * 10 + (f5_0 p0.toNatClampNeg)).toNatClampNeg) (-1)))), (a5_5, .inl (c5_5, 120, .inl f5_5)), (a5_6, .inl (c5_6, 120, .inl f5_6))]) h (va_runS (As := [.int p1, .int p3, .int p4]) (rest := [.int (p0 * 10 + (f5_0 p0.toNatClampNeg)), .ref a5_5]) E (c_X5_readsOf l dC dI _ (p0 := p1) (p1 := p3) (p2 := p4)  (hp := (by first | decide | omega))) (va_cwS 3 E.2.2.2.2 gX5_add_X5_readsOf rfl rfl rfl (by decide +kernel) ⟨Nat.le_of_ble_eq_true rfl, Nat.le_of_ble_eq_true rfl⟩) (kPreS h KAll.blind (KAll.call hX h [] rfl) [] [] (by decide) rfl rfl) rfl rfl hl.1 rfl (lv_room (Nat.le_of_ble_eq_true rfl)) dX5_add_81 ⟨Nat.le_of_ble_eq_true rfl, Nat.le_of_ble_eq_true rfl⟩) [] [0, 1, 2, 3, 4, 5, 6, 7] rfl rfl (by decide) (by decide) (fun r_6 u_6 H locs hw_6 h => ?_)
      have h : KS (dC, dI) A [(o5, .inr (5, [.ref a5_0, .ref a5_1, .ref a5_2, .ref a5_3, .ref a5_4, .ref a5_5, .ref a5_6])), (a5_0, .inl (c5_0, 12, .inl f5_0)), (a5_1, .inl (c5_1, 120, .inl (upd f5_1 ((p0 * 10 + (f5_0 p0.toNatClampNeg)).toNatClampNeg) p1))), (a5_2, .inl (c5_2, 120, .inl (upd f5_2 ((p0 * 10 + (f5_0 p0.toNatClampNeg)).toNatClampNeg) p2))), (a5_3, .inl (c5_3, 120, .inl (upd f5_3 ((p0 * 10 + (f5_0 p0.toNatClampNeg)).toNatClampNeg) p3))), (a5_4, .inl (c5_4, 120, .inl (upd f5_4 ((p0 * 10 + (f5_0 p0.toNatClampNeg)).toNatClampNeg) (-1)))), (a5_5, .inl (c5_5, 120, .inl f5_5)), (a5_6, .inl (c5_6, 120, .inl f5_6))] [(c5_0, .int), (c5_1, .int), (c5_2, .int), (c5_3, .int), (c5_4, .int), (c5_5, .int), (c5_6, .int)] s H locs := h
      refine W.eq (g2 := F0 m 84 ls [.int r_6, .int (p0 * 10 + (f5_0 p0.toNatClampNeg)), .ref a5_5]) rfl ?_
      refine k_iast (j := (p0 * 10 + (f5_0 p0.toNatClampNeg)).toNatClampNeg) (ws' := [(o5, .inr (5, [.ref a5_0, .ref a5_1, .ref a5_2, .ref a5_3, .ref a5_4, .ref a5_5, .ref a5_6])), (a5_0, .inl (c5_0, 12, .inl f5_0)), (a5_1, .inl (c5_1, 120, .inl (upd f5_1 ((p0 * 10 + (f5_0 p0.toNatClampNeg)).toNatClampNeg) p1))), (a5_2, .inl (c5_2, 120, .inl (upd f5_2 ((p0 * 10 + (f5_0 p0.toNatClampNeg)).toNatClampNeg) p2))), (a5_3, .inl (c5_3, 120, .inl (upd f5_3 ((p0 * 10 + (f5_0 p0.toNatClampNeg)).toNatClampNeg) p3))), (a5_4, .inl (c5_4, 120, .inl (upd f5_4 ((p0 * 10 + (f5_0 p0.toNatClampNeg)).toNatClampNeg) (-1)))), (a5_5, .inl (c5_5, 120, .inl (upd f5_5 ((p0 * 10 + (f5_0 p0.toNatClampNeg)).toNatClampNeg) r_6))), (a5_6, .inl (c5_6, 120, .inl f5_6))]) E h 6 5 rfl rfl (vp_in_iff.mpr (by omega)) rfl rfl dX5_add_84 (fun H locs h => ?_)
      refine lv_aload_n hx hb dX5_add_85 rfl (lv_at hl 1 rfl) ?_
      refine k_get (v := .ref a5_6) E h (fun w h => List.mem_cons_of_mem _ (List.mem_append_right _ h)) 0 rfl rfl 6 (by decide) (List.mem_of_getElem? (i := 7) rfl) rfl dX5_add_86 ?_
      refine lv_iload hx hb dX5_add_89 (lv_at hl 0 rfl) ?_
      refine lv_iload_n hx hb dX5_add_91 rfl (lv_at hl 3 rfl) ?_
      refine lv_iload_n hx hb dX5_add_92 rfl (lv_at hl 4 rfl) ?_
      refine kc_i (wc := []) (wr := [(o5, .inr (5, [.ref a5_0, .ref a5_1, .ref a5_2, .ref a5_3, .ref a5_4, .ref a5_5, .ref a5_6])), (a5_0, .inl (c5_0, 12, .inl f5_0)), (a5_1, .inl (c5_1, 120, .inl (upd f5_1 ((p0 * 10 + (f5_0 p0.toNatClampNeg)).toNatClampNeg) p1))), (a5_2, .inl (c5_2, 120, .inl (upd f5_2 ((p0 * 10 + (f5_0 p0.toNatClampNeg)).toNatClampNeg) p2))), (a5_3, .inl (c5_3, 120, .inl (upd f5_3 ((p0 * 10 + (f5_0 p0.toNatClampNeg)).toNatClampNeg) p3))), (a5_4, .inl (c5_4, 120, .inl (upd f5_4 ((p0 * 10 + (f5_0 p0.toNatClampNeg)).toNatClampNeg) (-1)))), (a5_5, .inl (c5_5, 120, .inl (upd f5_5 ((p0 * 10 + (f5_0 p0.toNatClampNeg)).toNatClampNeg) r_6))), (a5_6, .inl (c5_6, 120, .inl f5_6))]) h (va_runS (As := [.int p1, .int p2]) (rest := [.int (p0 * 10 + (f5_0 p0.toNatClampNeg)), .ref a5_6]) E (c_X5_writesOf l dC dI _ (p0 := p1) (p1 := p2)  (hp := (by first | decide | omega))) (va_cwS 2 E.2.2.2.2 gX5_add_X5_writesOf rfl rfl rfl (by decide +kernel) ⟨Nat.le_of_ble_eq_true rfl, Nat.le_of_ble_eq_true rfl⟩) (kPreS h KAll.blind (KAll.call hX h [] rfl) [] [] (by decide) rfl rfl) rfl rfl hl.1 rfl (lv_room (Nat.le_of_ble_eq_true rfl)) dX5_add_93 ⟨Nat.le_of_ble_eq_true rfl, Nat.le_of_ble_eq_true rfl⟩) [] [0, 1, 2, 3, 4, 5, 6, 7] rfl rfl (by decide) (by decide) (fun r_7 u_7 H locs hw_7 h => ?_)
      have h : KS (dC, dI) A [(o5, .inr (5, [.ref a5_0, .ref a5_1, .ref a5_2, .ref a5_3, .ref a5_4, .ref a5_5, .ref a5_6])), (a5_0, .inl (c5_0, 12, .inl f5_0)), (a5_1, .inl (c5_1, 120, .inl (upd f5_1 ((p0 * 10 + (f5_0 p0.toNatClampNeg)).toNatClampNeg) p1))), (a5_2, .inl (c5_2, 120, .inl (upd f5_2 ((p0 * 10 + (f5_0 p0.toNatClampNeg)).toNatClampNeg) p2))), (a5_3, .inl (c5_3, 120, .inl (upd f5_3 ((p0 * 10 + (f5_0 p0.toNatClampNeg)).toNatClampNeg) p3))), (a5_4, .inl (c5_4, 120, .inl (upd f5_4 ((p0 * 10 + (f5_0 p0.toNatClampNeg)).toNatClampNeg) (-1)))), (a5_5, .inl (c5_5, 120, .inl (upd f5_5 ((p0 * 10 + (f5_0 p0.toNatClampNeg)).toNatClampNeg) r_6))), (a5_6, .inl (c5_6, 120, .inl f5_6))] [(c5_0, .int), (c5_1, .int), (c5_2, .int), (c5_3, .int), (c5_4, .int), (c5_5, .int), (c5_6, .int)] s H locs := h
      refine W.eq (g2 := F0 m 96 ls [.int r_7, .int (p0 * 10 + (f5_0 p0.toNatClampNeg)), .ref a5_6]) rfl ?_
      refine k_iast (j := (p0 * 10 + (f5_0 p0.toNatClampNeg)).toNatClampNeg) (ws' := [(o5, .inr (5, [.ref a5_0, .ref a5_1, .ref a5_2, .ref a5_3, .ref a5_4, .ref a5_5, .ref a5_6])), (a5_0, .inl (c5_0, 12, .inl f5_0)), (a5_1, .inl (c5_1, 120, .inl (upd f5_1 ((p0 * 10 + (f5_0 p0.toNatClampNeg)).toNatClampNeg) p1))), (a5_2, .inl (c5_2, 120, .inl (upd f5_2 ((p0 * 10 + (f5_0 p0.toNatClampNeg)).toNatClampNeg) p2))), (a5_3, .inl (c5_3, 120, .inl (upd f5_3 ((p0 * 10 + (f5_0 p0.toNatClampNeg)).toNatClampNeg) p3))), (a5_4, .inl (c5_4, 120, .inl (upd f5_4 ((p0 * 10 + (f5_0 p0.toNatClampNeg)).toNatClampNeg) (-1)))), (a5_5, .inl (c5_5, 120, .inl (upd f5_5 ((p0 * 10 + (f5_0 p0.toNatClampNeg)).toNatClampNeg) r_6))), (a5_6, .inl (c5_6, 120, .inl (upd f5_6 ((p0 * 10 + (f5_0 p0.toNatClampNeg)).toNatClampNeg) r_7)))]) E h 7 6 rfl rfl (vp_in_iff.mpr (by omega)) rfl rfl dX5_add_96 (fun H locs h => ?_)
      refine lv_aload_n hx hb dX5_add_97 rfl (lv_at hl 1 rfl) ?_
      refine k_get (v := .ref a5_0) E h (fun w h => List.mem_cons_of_mem _ (List.mem_append_right _ h)) 0 rfl rfl 0 (by decide) (List.mem_of_getElem? (i := 1) rfl) rfl dX5_add_98 ?_
      refine lv_iload_n hx hb dX5_add_101 rfl (lv_at hl 2 rfl) ?_
      refine lv_dup2_11 hx hb dX5_add_102 rfl rfl ?_
      refine k_iald (v := f5_0 p0.toNatClampNeg) E h 1 0 rfl rfl (vp_in_iff.mpr (by omega)) rfl dX5_add_103 ?_
      refine lv_iconst (v := 1) hx hb dX5_add_104 (by decide) ?_
      refine lv_iadd hx hb dX5_add_105 ?_
      refine k_iast (j := p0.toNatClampNeg) (ws' := [(o5, .inr (5, [.ref a5_0, .ref a5_1, .ref a5_2, .ref a5_3, .ref a5_4, .ref a5_5, .ref a5_6])), (a5_0, .inl (c5_0, 12, .inl (upd f5_0 p0.toNatClampNeg ((f5_0 p0.toNatClampNeg) + 1)))), (a5_1, .inl (c5_1, 120, .inl (upd f5_1 ((p0 * 10 + (f5_0 p0.toNatClampNeg)).toNatClampNeg) p1))), (a5_2, .inl (c5_2, 120, .inl (upd f5_2 ((p0 * 10 + (f5_0 p0.toNatClampNeg)).toNatClampNeg) p2))), (a5_3, .inl (c5_3, 120, .inl (upd f5_3 ((p0 * 10 + (f5_0 p0.toNatClampNeg)).toNatClampNeg) p3))), (a5_4, .inl (c5_4, 120, .inl (upd f5_4 ((p0 * 10 + (f5_0 p0.toNatClampNeg)).toNatClampNeg) (-1)))), (a5_5, .inl (c5_5, 120, .inl (upd f5_5 ((p0 * 10 + (f5_0 p0.toNatClampNeg)).toNatClampNeg) r_6))), (a5_6, .inl (c5_6, 120, .inl (upd f5_6 ((p0 * 10 + (f5_0 p0.toNatClampNeg)).toNatClampNeg) r_7)))]) E h 1 0 rfl rfl (vp_in_iff.mpr (by omega)) rfl rfl dX5_add_106 (fun H locs h => ?_)
      have hP9 := h.2.1.sub [0, 1, 2, 3, 4, 5, 6, 7] rfl
      have hD9 := h.2.2.1.sub (ws' := [(o5, .inr (5, [.ref a5_0, .ref a5_1, .ref a5_2, .ref a5_3, .ref a5_4, .ref a5_5, .ref a5_6])), (a5_0, .inl (c5_0, 12, .inl (upd f5_0 p0.toNatClampNeg ((f5_0 p0.toNatClampNeg) + 1)))), (a5_1, .inl (c5_1, 120, .inl (upd f5_1 ((p0 * 10 + (f5_0 p0.toNatClampNeg)).toNatClampNeg) p1))), (a5_2, .inl (c5_2, 120, .inl (upd f5_2 ((p0 * 10 + (f5_0 p0.toNatClampNeg)).toNatClampNeg) p2))), (a5_3, .inl (c5_3, 120, .inl (upd f5_3 ((p0 * 10 + (f5_0 p0.toNatClampNeg)).toNatClampNeg) p3))), (a5_4, .inl (c5_4, 120, .inl (upd f5_4 ((p0 * 10 + (f5_0 p0.toNatClampNeg)).toNatClampNeg) (-1)))), (a5_5, .inl (c5_5, 120, .inl (upd f5_5 ((p0 * 10 + (f5_0 p0.toNatClampNeg)).toNatClampNeg) r_6))), (a5_6, .inl (c5_6, 120, .inl (upd f5_6 ((p0 * 10 + (f5_0 p0.toNatClampNeg)).toNatClampNeg) r_7)))]) [0, 1, 2, 3, 4, 5, 6, 7] (by decide) rfl
      exact W.vret hx hb hr (fun t ht hW => ⟨⟨(upd f5_1 ((p0 * 10 + (f5_0 p0.toNatClampNeg)).toNatClampNeg) p1, upd f5_2 ((p0 * 10 + (f5_0 p0.toNatClampNeg)).toNatClampNeg) p2, upd f5_3 ((p0 * 10 + (f5_0 p0.toNatClampNeg)).toNatClampNeg) p3, upd f5_4 ((p0 * 10 + (f5_0 p0.toNatClampNeg)).toNatClampNeg) (-1), upd f5_5 ((p0 * 10 + (f5_0 p0.toNatClampNeg)).toNatClampNeg) r_6, upd f5_6 ((p0 * 10 + (f5_0 p0.toNatClampNeg)).toNatClampNeg) r_7), rfl, (by refine IR_upd hR (kAct_of hok ?_ ?_) <;> first | exact Or.inl rfl | exact Or.inr (kTabD_0 hk (by assumption)) | exact Or.inr (kTabY_0 hk (by assumption))), (by rw [ht]; exact hP9), hD9⟩, h.2.2.2.1.F ht⟩) h.2.2.2.1.2.2 dX5_add_107 hlocks
  · skip
    have i_2 : (kTabD p1.toNatClampNeg).toInt = 0 := (fa_eq _ _).mp c_2
    refine lv_iconst (v := -1) hx hb dX5_add_34 (by decide) ?_
    refine lv_goto (tgt := 39) hx hb dX5_add_35 (by decide) ?_
    refine k_iast (j := (p0 * 10 + (f5_0 p0.toNatClampNeg)).toNatClampNeg) (ws' := [(o5, .inr (5, [.ref a5_0, .ref a5_1, .ref a5_2, .ref a5_3, .ref a5_4, .ref a5_5, .ref a5_6])), (a5_0, .inl (c5_0, 12, .inl f5_0)), (a5_1, .inl (c5_1, 120, .inl (upd f5_1 ((p0 * 10 + (f5_0 p0.toNatClampNeg)).toNatClampNeg) p1))), (a5_2, .inl (c5_2, 120, .inl (upd f5_2 ((p0 * 10 + (f5_0 p0.toNatClampNeg)).toNatClampNeg) (-1)))), (a5_3, .inl (c5_3, 120, .inl f5_3)), (a5_4, .inl (c5_4, 120, .inl f5_4)), (a5_5, .inl (c5_5, 120, .inl f5_5)), (a5_6, .inl (c5_6, 120, .inl f5_6))]) E h 3 2 rfl rfl (vp_in_iff.mpr (by omega)) rfl rfl dX5_add_39 (fun H locs h => ?_)
    refine lv_aload_n hx hb dX5_add_40 rfl (lv_at hl 1 rfl) ?_
    refine k_get (v := .ref a5_3) E h (fun w h => List.mem_cons_of_mem _ (List.mem_append_right _ h)) 0 rfl rfl 3 (by decide) (List.mem_of_getElem? (i := 4) rfl) rfl dX5_add_41 ?_
    refine lv_iload hx hb dX5_add_44 (lv_at hl 0 rfl) ?_
    refine lv_iload hx hb dX5_add_46 (lv_at hl 5 rfl) ?_
    refine k_iast (j := (p0 * 10 + (f5_0 p0.toNatClampNeg)).toNatClampNeg) (ws' := [(o5, .inr (5, [.ref a5_0, .ref a5_1, .ref a5_2, .ref a5_3, .ref a5_4, .ref a5_5, .ref a5_6])), (a5_0, .inl (c5_0, 12, .inl f5_0)), (a5_1, .inl (c5_1, 120, .inl (upd f5_1 ((p0 * 10 + (f5_0 p0.toNatClampNeg)).toNatClampNeg) p1))), (a5_2, .inl (c5_2, 120, .inl (upd f5_2 ((p0 * 10 + (f5_0 p0.toNatClampNeg)).toNatClampNeg) (-1)))), (a5_3, .inl (c5_3, 120, .inl (upd f5_3 ((p0 * 10 + (f5_0 p0.toNatClampNeg)).toNatClampNeg) p3))), (a5_4, .inl (c5_4, 120, .inl f5_4)), (a5_5, .inl (c5_5, 120, .inl f5_5)), (a5_6, .inl (c5_6, 120, .inl f5_6))]) E h 4 3 rfl rfl (vp_in_iff.mpr (by omega)) rfl rfl dX5_add_48 (fun H locs h => ?_)
    refine lv_aload_n hx hb dX5_add_49 rfl (lv_at hl 1 rfl) ?_
    refine k_get (v := .ref a5_4) E h (fun w h => List.mem_cons_of_mem _ (List.mem_append_right _ h)) 0 rfl rfl 4 (by decide) (List.mem_of_getElem? (i := 5) rfl) rfl dX5_add_50 ?_
    refine lv_iload hx hb dX5_add_53 (lv_at hl 0 rfl) ?_
    refine va_getsN (v := .ref tY) hx hb hZY h.2.2.2.1 E.2.2.2.1 (va_Nw.use rfl hF40) (fun _ h9 => h9) dX5_add_55 ?_
    refine lv_iload_n hx hb dX5_add_58 rfl (lv_at hl 3 rfl) ?_
    refine W.eq (g2 := F0 m 59 ls [.int p1, .ref tY, .int (p0 * 10 + (f5_0 p0.toNatClampNeg)), .ref a5_4]) rfl ?_
    refine va_ti (v := .int (kTabY p1.toNatClampNeg)) hx hb hTY h.2.2.2.1 (vp_in_iff.mpr (by omega)) rfl dX5_add_59 ?_
    refine lv_if_ne (tgt := 67) hx hb dX5_add_60 (by decide) (fun c_8 => ?_) (fun c_8 => ?_)
    · skip
      have i_8 : ¬ (kTabY p1.toNatClampNeg).toInt = 0 := fun h9 => c_8 ((fa_eq _ _).mpr h9)
      refine lv_iload hx hb dX5_add_67 (lv_at hl 6 rfl) ?_
      refine k_iast (j := (p0 * 10 + (f5_0 p0.toNatClampNeg)).toNatClampNeg) (ws' := [(o5, .inr (5, [.ref a5_0, .ref a5_1, .ref a5_2, .ref a5_3, .ref a5_4, .ref a5_5, .ref a5_6])), (a5_0, .inl (c5_0, 12, .inl f5_0)), (a5_1, .inl (c5_1, 120, .inl (upd f5_1 ((p0 * 10 + (f5_0 p0.toNatClampNeg)).toNatClampNeg) p1))), (a5_2, .inl (c5_2, 120, .inl (upd f5_2 ((p0 * 10 + (f5_0 p0.toNatClampNeg)).toNatClampNeg) (-1)))), (a5_3, .inl (c5_3, 120, .inl (upd f5_3 ((p0 * 10 + (f5_0 p0.toNatClampNeg)).toNatClampNeg) p3))), (a5_4, .inl (c5_4, 120, .inl (upd f5_4 ((p0 * 10 + (f5_0 p0.toNatClampNeg)).toNatClampNeg) p4))), (a5_5, .inl (c5_5, 120, .inl f5_5)), (a5_6, .inl (c5_6, 120, .inl f5_6))]) E h 5 4 rfl rfl (vp_in_iff.mpr (by omega)) rfl rfl dX5_add_69 (fun H locs h => ?_)
      refine lv_aload_n hx hb dX5_add_70 rfl (lv_at hl 1 rfl) ?_
      refine k_get (v := .ref a5_5) E h (fun w h => List.mem_cons_of_mem _ (List.mem_append_right _ h)) 0 rfl rfl 5 (by decide) (List.mem_of_getElem? (i := 6) rfl) rfl dX5_add_71 ?_
      refine lv_iload hx hb dX5_add_74 (lv_at hl 0 rfl) ?_
      refine lv_iload_n hx hb dX5_add_76 rfl (lv_at hl 3 rfl) ?_
      refine lv_iload hx hb dX5_add_77 (lv_at hl 5 rfl) ?_
      refine lv_iload hx hb dX5_add_79 (lv_at hl 6 rfl) ?_
      refine kc_i (wc := []) (wr := [(o5, .inr (5, [.ref a5_0, .ref a5_1, .ref a5_2, .ref a5_3, .ref a5_4, .ref a5_5, .ref a5_6])), (a5_0, .inl (c5_0, 12, .inl f5_0)), (a5_1, .inl (c5_1, 120, .inl (upd f5_1 ((p0 * 10 + (f5_0 p0.toNatClampNeg)).toNatClampNeg) p1))), (a5_2, .inl (c5_2, 120, .inl (upd f5_2 ((p0 * 10 + (f5_0 p0.toNatClampNeg)).toNatClampNeg) (-1)))), (a5_3, .inl (c5_3, 120, .inl (upd f5_3 ((p0 * 10 + (f5_0 p0.toNatClampNeg)).toNatClampNeg) p3))), (a5_4, .inl (c5_4, 120, .inl (upd f5_4 ((p0 * 10 + (f5_0 p0.toNatClampNeg)).toNatClampNeg) p4))), (a5_5, .inl (c5_5, 120, .inl f5_5)), (a5_6, .inl (c5_6, 120, .inl f5_6))]) h (va_runS (As := [.int p1, .int p3, .int p4]) (rest := [.int (p0 * 10 + (f5_0 p0.toNatClampNeg)), .ref a5_5]) E (c_X5_readsOf l dC dI _ (p0 := p1) (p1 := p3) (p2 := p4)  (hp := (by first | decide | omega))) (va_cwS 3 E.2.2.2.2 gX5_add_X5_readsOf rfl rfl rfl (by decide +kernel) ⟨Nat.le_of_ble_eq_true rfl, Nat.le_of_ble_eq_true rfl⟩) (kPreS h KAll.blind (KAll.call hX h [] rfl) [] [] (by decide) rfl rfl) rfl rfl hl.1 rfl (lv_room (Nat.le_of_ble_eq_true rfl)) dX5_add_81 ⟨Nat.le_of_ble_eq_true rfl, Nat.le_of_ble_eq_true rfl⟩) [] [0, 1, 2, 3, 4, 5, 6, 7] rfl rfl (by decide) (by decide) (fun r_9 u_9 H locs hw_9 h => ?_)
      have h : KS (dC, dI) A [(o5, .inr (5, [.ref a5_0, .ref a5_1, .ref a5_2, .ref a5_3, .ref a5_4, .ref a5_5, .ref a5_6])), (a5_0, .inl (c5_0, 12, .inl f5_0)), (a5_1, .inl (c5_1, 120, .inl (upd f5_1 ((p0 * 10 + (f5_0 p0.toNatClampNeg)).toNatClampNeg) p1))), (a5_2, .inl (c5_2, 120, .inl (upd f5_2 ((p0 * 10 + (f5_0 p0.toNatClampNeg)).toNatClampNeg) (-1)))), (a5_3, .inl (c5_3, 120, .inl (upd f5_3 ((p0 * 10 + (f5_0 p0.toNatClampNeg)).toNatClampNeg) p3))), (a5_4, .inl (c5_4, 120, .inl (upd f5_4 ((p0 * 10 + (f5_0 p0.toNatClampNeg)).toNatClampNeg) p4))), (a5_5, .inl (c5_5, 120, .inl f5_5)), (a5_6, .inl (c5_6, 120, .inl f5_6))] [(c5_0, .int), (c5_1, .int), (c5_2, .int), (c5_3, .int), (c5_4, .int), (c5_5, .int), (c5_6, .int)] s H locs := h
      refine W.eq (g2 := F0 m 84 ls [.int r_9, .int (p0 * 10 + (f5_0 p0.toNatClampNeg)), .ref a5_5]) rfl ?_
      refine k_iast (j := (p0 * 10 + (f5_0 p0.toNatClampNeg)).toNatClampNeg) (ws' := [(o5, .inr (5, [.ref a5_0, .ref a5_1, .ref a5_2, .ref a5_3, .ref a5_4, .ref a5_5, .ref a5_6])), (a5_0, .inl (c5_0, 12, .inl f5_0)), (a5_1, .inl (c5_1, 120, .inl (upd f5_1 ((p0 * 10 + (f5_0 p0.toNatClampNeg)).toNatClampNeg) p1))), (a5_2, .inl (c5_2, 120, .inl (upd f5_2 ((p0 * 10 + (f5_0 p0.toNatClampNeg)).toNatClampNeg) (-1)))), (a5_3, .inl (c5_3, 120, .inl (upd f5_3 ((p0 * 10 + (f5_0 p0.toNatClampNeg)).toNatClampNeg) p3))), (a5_4, .inl (c5_4, 120, .inl (upd f5_4 ((p0 * 10 + (f5_0 p0.toNatClampNeg)).toNatClampNeg) p4))), (a5_5, .inl (c5_5, 120, .inl (upd f5_5 ((p0 * 10 + (f5_0 p0.toNatClampNeg)).toNatClampNeg) r_9))), (a5_6, .inl (c5_6, 120, .inl f5_6))]) E h 6 5 rfl rfl (vp_in_iff.mpr (by omega)) rfl rfl dX5_add_84 (fun H locs h => ?_)
      refine lv_aload_n hx hb dX5_add_85 rfl (lv_at hl 1 rfl) ?_
      refine k_get (v := .ref a5_6) E h (fun w h => List.mem_cons_of_mem _ (List.mem_append_right _ h)) 0 rfl rfl 6 (by decide) (List.mem_of_getElem? (i := 7) rfl) rfl dX5_add_86 ?_
      refine lv_iload hx hb dX5_add_89 (lv_at hl 0 rfl) ?_
      refine lv_iload_n hx hb dX5_add_91 rfl (lv_at hl 3 rfl) ?_
      refine lv_iload_n hx hb dX5_add_92 rfl (lv_at hl 4 rfl) ?_
      refine kc_i (wc := []) (wr := [(o5, .inr (5, [.ref a5_0, .ref a5_1, .ref a5_2, .ref a5_3, .ref a5_4, .ref a5_5, .ref a5_6])), (a5_0, .inl (c5_0, 12, .inl f5_0)), (a5_1, .inl (c5_1, 120, .inl (upd f5_1 ((p0 * 10 + (f5_0 p0.toNatClampNeg)).toNatClampNeg) p1))), (a5_2, .inl (c5_2, 120, .inl (upd f5_2 ((p0 * 10 + (f5_0 p0.toNatClampNeg)).toNatClampNeg) (-1)))), (a5_3, .inl (c5_3, 120, .inl (upd f5_3 ((p0 * 10 + (f5_0 p0.toNatClampNeg)).toNatClampNeg) p3))), (a5_4, .inl (c5_4, 120, .inl (upd f5_4 ((p0 * 10 + (f5_0 p0.toNatClampNeg)).toNatClampNeg) p4))), (a5_5, .inl (c5_5, 120, .inl (upd f5_5 ((p0 * 10 + (f5_0 p0.toNatClampNeg)).toNatClampNeg) r_9))), (a5_6, .inl (c5_6, 120, .inl f5_6))]) h (va_runS (As := [.int p1, .int p2]) (rest := [.int (p0 * 10 + (f5_0 p0.toNatClampNeg)), .ref a5_6]) E (c_X5_writesOf l dC dI _ (p0 := p1) (p1 := p2)  (hp := (by first | decide | omega))) (va_cwS 2 E.2.2.2.2 gX5_add_X5_writesOf rfl rfl rfl (by decide +kernel) ⟨Nat.le_of_ble_eq_true rfl, Nat.le_of_ble_eq_true rfl⟩) (kPreS h KAll.blind (KAll.call hX h [] rfl) [] [] (by decide) rfl rfl) rfl rfl hl.1 rfl (lv_room (Nat.le_of_ble_eq_true rfl)) dX5_add_93 ⟨Nat.le_of_ble_eq_true rfl, Nat.le_of_ble_eq_true rfl⟩) [] [0, 1, 2, 3, 4, 5, 6, 7] rfl rfl (by decide) (by decide) (fun r_10 u_10 H locs hw_10 h => ?_)
      have h : KS (dC, dI) A [(o5, .inr (5, [.ref a5_0, .ref a5_1, .ref a5_2, .ref a5_3, .ref a5_4, .ref a5_5, .ref a5_6])), (a5_0, .inl (c5_0, 12, .inl f5_0)), (a5_1, .inl (c5_1, 120, .inl (upd f5_1 ((p0 * 10 + (f5_0 p0.toNatClampNeg)).toNatClampNeg) p1))), (a5_2, .inl (c5_2, 120, .inl (upd f5_2 ((p0 * 10 + (f5_0 p0.toNatClampNeg)).toNatClampNeg) (-1)))), (a5_3, .inl (c5_3, 120, .inl (upd f5_3 ((p0 * 10 + (f5_0 p0.toNatClampNeg)).toNatClampNeg) p3))), (a5_4, .inl (c5_4, 120, .inl (upd f5_4 ((p0 * 10 + (f5_0 p0.toNatClampNeg)).toNatClampNeg) p4))), (a5_5, .inl (c5_5, 120, .inl (upd f5_5 ((p0 * 10 + (f5_0 p0.toNatClampNeg)).toNatClampNeg) r_9))), (a5_6, .inl (c5_6, 120, .inl f5_6))] [(c5_0, .int), (c5_1, .int), (c5_2, .int), (c5_3, .int), (c5_4, .int), (c5_5, .int), (c5_6, .int)] s H locs := h
      refine W.eq (g2 := F0 m 96 ls [.int r_10, .int (p0 * 10 + (f5_0 p0.toNatClampNeg)), .ref a5_6]) rfl ?_
      refine k_iast (j := (p0 * 10 + (f5_0 p0.toNatClampNeg)).toNatClampNeg) (ws' := [(o5, .inr (5, [.ref a5_0, .ref a5_1, .ref a5_2, .ref a5_3, .ref a5_4, .ref a5_5, .ref a5_6])), (a5_0, .inl (c5_0, 12, .inl f5_0)), (a5_1, .inl (c5_1, 120, .inl (upd f5_1 ((p0 * 10 + (f5_0 p0.toNatClampNeg)).toNatClampNeg) p1))), (a5_2, .inl (c5_2, 120, .inl (upd f5_2 ((p0 * 10 + (f5_0 p0.toNatClampNeg)).toNatClampNeg) (-1)))), (a5_3, .inl (c5_3, 120, .inl (upd f5_3 ((p0 * 10 + (f5_0 p0.toNatClampNeg)).toNatClampNeg) p3))), (a5_4, .inl (c5_4, 120, .inl (upd f5_4 ((p0 * 10 + (f5_0 p0.toNatClampNeg)).toNatClampNeg) p4))), (a5_5, .inl (c5_5, 120, .inl (upd f5_5 ((p0 * 10 + (f5_0 p0.toNatClampNeg)).toNatClampNeg) r_9))), (a5_6, .inl (c5_6, 120, .inl (upd f5_6 ((p0 * 10 + (f5_0 p0.toNatClampNeg)).toNatClampNeg) r_10)))]) E h 7 6 rfl rfl (vp_in_iff.mpr (by omega)) rfl rfl dX5_add_96 (fun H locs h => ?_)
      refine lv_aload_n hx hb dX5_add_97 rfl (lv_at hl 1 rfl) ?_
      refine k_get (v := .ref a5_0) E h (fun w h => List.mem_cons_of_mem _ (List.mem_append_right _ h)) 0 rfl rfl 0 (by decide) (List.mem_of_getElem? (i := 1) rfl) rfl dX5_add_98 ?_
      refine lv_iload_n hx hb dX5_add_101 rfl (lv_at hl 2 rfl) ?_
      refine lv_dup2_11 hx hb dX5_add_102 rfl rfl ?_
      refine k_iald (v := f5_0 p0.toNatClampNeg) E h 1 0 rfl rfl (vp_in_iff.mpr (by omega)) rfl dX5_add_103 ?_
      refine lv_iconst (v := 1) hx hb dX5_add_104 (by decide) ?_
      refine lv_iadd hx hb dX5_add_105 ?_
      refine k_iast (j := p0.toNatClampNeg) (ws' := [(o5, .inr (5, [.ref a5_0, .ref a5_1, .ref a5_2, .ref a5_3, .ref a5_4, .ref a5_5, .ref a5_6])), (a5_0, .inl (c5_0, 12, .inl (upd f5_0 p0.toNatClampNeg ((f5_0 p0.toNatClampNeg) + 1)))), (a5_1, .inl (c5_1, 120, .inl (upd f5_1 ((p0 * 10 + (f5_0 p0.toNatClampNeg)).toNatClampNeg) p1))), (a5_2, .inl (c5_2, 120, .inl (upd f5_2 ((p0 * 10 + (f5_0 p0.toNatClampNeg)).toNatClampNeg) (-1)))), (a5_3, .inl (c5_3, 120, .inl (upd f5_3 ((p0 * 10 + (f5_0 p0.toNatClampNeg)).toNatClampNeg) p3))), (a5_4, .inl (c5_4, 120, .inl (upd f5_4 ((p0 * 10 + (f5_0 p0.toNatClampNeg)).toNatClampNeg) p4))), (a5_5, .inl (c5_5, 120, .inl (upd f5_5 ((p0 * 10 + (f5_0 p0.toNatClampNeg)).toNatClampNeg) r_9))), (a5_6, .inl (c5_6, 120, .inl (upd f5_6 ((p0 * 10 + (f5_0 p0.toNatClampNeg)).toNatClampNeg) r_10)))]) E h 1 0 rfl rfl (vp_in_iff.mpr (by omega)) rfl rfl dX5_add_106 (fun H locs h => ?_)
      have hP9 := h.2.1.sub [0, 1, 2, 3, 4, 5, 6, 7] rfl
      have hD9 := h.2.2.1.sub (ws' := [(o5, .inr (5, [.ref a5_0, .ref a5_1, .ref a5_2, .ref a5_3, .ref a5_4, .ref a5_5, .ref a5_6])), (a5_0, .inl (c5_0, 12, .inl (upd f5_0 p0.toNatClampNeg ((f5_0 p0.toNatClampNeg) + 1)))), (a5_1, .inl (c5_1, 120, .inl (upd f5_1 ((p0 * 10 + (f5_0 p0.toNatClampNeg)).toNatClampNeg) p1))), (a5_2, .inl (c5_2, 120, .inl (upd f5_2 ((p0 * 10 + (f5_0 p0.toNatClampNeg)).toNatClampNeg) (-1)))), (a5_3, .inl (c5_3, 120, .inl (upd f5_3 ((p0 * 10 + (f5_0 p0.toNatClampNeg)).toNatClampNeg) p3))), (a5_4, .inl (c5_4, 120, .inl (upd f5_4 ((p0 * 10 + (f5_0 p0.toNatClampNeg)).toNatClampNeg) p4))), (a5_5, .inl (c5_5, 120, .inl (upd f5_5 ((p0 * 10 + (f5_0 p0.toNatClampNeg)).toNatClampNeg) r_9))), (a5_6, .inl (c5_6, 120, .inl (upd f5_6 ((p0 * 10 + (f5_0 p0.toNatClampNeg)).toNatClampNeg) r_10)))]) [0, 1, 2, 3, 4, 5, 6, 7] (by decide) rfl
      exact W.vret hx hb hr (fun t ht hW => ⟨⟨(upd f5_1 ((p0 * 10 + (f5_0 p0.toNatClampNeg)).toNatClampNeg) p1, upd f5_2 ((p0 * 10 + (f5_0 p0.toNatClampNeg)).toNatClampNeg) (-1), upd f5_3 ((p0 * 10 + (f5_0 p0.toNatClampNeg)).toNatClampNeg) p3, upd f5_4 ((p0 * 10 + (f5_0 p0.toNatClampNeg)).toNatClampNeg) p4, upd f5_5 ((p0 * 10 + (f5_0 p0.toNatClampNeg)).toNatClampNeg) r_9, upd f5_6 ((p0 * 10 + (f5_0 p0.toNatClampNeg)).toNatClampNeg) r_10), rfl, (by refine IR_upd hR (kAct_of hok ?_ ?_) <;> first | exact Or.inl rfl | exact Or.inr (kTabD_0 hk (by assumption)) | exact Or.inr (kTabY_0 hk (by assumption))), (by rw [ht]; exact hP9), hD9⟩, h.2.2.2.1.F ht⟩) h.2.2.2.1.2.2 dX5_add_107 hlocks
    · skip
      have i_8 : (kTabY p1.toNatClampNeg).toInt = 0 := (fa_eq _ _).mp c_8
      refine lv_iconst (v := -1) hx hb dX5_add_63 (by decide) ?_
      refine lv_goto (tgt := 69) hx hb dX5_add_64 (by decide) ?_
      refine k_iast (j := (p0 * 10 + (f5_0 p0.toNatClampNeg)).toNatClampNeg) (ws' := [(o5, .inr (5, [.ref a5_0, .ref a5_1, .ref a5_2, .ref a5_3, .ref a5_4, .ref a5_5, .ref a5_6])), (a5_0, .inl (c5_0, 12, .inl f5_0)), (a5_1, .inl (c5_1, 120, .inl (upd f5_1 ((p0 * 10 + (f5_0 p0.toNatClampNeg)).toNatClampNeg) p1))), (a5_2, .inl (c5_2, 120, .inl (upd f5_2 ((p0 * 10 + (f5_0 p0.toNatClampNeg)).toNatClampNeg) (-1)))), (a5_3, .inl (c5_3, 120, .inl (upd f5_3 ((p0 * 10 + (f5_0 p0.toNatClampNeg)).toNatClampNeg) p3))), (a5_4, .inl (c5_4, 120, .inl (upd f5_4 ((p0 * 10 + (f5_0 p0.toNatClampNeg)).toNatClampNeg) (-1)))), (a5_5, .inl (c5_5, 120, .inl f5_5)), (a5_6, .inl (c5_6, 120, .inl f5_6))]) E h 5 4 rfl rfl (vp_in_iff.mpr (by omega)) rfl rfl dX5_add_69 (fun H locs h => ?_)
      refine lv_aload_n hx hb dX5_add_70 rfl (lv_at hl 1 rfl) ?_
      refine k_get (v := .ref a5_5) E h (fun w h => List.mem_cons_of_mem _ (List.mem_append_right _ h)) 0 rfl rfl 5 (by decide) (List.mem_of_getElem? (i := 6) rfl) rfl dX5_add_71 ?_
      refine lv_iload hx hb dX5_add_74 (lv_at hl 0 rfl) ?_
      refine lv_iload_n hx hb dX5_add_76 rfl (lv_at hl 3 rfl) ?_
      refine lv_iload hx hb dX5_add_77 (lv_at hl 5 rfl) ?_
      refine lv_iload hx hb dX5_add_79 (lv_at hl 6 rfl) ?_
      refine kc_i (wc := []) (wr := [(o5, .inr (5, [.ref a5_0, .ref a5_1, .ref a5_2, .ref a5_3, .ref a5_4, .ref a5_5, .ref a5_6])), (a5_0, .inl (c5_0, 12, .inl f5_0)), (a5_1, .inl (c5_1, 120, .inl (upd f5_1 ((p0 * 10 + (f5_0 p0.toNatClampNeg)).toNatClampNeg) p1))), (a5_2, .inl (c5_2, 120, .inl (upd f5_2 ((p0 * 10 + (f5_0 p0.toNatClampNeg)).toNatClampNeg) (-1)))), (a5_3, .inl (c5_3, 120, .inl (upd f5_3 ((p0 * 10 + (f5_0 p0.toNatClampNeg)).toNatClampNeg) p3))), (a5_4, .inl (c5_4, 120, .inl (upd f5_4 ((p0 * 10 + (f5_0 p0.toNatClampNeg)).toNatClampNeg) (-1)))), (a5_5, .inl (c5_5, 120, .inl f5_5)), (a5_6, .inl (c5_6, 120, .inl f5_6))]) h (va_runS (As := [.int p1, .int p3, .int p4]) (rest := [.int (p0 * 10 + (f5_0 p0.toNatClampNeg)), .ref a5_5]) E (c_X5_readsOf l dC dI _ (p0 := p1) (p1 := p3) (p2 := p4)  (hp := (by first | decide | omega))) (va_cwS 3 E.2.2.2.2 gX5_add_X5_readsOf rfl rfl rfl (by decide +kernel) ⟨Nat.le_of_ble_eq_true rfl, Nat.le_of_ble_eq_true rfl⟩) (kPreS h KAll.blind (KAll.call hX h [] rfl) [] [] (by decide) rfl rfl) rfl rfl hl.1 rfl (lv_room (Nat.le_of_ble_eq_true rfl)) dX5_add_81 ⟨Nat.le_of_ble_eq_true rfl, Nat.le_of_ble_eq_true rfl⟩) [] [0, 1, 2, 3, 4, 5, 6, 7] rfl rfl (by decide) (by decide) (fun r_11 u_11 H locs hw_11 h => ?_)
      have h : KS (dC, dI) A [(o5, .inr (5, [.ref a5_0, .ref a5_1, .ref a5_2, .ref a5_3, .ref a5_4, .ref a5_5, .ref a5_6])), (a5_0, .inl (c5_0, 12, .inl f5_0)), (a5_1, .inl (c5_1, 120, .inl (upd f5_1 ((p0 * 10 + (f5_0 p0.toNatClampNeg)).toNatClampNeg) p1))), (a5_2, .inl (c5_2, 120, .inl (upd f5_2 ((p0 * 10 + (f5_0 p0.toNatClampNeg)).toNatClampNeg) (-1)))), (a5_3, .inl (c5_3, 120, .inl (upd f5_3 ((p0 * 10 + (f5_0 p0.toNatClampNeg)).toNatClampNeg) p3))), (a5_4, .inl (c5_4, 120, .inl (upd f5_4 ((p0 * 10 + (f5_0 p0.toNatClampNeg)).toNatClampNeg) (-1)))), (a5_5, .inl (c5_5, 120, .inl f5_5)), (a5_6, .inl (c5_6, 120, .inl f5_6))] [(c5_0, .int), (c5_1, .int), (c5_2, .int), (c5_3, .int), (c5_4, .int), (c5_5, .int), (c5_6, .int)] s H locs := h
      refine W.eq (g2 := F0 m 84 ls [.int r_11, .int (p0 * 10 + (f5_0 p0.toNatClampNeg)), .ref a5_5]) rfl ?_
      refine k_iast (j := (p0 * 10 + (f5_0 p0.toNatClampNeg)).toNatClampNeg) (ws' := [(o5, .inr (5, [.ref a5_0, .ref a5_1, .ref a5_2, .ref a5_3, .ref a5_4, .ref a5_5, .ref a5_6])), (a5_0, .inl (c5_0, 12, .inl f5_0)), (a5_1, .inl (c5_1, 120, .inl (upd f5_1 ((p0 * 10 + (f5_0 p0.toNatClampNeg)).toNatClampNeg) p1))), (a5_2, .inl (c5_2, 120, .inl (upd f5_2 ((p0 * 10 + (f5_0 p0.toNatClampNeg)).toNatClampNeg) (-1)))), (a5_3, .inl (c5_3, 120, .inl (upd f5_3 ((p0 * 10 + (f5_0 p0.toNatClampNeg)).toNatClampNeg) p3))), (a5_4, .inl (c5_4, 120, .inl (upd f5_4 ((p0 * 10 + (f5_0 p0.toNatClampNeg)).toNatClampNeg) (-1)))), (a5_5, .inl (c5_5, 120, .inl (upd f5_5 ((p0 * 10 + (f5_0 p0.toNatClampNeg)).toNatClampNeg) r_11))), (a5_6, .inl (c5_6, 120, .inl f5_6))]) E h 6 5 rfl rfl (vp_in_iff.mpr (by omega)) rfl rfl dX5_add_84 (fun H locs h => ?_)
      refine lv_aload_n hx hb dX5_add_85 rfl (lv_at hl 1 rfl) ?_
      refine k_get (v := .ref a5_6) E h (fun w h => List.mem_cons_of_mem _ (List.mem_append_right _ h)) 0 rfl rfl 6 (by decide) (List.mem_of_getElem? (i := 7) rfl) rfl dX5_add_86 ?_
      refine lv_iload hx hb dX5_add_89 (lv_at hl 0 rfl) ?_
      refine lv_iload_n hx hb dX5_add_91 rfl (lv_at hl 3 rfl) ?_
      refine lv_iload_n hx hb dX5_add_92 rfl (lv_at hl 4 rfl) ?_
      refine kc_i (wc := []) (wr := [(o5, .inr (5, [.ref a5_0, .ref a5_1, .ref a5_2, .ref a5_3, .ref a5_4, .ref a5_5, .ref a5_6])), (a5_0, .inl (c5_0, 12, .inl f5_0)), (a5_1, .inl (c5_1, 120, .inl (upd f5_1 ((p0 * 10 + (f5_0 p0.toNatClampNeg)).toNatClampNeg) p1))), (a5_2, .inl (c5_2, 120, .inl (upd f5_2 ((p0 * 10 + (f5_0 p0.toNatClampNeg)).toNatClampNeg) (-1)))), (a5_3, .inl (c5_3, 120, .inl (upd f5_3 ((p0 * 10 + (f5_0 p0.toNatClampNeg)).toNatClampNeg) p3))), (a5_4, .inl (c5_4, 120, .inl (upd f5_4 ((p0 * 10 + (f5_0 p0.toNatClampNeg)).toNatClampNeg) (-1)))), (a5_5, .inl (c5_5, 120, .inl (upd f5_5 ((p0 * 10 + (f5_0 p0.toNatClampNeg)).toNatClampNeg) r_11))), (a5_6, .inl (c5_6, 120, .inl f5_6))]) h (va_runS (As := [.int p1, .int p2]) (rest := [.int (p0 * 10 + (f5_0 p0.toNatClampNeg)), .ref a5_6]) E (c_X5_writesOf l dC dI _ (p0 := p1) (p1 := p2)  (hp := (by first | decide | omega))) (va_cwS 2 E.2.2.2.2 gX5_add_X5_writesOf rfl rfl rfl (by decide +kernel) ⟨Nat.le_of_ble_eq_true rfl, Nat.le_of_ble_eq_true rfl⟩) (kPreS h KAll.blind (KAll.call hX h [] rfl) [] [] (by decide) rfl rfl) rfl rfl hl.1 rfl (lv_room (Nat.le_of_ble_eq_true rfl)) dX5_add_93 ⟨Nat.le_of_ble_eq_true rfl, Nat.le_of_ble_eq_true rfl⟩) [] [0, 1, 2, 3, 4, 5, 6, 7] rfl rfl (by decide) (by decide) (fun r_12 u_12 H locs hw_12 h => ?_)
      have h : KS (dC, dI) A [(o5, .inr (5, [.ref a5_0, .ref a5_1, .ref a5_2, .ref a5_3, .ref a5_4, .ref a5_5, .ref a5_6])), (a5_0, .inl (c5_0, 12, .inl f5_0)), (a5_1, .inl (c5_1, 120, .inl (upd f5_1 ((p0 * 10 + (f5_0 p0.toNatClampNeg)).toNatClampNeg) p1))), (a5_2, .inl (c5_2, 120, .inl (upd f5_2 ((p0 * 10 + (f5_0 p0.toNatClampNeg)).toNatClampNeg) (-1)))), (a5_3, .inl (c5_3, 120, .inl (upd f5_3 ((p0 * 10 + (f5_0 p0.toNatClampNeg)).toNatClampNeg) p3))), (a5_4, .inl (c5_4, 120, .inl (upd f5_4 ((p0 * 10 + (f5_0 p0.toNatClampNeg)).toNatClampNeg) (-1)))), (a5_5, .inl (c5_5, 120, .inl (upd f5_5 ((p0 * 10 + (f5_0 p0.toNatClampNeg)).toNatClampNeg) r_11))), (a5_6, .inl (c5_6, 120, .inl f5_6))] [(c5_0, .int), (c5_1, .int), (c5_2, .int), (c5_3, .int), (c5_4, .int), (c5_5, .int), (c5_6, .int)] s H locs := h
      refine W.eq (g2 := F0 m 96 ls [.int r_12, .int (p0 * 10 + (f5_0 p0.toNatClampNeg)), .ref a5_6]) rfl ?_
      refine k_iast (j := (p0 * 10 + (f5_0 p0.toNatClampNeg)).toNatClampNeg) (ws' := [(o5, .inr (5, [.ref a5_0, .ref a5_1, .ref a5_2, .ref a5_3, .ref a5_4, .ref a5_5, .ref a5_6])), (a5_0, .inl (c5_0, 12, .inl f5_0)), (a5_1, .inl (c5_1, 120, .inl (upd f5_1 ((p0 * 10 + (f5_0 p0.toNatClampNeg)).toNatClampNeg) p1))), (a5_2, .inl (c5_2, 120, .inl (upd f5_2 ((p0 * 10 + (f5_0 p0.toNatClampNeg)).toNatClampNeg) (-1)))), (a5_3, .inl (c5_3, 120, .inl (upd f5_3 ((p0 * 10 + (f5_0 p0.toNatClampNeg)).toNatClampNeg) p3))), (a5_4, .inl (c5_4, 120, .inl (upd f5_4 ((p0 * 10 + (f5_0 p0.toNatClampNeg)).toNatClampNeg) (-1)))), (a5_5, .inl (c5_5, 120, .inl (upd f5_5 ((p0 * 10 + (f5_0 p0.toNatClampNeg)).toNatClampNeg) r_11))), (a5_6, .inl (c5_6, 120, .inl (upd f5_6 ((p0 * 10 + (f5_0 p0.toNatClampNeg)).toNatClampNeg) r_12)))]) E h 7 6 rfl rfl (vp_in_iff.mpr (by omega)) rfl rfl dX5_add_96 (fun H locs h => ?_)
      refine lv_aload_n hx hb dX5_add_97 rfl (lv_at hl 1 rfl) ?_
      refine k_get (v := .ref a5_0) E h (fun w h => List.mem_cons_of_mem _ (List.mem_append_right _ h)) 0 rfl rfl 0 (by decide) (List.mem_of_getElem? (i := 1) rfl) rfl dX5_add_98 ?_
      refine lv_iload_n hx hb dX5_add_101 rfl (lv_at hl 2 rfl) ?_
      refine lv_dup2_11 hx hb dX5_add_102 rfl rfl ?_
      refine k_iald (v := f5_0 p0.toNatClampNeg) E h 1 0 rfl rfl (vp_in_iff.mpr (by omega)) rfl dX5_add_103 ?_
      refine lv_iconst (v := 1) hx hb dX5_add_104 (by decide) ?_
      refine lv_iadd hx hb dX5_add_105 ?_
      refine k_iast (j := p0.toNatClampNeg) (ws' := [(o5, .inr (5, [.ref a5_0, .ref a5_1, .ref a5_2, .ref a5_3, .ref a5_4, .ref a5_5, .ref a5_6])), (a5_0, .inl (c5_0, 12, .inl (upd f5_0 p0.toNatClampNeg ((f5_0 p0.toNatClampNeg) + 1)))), (a5_1, .inl (c5_1, 120, .inl (upd f5_1 ((p0 * 10 + (f5_0 p0.toNatClampNeg)).toNatClampNeg) p1))), (a5_2, .inl (c5_2, 120, .inl (upd f5_2 ((p0 * 10 + (f5_0 p0.toNatClampNeg)).toNatClampNeg) (-1)))), (a5_3, .inl (c5_3, 120, .inl (upd f5_3 ((p0 * 10 + (f5_0 p0.toNatClampNeg)).toNatClampNeg) p3))), (a5_4, .inl (c5_4, 120, .inl (upd f5_4 ((p0 * 10 + (f5_0 p0.toNatClampNeg)).toNatClampNeg) (-1)))), (a5_5, .inl (c5_5, 120, .inl (upd f5_5 ((p0 * 10 + (f5_0 p0.toNatClampNeg)).toNatClampNeg) r_11))), (a5_6, .inl (c5_6, 120, .inl (upd f5_6 ((p0 * 10 + (f5_0 p0.toNatClampNeg)).toNatClampNeg) r_12)))]) E h 1 0 rfl rfl (vp_in_iff.mpr (by omega)) rfl rfl dX5_add_106 (fun H locs h => ?_)
      have hP9 := h.2.1.sub [0, 1, 2, 3, 4, 5, 6, 7] rfl
      have hD9 := h.2.2.1.sub (ws' := [(o5, .inr (5, [.ref a5_0, .ref a5_1, .ref a5_2, .ref a5_3, .ref a5_4, .ref a5_5, .ref a5_6])), (a5_0, .inl (c5_0, 12, .inl (upd f5_0 p0.toNatClampNeg ((f5_0 p0.toNatClampNeg) + 1)))), (a5_1, .inl (c5_1, 120, .inl (upd f5_1 ((p0 * 10 + (f5_0 p0.toNatClampNeg)).toNatClampNeg) p1))), (a5_2, .inl (c5_2, 120, .inl (upd f5_2 ((p0 * 10 + (f5_0 p0.toNatClampNeg)).toNatClampNeg) (-1)))), (a5_3, .inl (c5_3, 120, .inl (upd f5_3 ((p0 * 10 + (f5_0 p0.toNatClampNeg)).toNatClampNeg) p3))), (a5_4, .inl (c5_4, 120, .inl (upd f5_4 ((p0 * 10 + (f5_0 p0.toNatClampNeg)).toNatClampNeg) (-1)))), (a5_5, .inl (c5_5, 120, .inl (upd f5_5 ((p0 * 10 + (f5_0 p0.toNatClampNeg)).toNatClampNeg) r_11))), (a5_6, .inl (c5_6, 120, .inl (upd f5_6 ((p0 * 10 + (f5_0 p0.toNatClampNeg)).toNatClampNeg) r_12)))]) [0, 1, 2, 3, 4, 5, 6, 7] (by decide) rfl
      exact W.vret hx hb hr (fun t ht hW => ⟨⟨(upd f5_1 ((p0 * 10 + (f5_0 p0.toNatClampNeg)).toNatClampNeg) p1, upd f5_2 ((p0 * 10 + (f5_0 p0.toNatClampNeg)).toNatClampNeg) (-1), upd f5_3 ((p0 * 10 + (f5_0 p0.toNatClampNeg)).toNatClampNeg) p3, upd f5_4 ((p0 * 10 + (f5_0 p0.toNatClampNeg)).toNatClampNeg) (-1), upd f5_5 ((p0 * 10 + (f5_0 p0.toNatClampNeg)).toNatClampNeg) r_11, upd f5_6 ((p0 * 10 + (f5_0 p0.toNatClampNeg)).toNatClampNeg) r_12), rfl, (by refine IR_upd hR (kAct_of hok ?_ ?_) <;> first | exact Or.inl rfl | exact Or.inr (kTabD_0 hk (by assumption)) | exact Or.inr (kTabY_0 hk (by assumption))), (by rw [ht]; exact hP9), hD9⟩, h.2.2.2.1.F ht⟩) h.2.2.2.1.2.2 dX5_add_107 hlocks
