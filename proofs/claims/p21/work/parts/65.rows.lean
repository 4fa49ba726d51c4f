/-- v is of the sort s -/
def kSort (s v : Int32) : Bool := decide (s.toInt = 0 ∨ ((kTabL s.toNatClampNeg).toInt ≤ v.toInt ∧ v.toInt ≤ (kTabM s.toNatClampNeg).toInt))
/-- which numbers make an ACT -/
def kActOK (k d x y : Int32) : Bool := decide ((0 ≤ k.toInt ∧ k.toInt ≤ 10) ∧ (7 < k.toInt ∨ (0 ≤ d.toInt ∧ d.toInt < 8)) ∧ (¬ k.toInt = 0 ∨ (0 ≤ x.toInt ∧ x.toInt ≤ 255)) ∧ (k.toInt < 9 ∨ (0 ≤ x.toInt ∧ x.toInt ≤ 1)) ∧ (k.toInt < 1 ∨ 8 < k.toInt ∨ (0 ≤ x.toInt ∧ x.toInt < 8)) ∧ (¬ k.toInt = 6 ∨ (-31 ≤ y.toInt ∧ y.toInt ≤ 31)) ∧ (k.toInt < 9 ∨ (0 ≤ y.toInt ∧ y.toInt ≤ 1)) ∧ (k.toInt < 2 ∨ k.toInt = 6 ∨ k.toInt = 7 ∨ 8 < k.toInt ∨ (0 ≤ y.toInt ∧ y.toInt < 8)))
theorem kSort_0 (v : Int32) : kSort 0 v = true := rfl
theorem kSort_1 (v : Int32) : kSort 1 v = decide (0 ≤ v.toInt ∧ v.toInt < 8) := by
  unfold kSort
  have e1 : (kTabL (1 : Int32).toNatClampNeg).toInt = 0 := by decide
  have e2 : (kTabM (1 : Int32).toNatClampNeg).toInt = 7 := by decide
  have e3 : (1 : Int32).toInt = 1 := by decide
  rw [e1, e2, e3, decide_eq_decide]
  omega
theorem kSort_2 (v : Int32) : kSort 2 v = decide (0 ≤ v.toInt ∧ v.toInt ≤ 255) := by
  unfold kSort
  have e1 : (kTabL (2 : Int32).toNatClampNeg).toInt = 0 := by decide
  have e2 : (kTabM (2 : Int32).toNatClampNeg).toInt = 255 := by decide
  have e3 : (2 : Int32).toInt = 2 := by decide
  rw [e1, e2, e3, decide_eq_decide]
  omega
theorem kSort_3 (v : Int32) : kSort 3 v = decide (-31 ≤ v.toInt ∧ v.toInt ≤ 31) := by
  unfold kSort
  have e1 : (kTabL (3 : Int32).toNatClampNeg).toInt = -31 := by decide
  have e2 : (kTabM (3 : Int32).toNatClampNeg).toInt = 31 := by decide
  have e3 : (3 : Int32).toInt = 3 := by decide
  rw [e1, e2, e3, decide_eq_decide]
  omega
theorem kSort_4 (v : Int32) : kSort 4 v = decide (0 ≤ v.toInt ∧ v.toInt ≤ 1) := by
  unfold kSort
  have e1 : (kTabL (4 : Int32).toNatClampNeg).toInt = 0 := by decide
  have e2 : (kTabM (4 : Int32).toNatClampNeg).toInt = 1 := by decide
  have e3 : (4 : Int32).toInt = 4 := by decide
  rw [e1, e2, e3, decide_eq_decide]
  omega
theorem kcl {k : Int32} {n : Nat} (h : k.toInt = n) : k.toNatClampNeg = n := by
  unfold Int32.toNatClampNeg
  omega
theorem kAct_iff {k d x y : Int32} (h0 : 0 ≤ k.toInt) (h1 : k.toInt < 11) : kActOK k d x y = true ↔ (kSort (kTabD k.toNatClampNeg) d = true ∧ kSort (kTabX k.toNatClampNeg) x = true ∧ kSort (kTabY k.toNatClampNeg) y = true) := by
  have hk : k.toInt = 0 ∨ k.toInt = 1 ∨ k.toInt = 2 ∨ k.toInt = 3 ∨ k.toInt = 4 ∨ k.toInt = 5 ∨ k.toInt = 6 ∨ k.toInt = 7 ∨ k.toInt = 8 ∨ k.toInt = 9 ∨ k.toInt = 10 := by omega
  have main : ∀ (n : Nat) (a b c : Int32), k.toInt = n → kTabD n = a → kTabX n = b → kTabY n = c → (kActOK k d x y = true ↔ (kSort a d = true ∧ kSort b x = true ∧ kSort c y = true)) → (kActOK k d x y = true ↔ (kSort (kTabD k.toNatClampNeg) d = true ∧ kSort (kTabX k.toNatClampNeg) x = true ∧ kSort (kTabY k.toNatClampNeg) y = true)) := by
    intro n a b c hn ha hb hc hh
    rw [kcl hn, ha, hb, hc]
    exact hh
  rcases hk with e | e | e | e | e | e | e | e | e | e | e
  · exact main 0 1 2 0 e rfl rfl rfl (by rw [kSort_1, kSort_2, kSort_0]; simp only [kActOK, e, decide_eq_true_eq, eq_self, true_and, and_true, not_true_eq_false, false_or, or_false, true_or, or_true]; omega)
  · exact main 1 1 1 0 e rfl rfl rfl (by rw [kSort_1, kSort_1, kSort_0]; simp only [kActOK, e, decide_eq_true_eq, eq_self, true_and, and_true, not_true_eq_false, false_or, or_false, true_or, or_true]; omega)
  · exact main 2 1 1 1 e rfl rfl rfl (by rw [kSort_1, kSort_1, kSort_1]; simp only [kActOK, e, decide_eq_true_eq, eq_self, true_and, and_true, not_true_eq_false, false_or, or_false, true_or, or_true]; omega)
  · exact main 3 1 1 1 e rfl rfl rfl (by rw [kSort_1, kSort_1, kSort_1]; simp only [kActOK, e, decide_eq_true_eq, eq_self, true_and, and_true, not_true_eq_false, false_or, or_false, true_or, or_true]; omega)
  · exact main 4 1 1 1 e rfl rfl rfl (by rw [kSort_1, kSort_1, kSort_1]; simp only [kActOK, e, decide_eq_true_eq, eq_self, true_and, and_true, not_true_eq_false, false_or, or_false, true_or, or_true]; omega)
  · exact main 5 1 1 1 e rfl rfl rfl (by rw [kSort_1, kSort_1, kSort_1]; simp only [kActOK, e, decide_eq_true_eq, eq_self, true_and, and_true, not_true_eq_false, false_or, or_false, true_or, or_true]; omega)
  · exact main 6 1 1 3 e rfl rfl rfl (by rw [kSort_1, kSort_1, kSort_3]; simp only [kActOK, e, decide_eq_true_eq, eq_self, true_and, and_true, not_true_eq_false, false_or, or_false, true_or, or_true]; omega)
  · exact main 7 1 1 0 e rfl rfl rfl (by rw [kSort_1, kSort_1, kSort_0]; simp only [kActOK, e, decide_eq_true_eq, eq_self, true_and, and_true, not_true_eq_false, false_or, or_false, true_or, or_true]; omega)
  · exact main 8 0 1 1 e rfl rfl rfl (by rw [kSort_0, kSort_1, kSort_1]; simp only [kActOK, e, decide_eq_true_eq, eq_self, true_and, and_true, not_true_eq_false, false_or, or_false, true_or, or_true]; omega)
  · exact main 9 0 4 4 e rfl rfl rfl (by rw [kSort_0, kSort_4, kSort_4]; simp only [kActOK, e, decide_eq_true_eq, eq_self, true_and, and_true, not_true_eq_false, false_or, or_false, true_or, or_true]; omega)
  · exact main 10 0 4 4 e rfl rfl rfl (by rw [kSort_0, kSort_4, kSort_4]; simp only [kActOK, e, decide_eq_true_eq, eq_self, true_and, and_true, not_true_eq_false, false_or, or_false, true_or, or_true]; omega)
theorem kTabD_in (j : Nat) : 0 ≤ (kTabD j).toInt ∧ (kTabD j).toInt < 5 := by
  by_cases h : j < 11
  · exact (show ∀ i : Fin 11, 0 ≤ (kTabD i.val).toInt ∧ (kTabD i.val).toInt < 5 by decide) ⟨j, h⟩
  · have e : kTabD j = 0 := by
      unfold kTabD
      rw [List.getD_eq_getElem?_getD, List.getElem?_eq_none (by simp; omega)]
      rfl
    rw [e]
    decide
theorem kTabX_in (j : Nat) : 0 ≤ (kTabX j).toInt ∧ (kTabX j).toInt < 5 := by
  by_cases h : j < 11
  · exact (show ∀ i : Fin 11, 0 ≤ (kTabX i.val).toInt ∧ (kTabX i.val).toInt < 5 by decide) ⟨j, h⟩
  · have e : kTabX j = 0 := by
      unfold kTabX
      rw [List.getD_eq_getElem?_getD, List.getElem?_eq_none (by simp; omega)]
      rfl
    rw [e]
    decide
theorem kTabY_in (j : Nat) : 0 ≤ (kTabY j).toInt ∧ (kTabY j).toInt < 5 := by
  by_cases h : j < 11
  · exact (show ∀ i : Fin 11, 0 ≤ (kTabY i.val).toInt ∧ (kTabY i.val).toInt < 5 by decide) ⟨j, h⟩
  · have e : kTabY j = 0 := by
      unfold kTabY
      rw [List.getD_eq_getElem?_getD, List.getElem?_eq_none (by simp; omega)]
      rfl
    rw [e]
    decide
theorem kAct_of {k d x y : Int32} (h : kActOK k d x y = true) {d2 y2 : Int32} (hd : d2 = d ∨ 7 < k.toInt) (hy : y2 = y ∨ k.toInt < 2 ∨ k.toInt = 7) : kAct k d2 x y2 := by
  simp only [kActOK, decide_eq_true_eq] at h
  obtain ⟨h1, h2, h3, h4, h5, h6, h7, h8⟩ := h
  refine ⟨h1, ?_, ?_, h4, ?_, ?_⟩
  · rcases hd with e | e
    · rw [e]; exact h2
    · exact Or.inl e
  · rcases h5 with e | e | e
    · exact Or.inl (by omega)
    · exact Or.inr (Or.inl e)
    · exact Or.inr (Or.inr e)
  · rcases hy with e | e | e
    · rw [e]
      rcases h8 with z | z | z | z | z
      · exact Or.inl z
      · exact Or.inr (Or.inl z)
      · exact Or.inr (Or.inr (Or.inl z))
      · exact Or.inr (Or.inr (Or.inr (Or.inl z)))
      · exact Or.inr (Or.inr (Or.inr (Or.inr z)))
    · exact Or.inl e
    · exact Or.inr (Or.inr (Or.inl e))
  · rcases hy with e | e | e
    · rw [e]; exact h6
    · exact Or.inl (by omega)
    · exact Or.inl (by omega)
theorem IR_upd {k d x y : Nat → Int32} {j : Nat} {a b c e : Int32} (h : IR k d x y) (hn : kAct a b c e) : IR (upd k j a) (upd d j b) (upd x j c) (upd y j e) := by
  intro i hi
  unfold upd
  by_cases q : i = j
  · simp only [q, if_true]
    exact hn
  · simp only [q, if_false]
    exact h i hi
theorem kTabD_0 {k : Int32} (h0 : 0 ≤ k.toInt ∧ k.toInt < 11) (h : (kTabD k.toNatClampNeg).toInt = 0) : 7 < k.toInt := by
  have main : ∀ i : Fin 11, (kTabD i.val).toInt = 0 → 7 < i.val := by decide
  have hk : k.toNatClampNeg < 11 := by unfold Int32.toNatClampNeg; omega
  have z := main ⟨_, hk⟩ h
  unfold Int32.toNatClampNeg at z
  simp only at z
  omega
theorem kTabY_0 {k : Int32} (h0 : 0 ≤ k.toInt ∧ k.toInt < 11) (h : (kTabY k.toNatClampNeg).toInt = 0) : k.toInt < 2 ∨ k.toInt = 7 := by
  have main : ∀ i : Fin 11, (kTabY i.val).toInt = 0 → i.val < 2 ∨ i.val = 7 := by decide
  have hk : k.toNatClampNeg < 11 := by unfold Int32.toNatClampNeg; omega
  have z := main ⟨_, hk⟩ h
  unfold Int32.toNatClampNeg at z
  simp only at z
  omega
set_option maxHeartbeats 4000000 in
set_option maxRecDepth 100000 in
theorem c_X7_isOfSort (l : Launch) (dC : Nat → ClassId) (dI : Nat → Nat → Nat) (sz : Nat) (p0 : Int32) (p1 : Int32) (hp : 0 ≤ p0.toInt ∧ p0.toInt < 5) : Met l yX7_isOfSort wsX7_isOfSort ({ frames := 0, cells := 0, slots := 0, locals := 0 } : Room) (va_Pc [.int p0, .int p1] (KPre (dC, dI) [] [] sz (fun U => KAll (va_A [] sz) U))) (va_Qi (fun (r : Int32) (u : Unit) => r = if kSort p0 p1 = true then 1 else 0) (KPost (dC, dI) (va_A [] sz) (fun (u : Unit) => [])) (va_A [] sz)) 0 0 (va_A [] sz) := by
  refine kMet (y := yX7_isOfSort) (wsM := wsX7_isOfSort) (cc := cX7_isOfSort) (maxL := 2) (ret := (some .boolean)) (rm := ({ frames := 0, cells := 0, slots := 0, locals := 0 } : Room)) (mc := 0) (ms := 0) (av := [.int p0, .int p1]) (D := (dC, dI)) (wc := []) (tc := []) (sz := sz) (X := fun U => KAll (va_A [] sz) U) (Qc := fun A => va_Qi (fun (r : Int32) (u : Unit) => r = if kSort p0 p1 = true then 1 else 0) (KPost (dC, dI) A (fun (u : Unit) => [])) A) (by decide) rfl (Nat.le_of_ble_eq_true rfl) ?_
  intro p e s m below meth c A ls E hr hlocks hnm hsz hAe hX h hl
  have hx := E.1
  have hb := E.2.1
  have hl : lv_has ls 2 [(0, .int p0), (1, .int p1)] := hl
  have hX : KAll A s := by rw [← hAe]; exact hX
  obtain ⟨⟨tD, hZD, hTD⟩, ⟨tX, hZX, hTX⟩, ⟨tY, hZY, hTY⟩, ⟨tP, hZP, hTP⟩, ⟨tL, hZL, hTL⟩, ⟨tM, hZM, hTM⟩, hN0_134, hN0_60, hN0_96, hN1_83, hN1_87, hN3_49, hN3_52, hN4_44, hN4_69, hN5_33, hN6_102, hN6_67, hF37, hF40, hF50, hF53⟩ := id hX
  refine lv_iload_n hx hb dX7_isOfSort_0 rfl (lv_at hl 0 rfl) ?_
  refine lv_if_eq (tgt := 22) hx hb dX7_isOfSort_1 rfl (fun c_1 => ?_) (fun c_1 => ?_)
  · skip
    have i_1 : p0.toInt = 0 := (fa_eq _ _).mp c_1
    refine lv_iconst (v := 1) hx hb dX7_isOfSort_22 kic_1 ?_
    refine lv_goto (tgt := 27) hx hb dX7_isOfSort_23 rfl ?_
    have hP9 := h.2.1.sub [] rfl
    have hD9 := h.2.2.1.sub (ws' := []) [] (by decide) rfl
    exact W.zret (v := 1) hx hb hr (by decide) (fun t ht hW => ⟨⟨1, (), rfl, (by unfold kSort; simp only [decide_eq_true_eq]; (repeat' split) <;> first | (with_reducible rfl) | (exfalso; omega) | rfl | omega), (by rw [ht]; exact hP9), hD9⟩, h.2.2.2.1.F ht⟩) h.2.2.2.1.2.2 dX7_isOfSort_27 hlocks
  · skip
    have i_1 : ¬ p0.toInt = 0 := fun h9 => c_1 ((fa_eq _ _).mpr h9)
    refine lv_iload_n hx hb dX7_isOfSort_4 rfl (lv_at hl 1 rfl) ?_
    refine va_gets (v := .ref tL) hx hb hZL h.2.2.2.1 E.2.2.2.1 (E.2.2.2.2 _ (List.mem_of_getElem? (i := 1) rfl)) (fun _ h9 => h9) dX7_isOfSort_5 ?_
    refine lv_iload_n hx hb dX7_isOfSort_8 rfl (lv_at hl 0 rfl) ?_
    refine va_ti (v := .int (kTabL p0.toNatClampNeg)) hx hb hTL h.2.2.2.1 (vp_in_iff.mpr (by omega)) rfl dX7_isOfSort_9 ?_
    refine lv_icmp_lt (tgt := 26) hx hb dX7_isOfSort_10 rfl (fun c_2 => ?_) (fun c_2 => ?_)
    · skip
      have i_2 : p1.toInt < (kTabL p0.toNatClampNeg).toInt := (fa_lt _ _).mp c_2
      refine lv_iconst (v := 0) hx hb dX7_isOfSort_26 kic_0 ?_
      have hP9 := h.2.1.sub [] rfl
      have hD9 := h.2.2.1.sub (ws' := []) [] (by decide) rfl
      exact W.zret (v := 0) hx hb hr (by decide) (fun t ht hW => ⟨⟨0, (), rfl, (by unfold kSort; simp only [decide_eq_true_eq]; (repeat' split) <;> first | (with_reducible rfl) | (exfalso; omega) | rfl | omega), (by rw [ht]; exact hP9), hD9⟩, h.2.2.2.1.F ht⟩) h.2.2.2.1.2.2 dX7_isOfSort_27 hlocks
    · skip
      have i_2 : ¬ p1.toInt < (kTabL p0.toNatClampNeg).toInt := fun h9 => c_2 ((fa_lt _ _).mpr h9)
      refine lv_iload_n hx hb dX7_isOfSort_13 rfl (lv_at hl 1 rfl) ?_
      refine va_gets (v := .ref tM) hx hb hZM h.2.2.2.1 E.2.2.2.1 (E.2.2.2.2 _ (List.mem_of_getElem? (i := 2) rfl)) (fun _ h9 => h9) dX7_isOfSort_14 ?_
      refine lv_iload_n hx hb dX7_isOfSort_17 rfl (lv_at hl 0 rfl) ?_
      refine va_ti (v := .int (kTabM p0.toNatClampNeg)) hx hb hTM h.2.2.2.1 (vp_in_iff.mpr (by omega)) rfl dX7_isOfSort_18 ?_
      refine lv_icmp_gt (tgt := 26) hx hb dX7_isOfSort_19 rfl (fun c_3 => ?_) (fun c_3 => ?_)
      · skip
        have i_3 : (kTabM p0.toNatClampNeg).toInt < p1.toInt := (fa_lt _ _).mp c_3
        refine lv_iconst (v := 0) hx hb dX7_isOfSort_26 kic_0 ?_
        have hP9 := h.2.1.sub [] rfl
        have hD9 := h.2.2.1.sub (ws' := []) [] (by decide) rfl
        exact W.zret (v := 0) hx hb hr (by decide) (fun t ht hW => ⟨⟨0, (), rfl, (by unfold kSort; simp only [decide_eq_true_eq]; (repeat' split) <;> first | (with_reducible rfl) | (exfalso; omega) | rfl | omega), (by rw [ht]; exact hP9), hD9⟩, h.2.2.2.1.F ht⟩) h.2.2.2.1.2.2 dX7_isOfSort_27 hlocks
      · skip
        have i_3 : ¬ (kTabM p0.toNatClampNeg).toInt < p1.toInt := fun h9 => c_3 ((fa_lt _ _).mpr h9)
        refine lv_iconst (v := 1) hx hb dX7_isOfSort_22 kic_1 ?_
        refine lv_goto (tgt := 27) hx hb dX7_isOfSort_23 rfl ?_
        have hP9 := h.2.1.sub [] rfl
        have hD9 := h.2.2.1.sub (ws' := []) [] (by decide) rfl
        exact W.zret (v := 1) hx hb hr (by decide) (fun t ht hW => ⟨⟨1, (), rfl, (by unfold kSort; simp only [decide_eq_true_eq]; (repeat' split) <;> first | (with_reducible rfl) | (exfalso; omega) | rfl | omega), (by rw [ht]; exact hP9), hD9⟩, h.2.2.2.1.F ht⟩) h.2.2.2.1.2.2 dX7_isOfSort_27 hlocks
set_option maxHeartbeats 4000000 in
set_option maxRecDepth 100000 in
theorem c_X7_isAct (l : Launch) (dC : Nat → ClassId) (dI : Nat → Nat → Nat) (sz : Nat) (p0 : Int32) (p1 : Int32) (p2 : Int32) (p3 : Int32)  : Met l yX7_isAct wsX7_isAct ({ frames := 1, cells := 0, slots := 0, locals := 21 } : Room) (va_Pc [.int p0, .int p1, .int p2, .int p3] (KPre (dC, dI) [] [] sz (fun U => KAll (va_A [] sz) U))) (va_Qi (fun (r : Int32) (u : Unit) => r = if kActOK p0 p1 p2 p3 = true then 1 else 0) (KPost (dC, dI) (va_A [] sz) (fun (u : Unit) => [])) (va_A [] sz)) 0 0 (va_A [] sz) := by
  refine kMet (y := yX7_isAct) (wsM := wsX7_isAct) (cc := cX7_isAct) (maxL := 4) (ret := (some .boolean)) (rm := ({ frames := 1, cells := 0, slots := 0, locals := 21 } : Room)) (mc := 0) (ms := 0) (av := [.int p0, .int p1, .int p2, .int p3]) (D := (dC, dI)) (wc := []) (tc := []) (sz := sz) (X := fun U => KAll (va_A [] sz) U) (Qc := fun A => va_Qi (fun (r : Int32) (u : Unit) => r = if kActOK p0 p1 p2 p3 = true then 1 else 0) (KPost (dC, dI) A (fun (u : Unit) => [])) A) (by decide) rfl (Nat.le_of_ble_eq_true rfl) ?_
  intro p e s m below meth c A ls E hr hlocks hnm hsz hAe hX h hl
  have hx := E.1
  have hb := E.2.1
  have hl : lv_has ls 4 [(0, .int p0), (1, .int p1), (2, .int p2), (3, .int p3)] := hl
  have hX : KAll A s := by rw [← hAe]; exact hX
  obtain ⟨⟨tD, hZD, hTD⟩, ⟨tX, hZX, hTX⟩, ⟨tY, hZY, hTY⟩, ⟨tP, hZP, hTP⟩, ⟨tL, hZL, hTL⟩, ⟨tM, hZM, hTM⟩, hN0_134, hN0_60, hN0_96, hN1_83, hN1_87, hN3_49, hN3_52, hN4_44, hN4_69, hN5_33, hN6_102, hN6_67, hF37, hF40, hF50, hF53⟩ := id hX
  refine lv_iload_n hx hb dX7_isAct_0 rfl (lv_at hl 0 rfl) ?_
  refine lv_if_lt (tgt := 50) hx hb dX7_isAct_1 rfl (fun c_1 => ?_) (fun c_1 => ?_)
  · skip
    have i_1 : p0.toInt < 0 := (fa_lt _ _).mp c_1
    refine lv_iconst (v := 0) hx hb dX7_isAct_50 kic_0 ?_
    have hP9 := h.2.1.sub [] rfl
    have hD9 := h.2.2.1.sub (ws' := []) [] (by decide) rfl
    exact W.zret (v := 0) hx hb hr (by decide) (fun t ht hW => ⟨⟨0, (), rfl, (by split <;> first | (with_reducible rfl) | (rename_i q; exfalso; simp only [kActOK, decide_eq_true_eq] at q; omega) | rfl | (rename_i q; exfalso; have z := kAct_iff (k := p0) (d := p1) (x := p2) (y := p3) (by omega) (by omega); simp_all)), (by rw [ht]; exact hP9), hD9⟩, h.2.2.2.1.F ht⟩) h.2.2.2.1.2.2 dX7_isAct_51 hlocks
  · skip
    have i_1 : ¬ p0.toInt < 0 := fun h9 => c_1 ((fa_lt _ _).mpr h9)
    refine lv_iload_n hx hb dX7_isAct_4 rfl (lv_at hl 0 rfl) ?_
    refine lv_bipush (v := 11) hx hb dX7_isAct_5 kbi_11 ?_
    refine lv_icmp_ge (tgt := 50) hx hb dX7_isAct_7 rfl (fun c_2 => ?_) (fun c_2 => ?_)
    · skip
      have i_2 : 11 ≤ p0.toInt := (fa_le _ _).mp c_2
      refine lv_iconst (v := 0) hx hb dX7_isAct_50 kic_0 ?_
      have hP9 := h.2.1.sub [] rfl
      have hD9 := h.2.2.1.sub (ws' := []) [] (by decide) rfl
      exact W.zret (v := 0) hx hb hr (by decide) (fun t ht hW => ⟨⟨0, (), rfl, (by split <;> first | (with_reducible rfl) | (rename_i q; exfalso; simp only [kActOK, decide_eq_true_eq] at q; omega) | rfl | (rename_i q; exfalso; have z := kAct_iff (k := p0) (d := p1) (x := p2) (y := p3) (by omega) (by omega); simp_all)), (by rw [ht]; exact hP9), hD9⟩, h.2.2.2.1.F ht⟩) h.2.2.2.1.2.2 dX7_isAct_51 hlocks
    · skip
      have i_2 : ¬ 11 ≤ p0.toInt := fun h9 => c_2 ((fa_le _ _).mpr h9)
      refine va_gets (v := .ref tD) hx hb hZD h.2.2.2.1 E.2.2.2.1 (E.2.2.2.2 _ (List.mem_of_getElem? (i := 1) rfl)) (fun _ h9 => h9) dX7_isAct_10 ?_
      refine lv_iload_n hx hb dX7_isAct_13 rfl (lv_at hl 0 rfl) ?_
      refine va_ti (v := .int (kTabD p0.toNatClampNeg)) hx hb hTD h.2.2.2.1 (vp_in_iff.mpr (by omega)) rfl dX7_isAct_14 ?_
      refine lv_iload_n hx hb dX7_isAct_15 rfl (lv_at hl 1 rfl) ?_
      refine kc_i (wc := []) (wr := []) h (va_runS (As := [.int (kTabD p0.toNatClampNeg), .int p1]) (rest := []) E (c_X7_isOfSort l dC dI _ (p0 := kTabD p0.toNatClampNeg) (p1 := p1)  (hp := (kTabD_in _))) (va_cwS 2 E.2.2.2.2 gX7_isAct_X7_isOfSort rfl rfl rfl hdS_X7_isOfSort ⟨Nat.le_of_ble_eq_true rfl, Nat.le_of_ble_eq_true rfl⟩) (kPreS h KAll.blind (KAll.call hX h [] rfl) [] [] (by decide) rfl rfl) rfl rfl hl.1 rfl (lv_room (Nat.le_of_ble_eq_true rfl)) dX7_isAct_16 ⟨Nat.le_of_ble_eq_true rfl, Nat.le_of_ble_eq_true rfl⟩) [] [] rfl rfl (by decide) (by decide) (fun r_3 u_3 H locs hw_3 h => ?_)
      have h : KS (dC, dI) A [] [] s H locs := h
      have hw_3 : r_3 = if kSort (kTabD p0.toNatClampNeg) p1 = true then 1 else 0 := by first | exact hw_3 | (simp only [Int32.toInt_toInt64] at hw_3; exact hw_3)
      refine W.eq (g2 := F0 m 19 ls [.int r_3]) rfl ?_
      refine lv_if_eq (tgt := 50) hx hb dX7_isAct_19 rfl (fun c_4 => ?_) (fun c_4 => ?_)
      · skip
        have b_4 := kb0 hw_3 c_4
        refine lv_iconst (v := 0) hx hb dX7_isAct_50 kic_0 ?_
        have hP9 := h.2.1.sub [] rfl
        have hD9 := h.2.2.1.sub (ws' := []) [] (by decide) rfl
        exact W.zret (v := 0) hx hb hr (by decide) (fun t ht hW => ⟨⟨0, (), rfl, (by split <;> first | (with_reducible rfl) | (rename_i q; exfalso; simp only [kActOK, decide_eq_true_eq] at q; omega) | rfl | (rename_i q; exfalso; have z := kAct_iff (k := p0) (d := p1) (x := p2) (y := p3) (by omega) (by omega); simp_all)), (by rw [ht]; exact hP9), hD9⟩, h.2.2.2.1.F ht⟩) h.2.2.2.1.2.2 dX7_isAct_51 hlocks
      · skip
        have b_4 := kb1 hw_3 c_4
        refine va_gets (v := .ref tX) hx hb hZX h.2.2.2.1 E.2.2.2.1 (E.2.2.2.2 _ (List.mem_of_getElem? (i := 2) rfl)) (fun _ h9 => h9) dX7_isAct_22 ?_
        refine lv_iload_n hx hb dX7_isAct_25 rfl (lv_at hl 0 rfl) ?_
        refine va_ti (v := .int (kTabX p0.toNatClampNeg)) hx hb hTX h.2.2.2.1 (vp_in_iff.mpr (by omega)) rfl dX7_isAct_26 ?_
        refine lv_iload_n hx hb dX7_isAct_27 rfl (lv_at hl 2 rfl) ?_
        refine kc_i (wc := []) (wr := []) h (va_runS (As := [.int (kTabX p0.toNatClampNeg), .int p2]) (rest := []) E (c_X7_isOfSort l dC dI _ (p0 := kTabX p0.toNatClampNeg) (p1 := p2)  (hp := (kTabX_in _))) (va_cwS 2 E.2.2.2.2 gX7_isAct_X7_isOfSort rfl rfl rfl hdS_X7_isOfSort ⟨Nat.le_of_ble_eq_true rfl, Nat.le_of_ble_eq_true rfl⟩) (kPreS h KAll.blind (KAll.call hX h [] rfl) [] [] (by decide) rfl rfl) rfl rfl hl.1 rfl (lv_room (Nat.le_of_ble_eq_true rfl)) dX7_isAct_28 ⟨Nat.le_of_ble_eq_true rfl, Nat.le_of_ble_eq_true rfl⟩) [] [] rfl rfl (by decide) (by decide) (fun r_5 u_5 H locs hw_5 h => ?_)
        have h : KS (dC, dI) A [] [] s H locs := h
        have hw_5 : r_5 = if kSort (kTabX p0.toNatClampNeg) p2 = true then 1 else 0 := by first | exact hw_5 | (simp only [Int32.toInt_toInt64] at hw_5; exact hw_5)
        refine W.eq (g2 := F0 m 31 ls [.int r_5]) rfl ?_
        refine lv_if_eq (tgt := 50) hx hb dX7_isAct_31 rfl (fun c_6 => ?_) (fun c_6 => ?_)
        · skip
          have b_6 := kb0 hw_5 c_6
          refine lv_iconst (v := 0) hx hb dX7_isAct_50 kic_0 ?_
          have hP9 := h.2.1.sub [] rfl
          have hD9 := h.2.2.1.sub (ws' := []) [] (by decide) rfl
          exact W.zret (v := 0) hx hb hr (by decide) (fun t ht hW => ⟨⟨0, (), rfl, (by split <;> first | (with_reducible rfl) | (rename_i q; exfalso; simp only [kActOK, decide_eq_true_eq] at q; omega) | rfl | (rename_i q; exfalso; have z := kAct_iff (k := p0) (d := p1) (x := p2) (y := p3) (by omega) (by omega); simp_all)), (by rw [ht]; exact hP9), hD9⟩, h.2.2.2.1.F ht⟩) h.2.2.2.1.2.2 dX7_isAct_51 hlocks
        · skip
          have b_6 := kb1 hw_5 c_6
          refine va_gets (v := .ref tY) hx hb hZY h.2.2.2.1 E.2.2.2.1 (E.2.2.2.2 _ (List.mem_of_getElem? (i := 3) rfl)) (fun _ h9 => h9) dX7_isAct_34 ?_
          refine lv_iload_n hx hb dX7_isAct_37 rfl (lv_at hl 0 rfl) ?_
          refine va_ti (v := .int (kTabY p0.toNatClampNeg)) hx hb hTY h.2.2.2.1 (vp_in_iff.mpr (by omega)) rfl dX7_isAct_38 ?_
          refine lv_iload_n hx hb dX7_isAct_39 rfl (lv_at hl 3 rfl) ?_
          refine kc_i (wc := []) (wr := []) h (va_runS (As := [.int (kTabY p0.toNatClampNeg), .int p3]) (rest := []) E (c_X7_isOfSort l dC dI _ (p0 := kTabY p0.toNatClampNeg) (p1 := p3)  (hp := (kTabY_in _))) (va_cwS 2 E.2.2.2.2 gX7_isAct_X7_isOfSort rfl rfl rfl hdS_X7_isOfSort ⟨Nat.le_of_ble_eq_true rfl, Nat.le_of_ble_eq_true rfl⟩) (kPreS h KAll.blind (KAll.call hX h [] rfl) [] [] (by decide) rfl rfl) rfl rfl hl.1 rfl (lv_room (Nat.le_of_ble_eq_true rfl)) dX7_isAct_40 ⟨Nat.le_of_ble_eq_true rfl, Nat.le_of_ble_eq_true rfl⟩) [] [] rfl rfl (by decide) (by decide) (fun r_7 u_7 H locs hw_7 h => ?_)
          have h : KS (dC, dI) A [] [] s H locs := h
          have hw_7 : r_7 = if kSort (kTabY p0.toNatClampNeg) p3 = true then 1 else 0 := by first | exact hw_7 | (simp only [Int32.toInt_toInt64] at hw_7; exact hw_7)
          refine W.eq (g2 := F0 m 43 ls [.int r_7]) rfl ?_
          refine lv_if_eq (tgt := 50) hx hb dX7_isAct_43 rfl (fun c_8 => ?_) (fun c_8 => ?_)
          · skip
            have b_8 := kb0 hw_7 c_8
            refine lv_iconst (v := 0) hx hb dX7_isAct_50 kic_0 ?_
            have hP9 := h.2.1.sub [] rfl
            have hD9 := h.2.2.1.sub (ws' := []) [] (by decide) rfl
            exact W.zret (v := 0) hx hb hr (by decide) (fun t ht hW => ⟨⟨0, (), rfl, (by split <;> first | (with_reducible rfl) | (rename_i q; exfalso; simp only [kActOK, decide_eq_true_eq] at q; omega) | rfl | (rename_i q; exfalso; have z := kAct_iff (k := p0) (d := p1) (x := p2) (y := p3) (by omega) (by omega); simp_all)), (by rw [ht]; exact hP9), hD9⟩, h.2.2.2.1.F ht⟩) h.2.2.2.1.2.2 dX7_isAct_51 hlocks
          · skip
            have b_8 := kb1 hw_7 c_8
            refine lv_iconst (v := 1) hx hb dX7_isAct_46 kic_1 ?_
            refine lv_goto (tgt := 51) hx hb dX7_isAct_47 rfl ?_
            have hP9 := h.2.1.sub [] rfl
            have hD9 := h.2.2.1.sub (ws' := []) [] (by decide) rfl
            exact W.zret (v := 1) hx hb hr (by decide) (fun t ht hW => ⟨⟨1, (), rfl, (by split <;> first | (with_reducible rfl) | (rename_i q; exfalso; simp only [kActOK, decide_eq_true_eq] at q; omega) | rfl | (rename_i q; exfalso; have z := kAct_iff (k := p0) (d := p1) (x := p2) (y := p3) (by omega) (by omega); simp_all)), (by rw [ht]; exact hP9), hD9⟩, h.2.2.2.1.F ht⟩) h.2.2.2.1.2.2 dX7_isAct_51 hlocks