def kTabD : Nat → Int32 := fun j => ([1, 1, 1, 1, 1, 1, 1, 1, 0, 0, 0] : List Int32).getD j 0
def kTabX : Nat → Int32 := fun j => ([2, 1, 1, 1, 1, 1, 1, 1, 1, 4, 4] : List Int32).getD j 0
def kTabY : Nat → Int32 := fun j => ([0, 0, 1, 1, 1, 1, 3, 0, 1, 4, 4] : List Int32).getD j 0
def kTabP : Nat → Int32 := fun j => ([0, 0, 1, 1, 1, 1, 2, 3, 3, 4, 4] : List Int32).getD j 0
def kTabL : Nat → Int32 := fun j => ([0, 0, 0, -31, 0] : List Int32).getD j 0
def kTabM : Nat → Int32 := fun j => ([0, 7, 255, 31, 1] : List Int32).getD j 0
/-- a static table of the class: it holds f, and lies outside A -/
def KT (n : String) (N : Nat) (f : Nat → Int32) (A : Nat → Prop) (U : State) : Prop := ∃ t : Nat, va_Z "StepStore" n "[I" (.ref t) A U U.heap ∧ va_T .int t N (fun j => .int (f j)) A U U.heap
theorem KT.blind {n : String} {N : Nat} {f : Nat → Int32} {A : Nat → Prop} (a : Array Value) (U : State) (g : JFrame) (mk : MethodId) (h : KT n N f A U) : KT n N f A (U.calling g mk a) := by
  obtain ⟨t, hZ, hT⟩ := h
  exact ⟨t, va_Z.moved (u := U) (U := U.calling g mk a) (Vm.Alike.refl U.vm) hZ, va_T.moved (u := U) (U := U.calling g mk a) (Vm.Alike.refl U.vm) hT⟩
theorem KT.call {n : String} {N : Nat} {f : Nat → Int32} {A : Nat → Prop} {D : va_G} {ws wc : va_W} {tys : List (ClassId × FieldType)} {s : State} {H : Heap} {locs : List Loc} (hT : KT n N f A s) (h : KS D A ws tys s H locs) (isC : List Nat) (hC : isC.map (fun i => ws[i]?) = wc.map some) (U : State) (hU : U.heap = H) (hW : s.WarmedH U.vm) : KT n N f (va_A wc H.size) U := by
  have hFc := va_free (wc := wc) h.2.2.1 h.2.2.2.1 h.2.2.2.2 isC hC
  obtain ⟨t, hZ, hT⟩ := hT
  have hZ1 := va_Z.moved hW.alike (va_Z.kept (H1 := H) hZ (fun a ha hA => h.2.2.2.1.2.1 a ha hA))
  have hT1 := va_T.moved hW.alike (va_T.kept (H1 := H) hT (fun a ha hA => h.2.2.2.1.2.1 a ha hA))
  refine ⟨t, ?_, ?_⟩
  · rw [hU]
    obtain ⟨cf, kf, fi, fd, a, cell, h1, h2, h3, h4, h5, h6, h7, h8⟩ := hZ1
    exact ⟨cf, kf, fi, fd, a, cell, h1, h2, h3, h4, h5, h6, h7, fun q => h8 (hFc a q)⟩
  · rw [hU]
    exact va_T.narrow hT1 hFc
theorem KT.of {args : Array Value} {s : State} {n : String} {N : Nat} {f : Nat → Int32} {A : Nat → Prop} (hN : N < 2 ^ 31) (hl : (Cond.laysStatic "StepStore" n "[I").before args s = true) (hini : (Cond.initialized "StepStore").before args s = true) (harr : (Cond.arrayOf (.static "StepStore" n "[I") .int).before args s = true) (hlen : (Cond.eq (.length (.static "StepStore" n "[I")) (.int (Int32.ofNat N))).before args s = true) (hel : ∀ j : Nat, j < N → (Cond.eq (.elem (.static "StepStore" n "[I") (.int (Int32.ofNat j))) (.int (f j))).before args s = true) (hA : ∀ a : Nat, a < s.heap.size → ¬ A a) : KT n N f A s := by
  obtain ⟨t, ht, hT⟩ := va_Tof (ty := .int) (f := fun j => .int (f j)) (A := A) hN harr (va_eqv hlen rfl) (fun j hj => va_eqv (hel j hj) rfl) hA
  exact ⟨t, va_Zof hl hini ht hA, hT⟩
/-- all that the methods on acts want of the start: the six tables, five links among nest mates -/
def KSt (A : Nat → Prop) (U : State) : Prop := KT "SORT_OF_D" 11 kTabD A U ∧ KT "SORT_OF_X" 11 kTabX A U ∧ KT "SORT_OF_Y" 11 kTabY A U ∧ KT "PART_OF_KIND" 11 kTabP A U ∧ KT "LEAST_OF_SORT" 5 kTabL A U ∧ KT "MOST_OF_SORT" 5 kTabM A U ∧ va_Nw (.methodLinkNest RX5 33 yX7_slot RX7) U ∧ va_Nw (.fieldLinkNest RX5 37 "StepStore" "SORT_OF_D" "[I" RX7) U ∧ va_Nw (.fieldLinkNest RX5 40 "StepStore" "SORT_OF_Y" "[I" RX7) U ∧ va_Nw (.fieldLinkNest RX5 50 "StepStore" "SORT_OF_X" "[I" RX7) U ∧ va_Nw (.fieldLinkNest RX5 53 "StepStore" "PART_OF_KIND" "[I" RX7) U
theorem KSt.blind {A : Nat → Prop} : KX (fun U => KSt A U) := by
  intro a U g mk h
  obtain ⟨h1, h2, h3, h4, h5, h6, h7, h8, h9, h10, h11⟩ := h
  exact ⟨h1.blind a U g mk, h2.blind a U g mk, h3.blind a U g mk, h4.blind a U g mk, h5.blind a U g mk, h6.blind a U g mk, va_Nw.same rfl rfl h7, va_Nw.same rfl rfl h8, va_Nw.same rfl rfl h9, va_Nw.same rfl rfl h10, va_Nw.same rfl rfl h11⟩
theorem KSt.call {A : Nat → Prop} {D : va_G} {ws wc : va_W} {tys : List (ClassId × FieldType)} {s : State} {H : Heap} {locs : List Loc} (k : KSt A s) (h : KS D A ws tys s H locs) (isC : List Nat) (hC : isC.map (fun i => ws[i]?) = wc.map some) : ∀ U : State, U.heap = H → s.WarmedH U.vm → KSt (va_A wc H.size) U := by
  intro U hU hW
  obtain ⟨h1, h2, h3, h4, h5, h6, h7, h8, h9, h10, h11⟩ := k
  exact ⟨h1.call h isC hC U hU hW, h2.call h isC hC U hU hW, h3.call h isC hC U hU hW, h4.call h isC hC U hU hW, h5.call h isC hC U hU hW, h6.call h isC hC U hU hW, va_Nw.warmM hW h7, va_Nw.warmF hW h8, va_Nw.warmF hW h9, va_Nw.warmF hW h10, va_Nw.warmF hW h11⟩
/-- v is of the sort s -/
def kSort (s v : Int32) : Bool := decide (s.toInt = 0 ∨ ((kTabL s.toNatClampNeg).toInt ≤ v.toInt ∧ v.toInt ≤ (kTabM s.toNatClampNeg).toInt))
/-- which numbers make an ACT -/
def kActOK (k d x y : Int32) : Bool := decide ((0 ≤ k.toInt ∧ k.toInt ≤ 10) ∧ (7 < k.toInt ∨ (0 ≤ d.toInt ∧ d.toInt < 8)) ∧ (¬ k.toInt = 0 ∨ (0 ≤ x.toInt ∧ x.toInt ≤ 255)) ∧ (k.toInt < 9 ∨ (0 ≤ x.toInt ∧ x.toInt ≤ 1)) ∧ (k.toInt < 1 ∨ 8 < k.toInt ∨ (0 ≤ x.toInt ∧ x.toInt < 8)) ∧ (¬ k.toInt = 6 ∨ (-31 ≤ y.toInt ∧ y.toInt ≤ 31)) ∧ (k.toInt < 9 ∨ (0 ≤ y.toInt ∧ y.toInt ≤ 1)) ∧ (k.toInt < 2 ∨ k.toInt = 6 ∨ k.toInt = 7 ∨ 8 < k.toInt ∨ (0 ≤ y.toInt ∧ y.toInt < 8)))
theorem kSort_0 (v : Int32) : kSort 0 v = true := rfl
theorem kSort_1 (v : Int32) : kSort 1 v = decide (0 ≤ v.toInt ∧ v.toInt < 8) := by
  unfold kSort
  have e1 : (kTabL (1 : Int32).toNatClampNeg).toInt = 0 := by decide
  have e2 : (kTabM (1 : Int32).toNatClampNeg).toInt = 7 := by decide
  have e3 : (1 : Int32).toInt = 1 := by decide
  rw [e1, e2, e3, decide_eq_decide]
  omega
theorem kSort_2 (v : Int32) : kSort 2 v = decide (0 ≤ v.toInt ∧ v.toInt ≤ 255) := by
  unfold kSort
  have e1 : (kTabL (2 : Int32).toNatClampNeg).toInt = 0 := by decide
  have e2 : (kTabM (2 : Int32).toNatClampNeg).toInt = 255 := by decide
  have e3 : (2 : Int32).toInt = 2 := by decide
  rw [e1, e2, e3, decide_eq_decide]
  omega
theorem kSort_3 (v : Int32) : kSort 3 v = decide (-31 ≤ v.toInt ∧ v.toInt ≤ 31) := by
  unfold kSort
  have e1 : (kTabL (3 : Int32).toNatClampNeg).toInt = -31 := by decide
  have e2 : (kTabM (3 : Int32).toNatClampNeg).toInt = 31 := by decide
  have e3 : (3 : Int32).toInt = 3 := by decide
  rw [e1, e2, e3, decide_eq_decide]
  omega
theorem kSort_4 (v : Int32) : kSort 4 v = decide (0 ≤ v.toInt ∧ v.toInt ≤ 1) := by
  unfold kSort
  have e1 : (kTabL (4 : Int32).toNatClampNeg).toInt = 0 := by decide
  have e2 : (kTabM (4 : Int32).toNatClampNeg).toInt = 1 := by decide
  have e3 : (4 : Int32).toInt = 4 := by decide
  rw [e1, e2, e3, decide_eq_decide]
  omega
theorem kcl {k : Int32} {n : Nat} (h : k.toInt = n) : k.toNatClampNeg = n := by
  unfold Int32.toNatClampNeg
  omega
theorem kAct_iff {k d x y : Int32} (h0 : 0 ≤ k.toInt) (h1 : k.toInt < 11) : kActOK k d x y = true ↔ (kSort (kTabD k.toNatClampNeg) d = true ∧ kSort (kTabX k.toNatClampNeg) x = true ∧ kSort (kTabY k.toNatClampNeg) y = true) := by
  have hk : k.toInt = 0 ∨ k.toInt = 1 ∨ k.toInt = 2 ∨ k.toInt = 3 ∨ k.toInt = 4 ∨ k.toInt = 5 ∨ k.toInt = 6 ∨ k.toInt = 7 ∨ k.toInt = 8 ∨ k.toInt = 9 ∨ k.toInt = 10 := by omega
  have main : ∀ (n : Nat) (a b c : Int32), k.toInt = n → kTabD n = a → kTabX n = b → kTabY n = c → (kActOK k d x y = true ↔ (kSort a d = true ∧ kSort b x = true ∧ kSort c y = true)) → (kActOK k d x y = true ↔ (kSort (kTabD k.toNatClampNeg) d = true ∧ kSort (kTabX k.toNatClampNeg) x = true ∧ kSort (kTabY k.toNatClampNeg) y = true)) := by
    intro n a b c hn ha hb hc hh
    rw [kcl hn, ha, hb, hc]
    exact hh
  rcases hk with e | e | e | e | e | e | e | e | e | e | e
  · exact main 0 1 2 0 e rfl rfl rfl (by rw [kSort_1, kSort_2, kSort_0]; simp only [kActOK, e, decide_eq_true_eq, eq_self, true_and, and_true, not_true_eq_false, false_or, or_false, true_or, or_true]; omega)
  · exact main 1 1 1 0 e rfl rfl rfl (by rw [kSort_1, kSort_1, kSort_0]; simp only [kActOK, e, decide_eq_true_eq, eq_self, true_and, and_true, not_true_eq_false, false_or, or_false, true_or, or_true]; omega)
  · exact main 2 1 1 1 e rfl rfl rfl (by rw [kSort_1, kSort_1, kSort_1]; simp only [kActOK, e, decide_eq_true_eq, eq_self, true_and, and_true, not_true_eq_false, false_or, or_false, true_or, or_true]; omega)
  · exact main 3 1 1 1 e rfl rfl rfl (by rw [kSort_1, kSort_1, kSort_1]; simp only [kActOK, e, decide_eq_true_eq, eq_self, true_and, and_true, not_true_eq_false, false_or, or_false, true_or, or_true]; omega)
  · exact main 4 1 1 1 e rfl rfl rfl (by rw [kSort_1, kSort_1, kSort_1]; simp only [kActOK, e, decide_eq_true_eq, eq_self, true_and, and_true, not_true_eq_false, false_or, or_false, true_or, or_true]; omega)
  · exact main 5 1 1 1 e rfl rfl rfl (by rw [kSort_1, kSort_1, kSort_1]; simp only [kActOK, e, decide_eq_true_eq, eq_self, true_and, and_true, not_true_eq_false, false_or, or_false, true_or, or_true]; omega)
  · exact main 6 1 1 3 e rfl rfl rfl (by rw [kSort_1, kSort_1, kSort_3]; simp only [kActOK, e, decide_eq_true_eq, eq_self, true_and, and_true, not_true_eq_false, false_or, or_false, true_or, or_true]; omega)
  · exact main 7 1 1 0 e rfl rfl rfl (by rw [kSort_1, kSort_1, kSort_0]; simp only [kActOK, e, decide_eq_true_eq, eq_self, true_and, and_true, not_true_eq_false, false_or, or_false, true_or, or_true]; omega)
  · exact main 8 0 1 1 e rfl rfl rfl (by rw [kSort_0, kSort_1, kSort_1]; simp only [kActOK, e, decide_eq_true_eq, eq_self, true_and, and_true, not_true_eq_false, false_or, or_false, true_or, or_true]; omega)
  · exact main 9 0 4 4 e rfl rfl rfl (by rw [kSort_0, kSort_4, kSort_4]; simp only [kActOK, e, decide_eq_true_eq, eq_self, true_and, and_true, not_true_eq_false, false_or, or_false, true_or, or_true]; omega)
  · exact main 10 0 4 4 e rfl rfl rfl (by rw [kSort_0, kSort_4, kSort_4]; simp only [kActOK, e, decide_eq_true_eq, eq_self, true_and, and_true, not_true_eq_false, false_or, or_false, true_or, or_true]; omega)
theorem kTabD_in (j : Nat) : 0 ≤ (kTabD j).toInt ∧ (kTabD j).toInt < 5 := by
  by_cases h : j < 11
  · exact (show ∀ i : Fin 11, 0 ≤ (kTabD i.val).toInt ∧ (kTabD i.val).toInt < 5 by decide) ⟨j, h⟩
  · have e : kTabD j = 0 := by
      unfold kTabD
      rw [List.getD_eq_getElem?_getD, List.getElem?_eq_none (by simp; omega)]
      rfl
    rw [e]
    decide
theorem kTabX_in (j : Nat) : 0 ≤ (kTabX j).toInt ∧ (kTabX j).toInt < 5 := by
  by_cases h : j < 11
  · exact (show ∀ i : Fin 11, 0 ≤ (kTabX i.val).toInt ∧ (kTabX i.val).toInt < 5 by decide) ⟨j, h⟩
  · have e : kTabX j = 0 := by
      unfold kTabX
      rw [List.getD_eq_getElem?_getD, List.getElem?_eq_none (by simp; omega)]
      rfl
    rw [e]
    decide
theorem kTabY_in (j : Nat) : 0 ≤ (kTabY j).toInt ∧ (kTabY j).toInt < 5 := by
  by_cases h : j < 11
  · exact (show ∀ i : Fin 11, 0 ≤ (kTabY i.val).toInt ∧ (kTabY i.val).toInt < 5 by decide) ⟨j, h⟩
  · have e : kTabY j = 0 := by
      unfold kTabY
      rw [List.getD_eq_getElem?_getD, List.getElem?_eq_none (by simp; omega)]
      rfl
    rw [e]
    decide
def an_act (p0 p1 p2 p3 p4 : Int32) : Int32 := if 0 ≤ p0.toInt ∧ p0.toInt < 12 then (if kActOK p1 p2 p3 p4 = true then 1 else -6) else -3
set_option maxHeartbeats 4000000 in
set_option maxRecDepth 100000 in
theorem c_X7_isOfSort (l : Launch) (dC : Nat → ClassId) (dI : Nat → Nat → Nat) (sz : Nat) (p0 : Int32) (p1 : Int32) (hp : 0 ≤ p0.toInt ∧ p0.toInt < 5) : Met l yX7_isOfSort wsX7_isOfSort ({ frames := 0, cells := 0, slots := 0, locals := 0 } : Room) (va_Pc [.int p0, .int p1] (KPre (dC, dI) [] [] sz (fun U => KSt (va_A [] sz) U))) (va_Qi (fun (r : Int32) (u : Unit) => r = if kSort p0 p1 = true then 1 else 0) (KPost (dC, dI) (va_A [] sz) (fun (u : Unit) => [])) (va_A [] sz)) 0 0 (va_A [] sz) := by
  refine kMet (y := yX7_isOfSort) (wsM := wsX7_isOfSort) (cc := cX7_isOfSort) (maxL := 2) (ret := (some .boolean)) (rm := ({ frames := 0, cells := 0, slots := 0, locals := 0 } : Room)) (mc := 0) (ms := 0) (av := [.int p0, .int p1]) (D := (dC, dI)) (wc := []) (tc := []) (sz := sz) (X := fun U => KSt (va_A [] sz) U) (Qc := fun A => va_Qi (fun (r : Int32) (u : Unit) => r = if kSort p0 p1 = true then 1 else 0) (KPost (dC, dI) A (fun (u : Unit) => [])) A) (by decide) rfl (Nat.le_of_ble_eq_true rfl) ?_
  intro p e s m below meth c A ls E hr hlocks hnm hsz hAe hX h hl
  have hx := E.1
  have hb := E.2.1
  have hl : lv_has ls 2 [(0, .int p0), (1, .int p1)] := hl
  have hX : KSt A s := by rw [← hAe]; exact hX
  obtain ⟨⟨tD, hZD, hTD⟩, ⟨tX, hZX, hTX⟩, ⟨tY, hZY, hTY⟩, ⟨tP, hZP, hTP⟩, ⟨tL, hZL, hTL⟩, ⟨tM, hZM, hTM⟩, hN33, hN37, hN40, hN50, hN53⟩ := id hX
  refine lv_iload_n hx hb dX7_isOfSort_0 rfl (lv_at hl 0 rfl) ?_
  refine lv_if_eq (tgt := 22) hx hb dX7_isOfSort_1 (by decide) (fun c_1 => ?_) (fun c_1 => ?_)
  · skip
    have i_1 : p0.toInt = 0 := (fa_eq _ _).mp c_1
    refine lv_iconst (v := 1) hx hb dX7_isOfSort_22 (by decide) ?_
    refine lv_goto (tgt := 27) hx hb dX7_isOfSort_23 (by decide) ?_
    have hP9 := h.2.1.sub [] rfl
    have hD9 := h.2.2.1.sub (ws' := []) [] (by decide) rfl
    exact W.zret (v := 1) hx hb hr (by decide) (fun t ht hW => ⟨⟨1, (), rfl, (by unfold kSort; simp only [decide_eq_true_eq]; (repeat' split) <;> first | rfl | omega), (by rw [ht]; exact hP9), hD9⟩, h.2.2.2.1.F ht⟩) h.2.2.2.1.2.2 dX7_isOfSort_27 hlocks
  · skip
    have i_1 : ¬ p0.toInt = 0 := fun h9 => c_1 ((fa_eq _ _).mpr h9)
    refine lv_iload_n hx hb dX7_isOfSort_4 rfl (lv_at hl 1 rfl) ?_
    refine va_gets (v := .ref tL) hx hb hZL h.2.2.2.1 E.2.2.2.1 (E.2.2.2.2 _ (List.mem_of_getElem? (i := 1) rfl)) (fun _ h9 => h9) dX7_isOfSort_5 ?_
    refine lv_iload_n hx hb dX7_isOfSort_8 rfl (lv_at hl 0 rfl) ?_
    refine va_ti (v := .int (kTabL p0.toNatClampNeg)) hx hb hTL h.2.2.2.1 (vp_in_iff.mpr (by omega)) rfl dX7_isOfSort_9 ?_
    refine lv_icmp_lt (tgt := 26) hx hb dX7_isOfSort_10 (by decide) (fun c_2 => ?_) (fun c_2 => ?_)
    · skip
      have i_2 : p1.toInt < (kTabL p0.toNatClampNeg).toInt := (fa_lt _ _).mp c_2
      refine lv_iconst (v := 0) hx hb dX7_isOfSort_26 (by decide) ?_
      have hP9 := h.2.1.sub [] rfl
      have hD9 := h.2.2.1.sub (ws' := []) [] (by decide) rfl
      exact W.zret (v := 0) hx hb hr (by decide) (fun t ht hW => ⟨⟨0, (), rfl, (by unfold kSort; simp only [decide_eq_true_eq]; (repeat' split) <;> first | rfl | omega), (by rw [ht]; exact hP9), hD9⟩, h.2.2.2.1.F ht⟩) h.2.2.2.1.2.2 dX7_isOfSort_27 hlocks
    · skip
      have i_2 : ¬ p1.toInt < (kTabL p0.toNatClampNeg).toInt := fun h9 => c_2 ((fa_lt _ _).mpr h9)
      refine lv_iload_n hx hb dX7_isOfSort_13 rfl (lv_at hl 1 rfl) ?_
      refine va_gets (v := .ref tM) hx hb hZM h.2.2.2.1 E.2.2.2.1 (E.2.2.2.2 _ (List.mem_of_getElem? (i := 2) rfl)) (fun _ h9 => h9) dX7_isOfSort_14 ?_
      refine lv_iload_n hx hb dX7_isOfSort_17 rfl (lv_at hl 0 rfl) ?_
      refine va_ti (v := .int (kTabM p0.toNatClampNeg)) hx hb hTM h.2.2.2.1 (vp_in_iff.mpr (by omega)) rfl dX7_isOfSort_18 ?_
      refine lv_icmp_gt (tgt := 26) hx hb dX7_isOfSort_19 (by decide) (fun c_3 => ?_) (fun c_3 => ?_)
      · skip
        have i_3 : (kTabM p0.toNatClampNeg).toInt < p1.toInt := (fa_lt _ _).mp c_3
        refine lv_iconst (v := 0) hx hb dX7_isOfSort_26 (by decide) ?_
        have hP9 := h.2.1.sub [] rfl
        have hD9 := h.2.2.1.sub (ws' := []) [] (by decide) rfl
        exact W.zret (v := 0) hx hb hr (by decide) (fun t ht hW => ⟨⟨0, (), rfl, (by unfold kSort; simp only [decide_eq_true_eq]; (repeat' split) <;> first | rfl | omega), (by rw [ht]; exact hP9), hD9⟩, h.2.2.2.1.F ht⟩) h.2.2.2.1.2.2 dX7_isOfSort_27 hlocks
      · skip
        have i_3 : ¬ (kTabM p0.toNatClampNeg).toInt < p1.toInt := fun h9 => c_3 ((fa_lt _ _).mpr h9)
        refine lv_iconst (v := 1) hx hb dX7_isOfSort_22 (by decide) ?_
        refine lv_goto (tgt := 27) hx hb dX7_isOfSort_23 (by decide) ?_
        have hP9 := h.2.1.sub [] rfl
        have hD9 := h.2.2.1.sub (ws' := []) [] (by decide) rfl
        exact W.zret (v := 1) hx hb hr (by decide) (fun t ht hW => ⟨⟨1, (), rfl, (by unfold kSort; simp only [decide_eq_true_eq]; (repeat' split) <;> first | rfl | omega), (by rw [ht]; exact hP9), hD9⟩, h.2.2.2.1.F ht⟩) h.2.2.2.1.2.2 dX7_isOfSort_27 hlocks
set_option maxHeartbeats 4000000 in
set_option maxRecDepth 100000 in
theorem c_X7_isAct (l : Launch) (dC : Nat → ClassId) (dI : Nat → Nat → Nat) (sz : Nat) (p0 : Int32) (p1 : Int32) (p2 : Int32) (p3 : Int32)  : Met l yX7_isAct wsX7_isAct ({ frames := 1, cells := 0, slots := 0, locals := 21 } : Room) (va_Pc [.int p0, .int p1, .int p2, .int p3] (KPre (dC, dI) [] [] sz (fun U => KSt (va_A [] sz) U))) (va_Qi (fun (r : Int32) (u : Unit) => r = if kActOK p0 p1 p2 p3 = true then 1 else 0) (KPost (dC, dI) (va_A [] sz) (fun (u : Unit) => [])) (va_A [] sz)) 0 0 (va_A [] sz) := by
  refine kMet (y := yX7_isAct) (wsM := wsX7_isAct) (cc := cX7_isAct) (maxL := 4) (ret := (some .boolean)) (rm := ({ frames := 1, cells := 0, slots := 0, locals := 21 } : Room)) (mc := 0) (ms := 0) (av := [.int p0, .int p1, .int p2, .int p3]) (D := (dC, dI)) (wc := []) (tc := []) (sz := sz) (X := fun U => KSt (va_A [] sz) U) (Qc := fun A => va_Qi (fun (r : Int32) (u : Unit) => r = if kActOK p0 p1 p2 p3 = true then 1 else 0) (KPost (dC, dI) A (fun (u : Unit) => [])) A) (by decide) rfl (Nat.le_of_ble_eq_true rfl) ?_
  intro p e s m below meth c A ls E hr hlocks hnm hsz hAe hX h hl
  have hx := E.1
  have hb := E.2.1
  have hl : lv_has ls 4 [(0, .int p0), (1, .int p1), (2, .int p2), (3, .int p3)] := hl
  have hX : KSt A s := by rw [← hAe]; exact hX
  obtain ⟨⟨tD, hZD, hTD⟩, ⟨tX, hZX, hTX⟩, ⟨tY, hZY, hTY⟩, ⟨tP, hZP, hTP⟩, ⟨tL, hZL, hTL⟩, ⟨tM, hZM, hTM⟩, hN33, hN37, hN40, hN50, hN53⟩ := id hX
  refine lv_iload_n hx hb dX7_isAct_0 rfl (lv_at hl 0 rfl) ?_
  refine lv_if_lt (tgt := 50) hx hb dX7_isAct_1 (by decide) (fun c_1 => ?_) (fun c_1 => ?_)
  · skip
    have i_1 : p0.toInt < 0 := (fa_lt _ _).mp c_1
    refine lv_iconst (v := 0) hx hb dX7_isAct_50 (by decide) ?_
    have hP9 := h.2.1.sub [] rfl
    have hD9 := h.2.2.1.sub (ws' := []) [] (by decide) rfl
    exact W.zret (v := 0) hx hb hr (by decide) (fun t ht hW => ⟨⟨0, (), rfl, (by split <;> first | rfl | (rename_i q; exfalso; simp only [kActOK, decide_eq_true_eq] at q; omega) | (rename_i q; exfalso; have z := kAct_iff (k := p0) (d := p1) (x := p2) (y := p3) (by omega) (by omega); simp_all)), (by rw [ht]; exact hP9), hD9⟩, h.2.2.2.1.F ht⟩) h.2.2.2.1.2.2 dX7_isAct_51 hlocks
  · skip
    have i_1 : ¬ p0.toInt < 0 := fun h9 => c_1 ((fa_lt _ _).mpr h9)
    refine lv_iload_n hx hb dX7_isAct_4 rfl (lv_at hl 0 rfl) ?_
    refine lv_bipush (v := 11) hx hb dX7_isAct_5 (by decide) ?_
    refine lv_icmp_ge (tgt := 50) hx hb dX7_isAct_7 (by decide) (fun c_2 => ?_) (fun c_2 => ?_)
    · skip
      have i_2 : 11 ≤ p0.toInt := (fa_le _ _).mp c_2
      refine lv_iconst (v := 0) hx hb dX7_isAct_50 (by decide) ?_
      have hP9 := h.2.1.sub [] rfl
      have hD9 := h.2.2.1.sub (ws' := []) [] (by decide) rfl
      exact W.zret (v := 0) hx hb hr (by decide) (fun t ht hW => ⟨⟨0, (), rfl, (by split <;> first | rfl | (rename_i q; exfalso; simp only [kActOK, decide_eq_true_eq] at q; omega) | (rename_i q; exfalso; have z := kAct_iff (k := p0) (d := p1) (x := p2) (y := p3) (by omega) (by omega); simp_all)), (by rw [ht]; exact hP9), hD9⟩, h.2.2.2.1.F ht⟩) h.2.2.2.1.2.2 dX7_isAct_51 hlocks
    · skip
      have i_2 : ¬ 11 ≤ p0.toInt := fun h9 => c_2 ((fa_le _ _).mpr h9)
      refine va_gets (v := .ref tD) hx hb hZD h.2.2.2.1 E.2.2.2.1 (E.2.2.2.2 _ (List.mem_of_getElem? (i := 1) rfl)) (fun _ h9 => h9) dX7_isAct_10 ?_
      refine lv_iload_n hx hb dX7_isAct_13 rfl (lv_at hl 0 rfl) ?_
      refine va_ti (v := .int (kTabD p0.toNatClampNeg)) hx hb hTD h.2.2.2.1 (vp_in_iff.mpr (by omega)) rfl dX7_isAct_14 ?_
      refine lv_iload_n hx hb dX7_isAct_15 rfl (lv_at hl 1 rfl) ?_
      refine kc_i (wc := []) (wr := []) h (va_runS (As := [.int (kTabD p0.toNatClampNeg), .int p1]) (rest := []) E (c_X7_isOfSort l dC dI _ (p0 := kTabD p0.toNatClampNeg) (p1 := p1)  (hp := (kTabD_in _))) (va_cwS 2 E.2.2.2.2 gX7_isAct_X7_isOfSort rfl rfl rfl (by decide +kernel) ⟨Nat.le_of_ble_eq_true rfl, Nat.le_of_ble_eq_true rfl⟩) (kPreS h KSt.blind (KSt.call hX h [] rfl) [] [] (by decide) rfl rfl) rfl rfl hl.1 rfl (lv_room (Nat.le_of_ble_eq_true rfl)) dX7_isAct_16 ⟨Nat.le_of_ble_eq_true rfl, Nat.le_of_ble_eq_true rfl⟩) [] [] rfl rfl (by decide) (by decide) (fun r_3 u_3 H locs hw_3 h => ?_)
      have h : KS (dC, dI) A [] [] s H locs := h
      have hw_3 : r_3 = if kSort (kTabD p0.toNatClampNeg) p1 = true then 1 else 0 := by first | exact hw_3 | (simp only [Int32.toInt_toInt64] at hw_3; exact hw_3)
      refine W.eq (g2 := F0 m 19 ls [.int r_3]) rfl ?_
      refine lv_if_eq (tgt := 50) hx hb dX7_isAct_19 (by decide) (fun c_4 => ?_) (fun c_4 => ?_)
      · skip
        have b_4 := kb0 hw_3 c_4
        refine lv_iconst (v := 0) hx hb dX7_isAct_50 (by decide) ?_
        have hP9 := h.2.1.sub [] rfl
        have hD9 := h.2.2.1.sub (ws' := []) [] (by decide) rfl
        exact W.zret (v := 0) hx hb hr (by decide) (fun t ht hW => ⟨⟨0, (), rfl, (by split <;> first | rfl | (rename_i q; exfalso; simp only [kActOK, decide_eq_true_eq] at q; omega) | (rename_i q; exfalso; have z := kAct_iff (k := p0) (d := p1) (x := p2) (y := p3) (by omega) (by omega); simp_all)), (by rw [ht]; exact hP9), hD9⟩, h.2.2.2.1.F ht⟩) h.2.2.2.1.2.2 dX7_isAct_51 hlocks
      · skip
        have b_4 := kb1 hw_3 c_4
        refine va_gets (v := .ref tX) hx hb hZX h.2.2.2.1 E.2.2.2.1 (E.2.2.2.2 _ (List.mem_of_getElem? (i := 2) rfl)) (fun _ h9 => h9) dX7_isAct_22 ?_
        refine lv_iload_n hx hb dX7_isAct_25 rfl (lv_at hl 0 rfl) ?_
        refine va_ti (v := .int (kTabX p0.toNatClampNeg)) hx hb hTX h.2.2.2.1 (vp_in_iff.mpr (by omega)) rfl dX7_isAct_26 ?_
        refine lv_iload_n hx hb dX7_isAct_27 rfl (lv_at hl 2 rfl) ?_
        refine kc_i (wc := []) (wr := []) h (va_runS (As := [.int (kTabX p0.toNatClampNeg), .int p2]) (rest := []) E (c_X7_isOfSort l dC dI _ (p0 := kTabX p0.toNatClampNeg) (p1 := p2)  (hp := (kTabX_in _))) (va_cwS 2 E.2.2.2.2 gX7_isAct_X7_isOfSort rfl rfl rfl (by decide +kernel) ⟨Nat.le_of_ble_eq_true rfl, Nat.le_of_ble_eq_true rfl⟩) (kPreS h KSt.blind (KSt.call hX h [] rfl) [] [] (by decide) rfl rfl) rfl rfl hl.1 rfl (lv_room (Nat.le_of_ble_eq_true rfl)) dX7_isAct_28 ⟨Nat.le_of_ble_eq_true rfl, Nat.le_of_ble_eq_true rfl⟩) [] [] rfl rfl (by decide) (by decide) (fun r_5 u_5 H locs hw_5 h => ?_)
        have h : KS (dC, dI) A [] [] s H locs := h
        have hw_5 : r_5 = if kSort (kTabX p0.toNatClampNeg) p2 = true then 1 else 0 := by first | exact hw_5 | (simp only [Int32.toInt_toInt64] at hw_5; exact hw_5)
        refine W.eq (g2 := F0 m 31 ls [.int r_5]) rfl ?_
        refine lv_if_eq (tgt := 50) hx hb dX7_isAct_31 (by decide) (fun c_6 => ?_) (fun c_6 => ?_)
        · skip
          have b_6 := kb0 hw_5 c_6
          refine lv_iconst (v := 0) hx hb dX7_isAct_50 (by decide) ?_
          have hP9 := h.2.1.sub [] rfl
          have hD9 := h.2.2.1.sub (ws' := []) [] (by decide) rfl
          exact W.zret (v := 0) hx hb hr (by decide) (fun t ht hW => ⟨⟨0, (), rfl, (by split <;> first | rfl | (rename_i q; exfalso; simp only [kActOK, decide_eq_true_eq] at q; omega) | (rename_i q; exfalso; have z := kAct_iff (k := p0) (d := p1) (x := p2) (y := p3) (by omega) (by omega); simp_all)), (by rw [ht]; exact hP9), hD9⟩, h.2.2.2.1.F ht⟩) h.2.2.2.1.2.2 dX7_isAct_51 hlocks
        · skip
          have b_6 := kb1 hw_5 c_6
          refine va_gets (v := .ref tY) hx hb hZY h.2.2.2.1 E.2.2.2.1 (E.2.2.2.2 _ (List.mem_of_getElem? (i := 3) rfl)) (fun _ h9 => h9) dX7_isAct_34 ?_
          refine lv_iload_n hx hb dX7_isAct_37 rfl (lv_at hl 0 rfl) ?_
          refine va_ti (v := .int (kTabY p0.toNatClampNeg)) hx hb hTY h.2.2.2.1 (vp_in_iff.mpr (by omega)) rfl dX7_isAct_38 ?_
          refine lv_iload_n hx hb dX7_isAct_39 rfl (lv_at hl 3 rfl) ?_
          refine kc_i (wc := []) (wr := []) h (va_runS (As := [.int (kTabY p0.toNatClampNeg), .int p3]) (rest := []) E (c_X7_isOfSort l dC dI _ (p0 := kTabY p0.toNatClampNeg) (p1 := p3)  (hp := (kTabY_in _))) (va_cwS 2 E.2.2.2.2 gX7_isAct_X7_isOfSort rfl rfl rfl (by decide +kernel) ⟨Nat.le_of_ble_eq_true rfl, Nat.le_of_ble_eq_true rfl⟩) (kPreS h KSt.blind (KSt.call hX h [] rfl) [] [] (by decide) rfl rfl) rfl rfl hl.1 rfl (lv_room (Nat.le_of_ble_eq_true rfl)) dX7_isAct_40 ⟨Nat.le_of_ble_eq_true rfl, Nat.le_of_ble_eq_true rfl⟩) [] [] rfl rfl (by decide) (by decide) (fun r_7 u_7 H locs hw_7 h => ?_)
          have h : KS (dC, dI) A [] [] s H locs := h
          have hw_7 : r_7 = if kSort (kTabY p0.toNatClampNeg) p3 = true then 1 else 0 := by first | exact hw_7 | (simp only [Int32.toInt_toInt64] at hw_7; exact hw_7)
          refine W.eq (g2 := F0 m 43 ls [.int r_7]) rfl ?_
          refine lv_if_eq (tgt := 50) hx hb dX7_isAct_43 (by decide) (fun c_8 => ?_) (fun c_8 => ?_)
          · skip
            have b_8 := kb0 hw_7 c_8
            refine lv_iconst (v := 0) hx hb dX7_isAct_50 (by decide) ?_
            have hP9 := h.2.1.sub [] rfl
            have hD9 := h.2.2.1.sub (ws' := []) [] (by decide) rfl
            exact W.zret (v := 0) hx hb hr (by decide) (fun t ht hW => ⟨⟨0, (), rfl, (by split <;> first | rfl | (rename_i q; exfalso; simp only [kActOK, decide_eq_true_eq] at q; omega) | (rename_i q; exfalso; have z := kAct_iff (k := p0) (d := p1) (x := p2) (y := p3) (by omega) (by omega); simp_all)), (by rw [ht]; exact hP9), hD9⟩, h.2.2.2.1.F ht⟩) h.2.2.2.1.2.2 dX7_isAct_51 hlocks
          · skip
            have b_8 := kb1 hw_7 c_8
            refine lv_iconst (v := 1) hx hb dX7_isAct_46 (by decide) ?_
            refine lv_goto (tgt := 51) hx hb dX7_isAct_47 (by decide) ?_
            have hP9 := h.2.1.sub [] rfl
            have hD9 := h.2.2.1.sub (ws' := []) [] (by decide) rfl
            exact W.zret (v := 1) hx hb hr (by decide) (fun t ht hW => ⟨⟨1, (), rfl, (by split <;> first | rfl | (rename_i q; exfalso; simp only [kActOK, decide_eq_true_eq] at q; omega) | (rename_i q; exfalso; have z := kAct_iff (k := p0) (d := p1) (x := p2) (y := p3) (by omega) (by omega); simp_all)), (by rw [ht]; exact hP9), hD9⟩, h.2.2.2.1.F ht⟩) h.2.2.2.1.2.2 dX7_isAct_51 hlocks
set_option maxHeartbeats 4000000 in
set_option maxRecDepth 100000 in
theorem c_X5_readsOf (l : Launch) (dC : Nat → ClassId) (dI : Nat → Nat → Nat) (sz : Nat) (p0 : Int32) (p1 : Int32) (p2 : Int32) (hp : 0 ≤ p0.toInt ∧ p0.toInt < 11) : Met l yX5_readsOf wsX5_readsOf ({ frames := 0, cells := 0, slots := 0, locals := 0 } : Room) (va_Pc [.int p0, .int p1, .int p2] (KPre (dC, dI) [] [] sz (fun U => KSt (va_A [] sz) U))) (va_Qi (fun (r : Int32) (u : Unit) => True) (KPost (dC, dI) (va_A [] sz) (fun (u : Unit) => [])) (va_A [] sz)) 0 0 (va_A [] sz) := by
  refine kMet (y := yX5_readsOf) (wsM := wsX5_readsOf) (cc := cX5_readsOf) (maxL := 4) (ret := (some .int)) (rm := ({ frames := 0, cells := 0, slots := 0, locals := 0 } : Room)) (mc := 0) (ms := 0) (av := [.int p0, .int p1, .int p2]) (D := (dC, dI)) (wc := []) (tc := []) (sz := sz) (X := fun U => KSt (va_A [] sz) U) (Qc := fun A => va_Qi (fun (r : Int32) (u : Unit) => True) (KPost (dC, dI) A (fun (u : Unit) => [])) A) (by decide) rfl (Nat.le_of_ble_eq_true rfl) ?_
  intro p e s m below meth c A ls E hr hlocks hnm hsz hAe hX h hl
  have hx := E.1
  have hb := E.2.1
  have hl : lv_has ls 4 [(0, .int p0), (1, .int p1), (2, .int p2)] := hl
  have hX : KSt A s := by rw [← hAe]; exact hX
  obtain ⟨⟨tD, hZD, hTD⟩, ⟨tX, hZX, hTX⟩, ⟨tY, hZY, hTY⟩, ⟨tP, hZP, hTP⟩, ⟨tL, hZL, hTL⟩, ⟨tM, hZM, hTM⟩, hN33, hN37, hN40, hN50, hN53⟩ := id hX
  refine lv_iconst (v := 0) hx hb dX5_readsOf_0 (by decide) ?_
  refine lv_istore_n (lv' := [(3, .int 0), (0, .int p0), (1, .int p1), (2, .int p2)]) hx hb dX5_readsOf_1 rfl hl (by decide) rfl (fun ls hl => ?_)
  refine va_getsN (v := .ref tX) hx hb hZX h.2.2.2.1 E.2.2.2.1 (va_Nw.use rfl hN50) (fun _ h9 => h9) dX5_readsOf_2 ?_
  refine lv_iload_n hx hb dX5_readsOf_5 rfl (lv_at hl 1 rfl) ?_
  refine va_ti (v := .int (kTabX p0.toNatClampNeg)) hx hb hTX h.2.2.2.1 (vp_in_iff.mpr (by omega)) rfl dX5_readsOf_6 ?_
  refine lv_iconst (v := 1) hx hb dX5_readsOf_7 (by decide) ?_
  refine lv_icmp_ne (tgt := 17) hx hb dX5_readsOf_8 (by decide) (fun c_1 => ?_) (fun c_1 => ?_)
  · skip
    have i_1 : ¬ (kTabX p0.toNatClampNeg).toInt = 1 := fun h9 => c_1 ((fa_eq _ _).mpr h9)
    refine va_getsN (v := .ref tY) hx hb hZY h.2.2.2.1 E.2.2.2.1 (va_Nw.use rfl hN40) (fun _ h9 => h9) dX5_readsOf_17 ?_
    refine lv_iload_n hx hb dX5_readsOf_20 rfl (lv_at hl 1 rfl) ?_
    refine va_ti (v := .int (kTabY p0.toNatClampNeg)) hx hb hTY h.2.2.2.1 (vp_in_iff.mpr (by omega)) rfl dX5_readsOf_21 ?_
    refine lv_iconst (v := 1) hx hb dX5_readsOf_22 (by decide) ?_
    refine lv_icmp_ne (tgt := 32) hx hb dX5_readsOf_23 (by decide) (fun c_2 => ?_) (fun c_2 => ?_)
    · skip
      have i_2 : ¬ (kTabY p0.toNatClampNeg).toInt = 1 := fun h9 => c_2 ((fa_eq _ _).mpr h9)
      refine lv_iload_n hx hb dX5_readsOf_32 rfl (lv_at hl 1 rfl) ?_
      refine lv_bipush (v := 7) hx hb dX5_readsOf_33 (by decide) ?_
      refine lv_icmp_ne (tgt := 44) hx hb dX5_readsOf_35 (by decide) (fun c_3 => ?_) (fun c_3 => ?_)
      · skip
        have i_3 : ¬ p0.toInt = 7 := fun h9 => c_3 ((fa_eq _ _).mpr h9)
        refine lv_iload_n hx hb dX5_readsOf_44 rfl (lv_at hl 1 rfl) ?_
        refine lv_bipush (v := 9) hx hb dX5_readsOf_45 (by decide) ?_
        refine lv_icmp_eq (tgt := 56) hx hb dX5_readsOf_47 (by decide) (fun c_4 => ?_) (fun c_4 => ?_)
        · skip
          have i_4 : p0.toInt = 9 := (fa_eq _ _).mp c_4
          refine lv_iload_n hx hb dX5_readsOf_56 rfl (lv_at hl 0 rfl) ?_
          refine lv_iconst (v := 1) hx hb dX5_readsOf_57 (by decide) ?_
          refine lv_bipush (v := 8) hx hb dX5_readsOf_58 (by decide) ?_
          refine lv_iload_n hx hb dX5_readsOf_60 rfl (lv_at hl 2 rfl) ?_
          refine lv_iadd hx hb dX5_readsOf_61 ?_
          refine lv_ishl hx hb dX5_readsOf_62 ?_
          refine lv_ior hx hb dX5_readsOf_63 ?_
          refine lv_istore_n (lv' := [(3, .int ((0 : Int32) ||| ((1 : Int32) <<< ((8 + p1) &&& 31)))), (0, .int p0), (1, .int p1), (2, .int p2)]) hx hb dX5_readsOf_64 rfl hl (by decide) rfl (fun ls hl => ?_)
          refine lv_iload_n hx hb dX5_readsOf_65 rfl (lv_at hl 0 rfl) ?_
          have hP9 := h.2.1.sub [] rfl
          have hD9 := h.2.2.1.sub (ws' := []) [] (by decide) rfl
          exact W.iret (v := (0 : Int32) ||| ((1 : Int32) <<< ((8 + p1) &&& 31))) hx hb hr (fun t ht hW => ⟨⟨(0 : Int32) ||| ((1 : Int32) <<< ((8 + p1) &&& 31)), (), rfl, trivial, (by rw [ht]; exact hP9), hD9⟩, h.2.2.2.1.F ht⟩) h.2.2.2.1.2.2 dX5_readsOf_66 hlocks
        · skip
          have i_4 : ¬ p0.toInt = 9 := fun h9 => c_4 ((fa_eq _ _).mpr h9)
          refine lv_iload_n hx hb dX5_readsOf_50 rfl (lv_at hl 1 rfl) ?_
          refine lv_bipush (v := 10) hx hb dX5_readsOf_51 (by decide) ?_
          refine lv_icmp_ne (tgt := 65) hx hb dX5_readsOf_53 (by decide) (fun c_5 => ?_) (fun c_5 => ?_)
          · skip
            have i_5 : ¬ p0.toInt = 10 := fun h9 => c_5 ((fa_eq _ _).mpr h9)
            refine lv_iload_n hx hb dX5_readsOf_65 rfl (lv_at hl 0 rfl) ?_
            have hP9 := h.2.1.sub [] rfl
            have hD9 := h.2.2.1.sub (ws' := []) [] (by decide) rfl
            exact W.iret (v := 0) hx hb hr (fun t ht hW => ⟨⟨0, (), rfl, trivial, (by rw [ht]; exact hP9), hD9⟩, h.2.2.2.1.F ht⟩) h.2.2.2.1.2.2 dX5_readsOf_66 hlocks
          · skip
            have i_5 : p0.toInt = 10 := (fa_eq _ _).mp c_5
            refine lv_iload_n hx hb dX5_readsOf_56 rfl (lv_at hl 0 rfl) ?_
            refine lv_iconst (v := 1) hx hb dX5_readsOf_57 (by decide) ?_
            refine lv_bipush (v := 8) hx hb dX5_readsOf_58 (by decide) ?_
            refine lv_iload_n hx hb dX5_readsOf_60 rfl (lv_at hl 2 rfl) ?_
            refine lv_iadd hx hb dX5_readsOf_61 ?_
            refine lv_ishl hx hb dX5_readsOf_62 ?_
            refine lv_ior hx hb dX5_readsOf_63 ?_
            refine lv_istore_n (lv' := [(3, .int ((0 : Int32) ||| ((1 : Int32) <<< ((8 + p1) &&& 31)))), (0, .int p0), (1, .int p1), (2, .int p2)]) hx hb dX5_readsOf_64 rfl hl (by decide) rfl (fun ls hl => ?_)
            refine lv_iload_n hx hb dX5_readsOf_65 rfl (lv_at hl 0 rfl) ?_
            have hP9 := h.2.1.sub [] rfl
            have hD9 := h.2.2.1.sub (ws' := []) [] (by decide) rfl
            exact W.iret (v := (0 : Int32) ||| ((1 : Int32) <<< ((8 + p1) &&& 31))) hx hb hr (fun t ht hW => ⟨⟨(0 : Int32) ||| ((1 : Int32) <<< ((8 + p1) &&& 31)), (), rfl, trivial, (by rw [ht]; exact hP9), hD9⟩, h.2.2.2.1.F ht⟩) h.2.2.2.1.2.2 dX5_readsOf_66 hlocks
      · skip
        have i_3 : p0.toInt = 7 := (fa_eq _ _).mp c_3
        refine lv_iload_n hx hb dX5_readsOf_38 rfl (lv_at hl 0 rfl) ?_
        refine lv_sipush (v := 1024) hx hb dX5_readsOf_39 (by decide) ?_
        refine lv_ior hx hb dX5_readsOf_42 ?_
        refine k_topi (y := 1024) (by decide) ?_
        refine lv_istore_n (lv' := [(3, .int 1024), (0, .int p0), (1, .int p1), (2, .int p2)]) hx hb dX5_readsOf_43 rfl hl (by decide) rfl (fun ls hl => ?_)
        refine lv_iload_n hx hb dX5_readsOf_44 rfl (lv_at hl 1 rfl) ?_
        refine lv_bipush (v := 9) hx hb dX5_readsOf_45 (by decide) ?_
        refine lv_icmp_eq (tgt := 56) hx hb dX5_readsOf_47 (by decide) (fun c_6 => ?_) (fun c_6 => ?_)
        · skip
          have i_6 : p0.toInt = 9 := (fa_eq _ _).mp c_6
          refine lv_iload_n hx hb dX5_readsOf_56 rfl (lv_at hl 0 rfl) ?_
          refine lv_iconst (v := 1) hx hb dX5_readsOf_57 (by decide) ?_
          refine lv_bipush (v := 8) hx hb dX5_readsOf_58 (by decide) ?_
          refine lv_iload_n hx hb dX5_readsOf_60 rfl (lv_at hl 2 rfl) ?_
          refine lv_iadd hx hb dX5_readsOf_61 ?_
          refine lv_ishl hx hb dX5_readsOf_62 ?_
          refine lv_ior hx hb dX5_readsOf_63 ?_
          refine lv_istore_n (lv' := [(3, .int ((1024 : Int32) ||| ((1 : Int32) <<< ((8 + p1) &&& 31)))), (0, .int p0), (1, .int p1), (2, .int p2)]) hx hb dX5_readsOf_64 rfl hl (by decide) rfl (fun ls hl => ?_)
          refine lv_iload_n hx hb dX5_readsOf_65 rfl (lv_at hl 0 rfl) ?_
          have hP9 := h.2.1.sub [] rfl
          have hD9 := h.2.2.1.sub (ws' := []) [] (by decide) rfl
          exact W.iret (v := (1024 : Int32) ||| ((1 : Int32) <<< ((8 + p1) &&& 31))) hx hb hr (fun t ht hW => ⟨⟨(1024 : Int32) ||| ((1 : Int32) <<< ((8 + p1) &&& 31)), (), rfl, trivial, (by rw [ht]; exact hP9), hD9⟩, h.2.2.2.1.F ht⟩) h.2.2.2.1.2.2 dX5_readsOf_66 hlocks
        · skip
          have i_6 : ¬ p0.toInt = 9 := fun h9 => c_6 ((fa_eq _ _).mpr h9)
          refine lv_iload_n hx hb dX5_readsOf_50 rfl (lv_at hl 1 rfl) ?_
          refine lv_bipush (v := 10) hx hb dX5_readsOf_51 (by decide) ?_
          refine lv_icmp_ne (tgt := 65) hx hb dX5_readsOf_53 (by decide) (fun c_7 => ?_) (fun c_7 => ?_)
          · skip
            have i_7 : ¬ p0.toInt = 10 := fun h9 => c_7 ((fa_eq _ _).mpr h9)
            refine lv_iload_n hx hb dX5_readsOf_65 rfl (lv_at hl 0 rfl) ?_
            have hP9 := h.2.1.sub [] rfl
            have hD9 := h.2.2.1.sub (ws' := []) [] (by decide) rfl
            exact W.iret (v := 1024) hx hb hr (fun t ht hW => ⟨⟨1024, (), rfl, trivial, (by rw [ht]; exact hP9), hD9⟩, h.2.2.2.1.F ht⟩) h.2.2.2.1.2.2 dX5_readsOf_66 hlocks
          · skip
            have i_7 : p0.toInt = 10 := (fa_eq _ _).mp c_7
            refine lv_iload_n hx hb dX5_readsOf_56 rfl (lv_at hl 0 rfl) ?_
            refine lv_iconst (v := 1) hx hb dX5_readsOf_57 (by decide) ?_
            refine lv_bipush (v := 8) hx hb dX5_readsOf_58 (by decide) ?_
            refine lv_iload_n hx hb dX5_readsOf_60 rfl (lv_at hl 2 rfl) ?_
            refine lv_iadd hx hb dX5_readsOf_61 ?_
            refine lv_ishl hx hb dX5_readsOf_62 ?_
            refine lv_ior hx hb dX5_readsOf_63 ?_
            refine lv_istore_n (lv' := [(3, .int ((1024 : Int32) ||| ((1 : Int32) <<< ((8 + p1) &&& 31)))), (0, .int p0), (1, .int p1), (2, .int p2)]) hx hb dX5_readsOf_64 rfl hl (by decide) rfl (fun ls hl => ?_)
            refine lv_iload_n hx hb dX5_readsOf_65 rfl (lv_at hl 0 rfl) ?_
            have hP9 := h.2.1.sub [] rfl
            have hD9 := h.2.2.1.sub (ws' := []) [] (by decide) rfl
            exact W.iret (v := (1024 : Int32) ||| ((1 : Int32) <<< ((8 + p1) &&& 31))) hx hb hr (fun t ht hW => ⟨⟨(1024 : Int32) ||| ((1 : Int32) <<< ((8 + p1) &&& 31)), (), rfl, trivial, (by rw [ht]; exact hP9), hD9⟩, h.2.2.2.1.F ht⟩) h.2.2.2.1.2.2 dX5_readsOf_66 hlocks
    · skip
      have i_2 : (kTabY p0.toNatClampNeg).toInt = 1 := (fa_eq _ _).mp c_2
      refine lv_iload_n hx hb dX5_readsOf_26 rfl (lv_at hl 0 rfl) ?_
      refine lv_iconst (v := 1) hx hb dX5_readsOf_27 (by decide) ?_
      refine lv_iload_n hx hb dX5_readsOf_28 rfl (lv_at hl 3 rfl) ?_
      refine lv_ishl hx hb dX5_readsOf_29 ?_
      refine lv_ior hx hb dX5_readsOf_30 ?_
      refine lv_istore_n (lv' := [(3, .int ((0 : Int32) ||| ((1 : Int32) <<< (p2 &&& 31)))), (0, .int p0), (1, .int p1), (2, .int p2)]) hx hb dX5_readsOf_31 rfl hl (by decide) rfl (fun ls hl => ?_)
      refine lv_iload_n hx hb dX5_readsOf_32 rfl (lv_at hl 1 rfl) ?_
      refine lv_bipush (v := 7) hx hb dX5_readsOf_33 (by decide) ?_
      refine lv_icmp_ne (tgt := 44) hx hb dX5_readsOf_35 (by decide) (fun c_8 => ?_) (fun c_8 => ?_)
      · skip
        have i_8 : ¬ p0.toInt = 7 := fun h9 => c_8 ((fa_eq _ _).mpr h9)
        refine lv_iload_n hx hb dX5_readsOf_44 rfl (lv_at hl 1 rfl) ?_
        refine lv_bipush (v := 9) hx hb dX5_readsOf_45 (by decide) ?_
        refine lv_icmp_eq (tgt := 56) hx hb dX5_readsOf_47 (by decide) (fun c_9 => ?_) (fun c_9 => ?_)
        · skip
          have i_9 : p0.toInt = 9 := (fa_eq _ _).mp c_9
          refine lv_iload_n hx hb dX5_readsOf_56 rfl (lv_at hl 0 rfl) ?_
          refine lv_iconst (v := 1) hx hb dX5_readsOf_57 (by decide) ?_
          refine lv_bipush (v := 8) hx hb dX5_readsOf_58 (by decide) ?_
          refine lv_iload_n hx hb dX5_readsOf_60 rfl (lv_at hl 2 rfl) ?_
          refine lv_iadd hx hb dX5_readsOf_61 ?_
          refine lv_ishl hx hb dX5_readsOf_62 ?_
          refine lv_ior hx hb dX5_readsOf_63 ?_
          refine lv_istore_n (lv' := [(3, .int (((0 : Int32) ||| ((1 : Int32) <<< (p2 &&& 31))) ||| ((1 : Int32) <<< ((8 + p1) &&& 31)))), (0, .int p0), (1, .int p1), (2, .int p2)]) hx hb dX5_readsOf_64 rfl hl (by decide) rfl (fun ls hl => ?_)
          refine lv_iload_n hx hb dX5_readsOf_65 rfl (lv_at hl 0 rfl) ?_
          have hP9 := h.2.1.sub [] rfl
          have hD9 := h.2.2.1.sub (ws' := []) [] (by decide) rfl
          exact W.iret (v := ((0 : Int32) ||| ((1 : Int32) <<< (p2 &&& 31))) ||| ((1 : Int32) <<< ((8 + p1) &&& 31))) hx hb hr (fun t ht hW => ⟨⟨((0 : Int32) ||| ((1 : Int32) <<< (p2 &&& 31))) ||| ((1 : Int32) <<< ((8 + p1) &&& 31)), (), rfl, trivial, (by rw [ht]; exact hP9), hD9⟩, h.2.2.2.1.F ht⟩) h.2.2.2.1.2.2 dX5_readsOf_66 hlocks
        · skip
          have i_9 : ¬ p0.toInt = 9 := fun h9 => c_9 ((fa_eq _ _).mpr h9)
          refine lv_iload_n hx hb dX5_readsOf_50 rfl (lv_at hl 1 rfl) ?_
          refine lv_bipush (v := 10) hx hb dX5_readsOf_51 (by decide) ?_
          refine lv_icmp_ne (tgt := 65) hx hb dX5_readsOf_53 (by decide) (fun c_10 => ?_) (fun c_10 => ?_)
          · skip
            have i_10 : ¬ p0.toInt = 10 := fun h9 => c_10 ((fa_eq _ _).mpr h9)
            refine lv_iload_n hx hb dX5_readsOf_65 rfl (lv_at hl 0 rfl) ?_
            have hP9 := h.2.1.sub [] rfl
            have hD9 := h.2.2.1.sub (ws' := []) [] (by decide) rfl
            exact W.iret (v := (0 : Int32) ||| ((1 : Int32) <<< (p2 &&& 31))) hx hb hr (fun t ht hW => ⟨⟨(0 : Int32) ||| ((1 : Int32) <<< (p2 &&& 31)), (), rfl, trivial, (by rw [ht]; exact hP9), hD9⟩, h.2.2.2.1.F ht⟩) h.2.2.2.1.2.2 dX5_readsOf_66 hlocks
          · skip
            have i_10 : p0.toInt = 10 := (fa_eq _ _).mp c_10
            refine lv_iload_n hx hb dX5_readsOf_56 rfl (lv_at hl 0 rfl) ?_
            refine lv_iconst (v := 1) hx hb dX5_readsOf_57 (by decide) ?_
            refine lv_bipush (v := 8) hx hb dX5_readsOf_58 (by decide) ?_
            refine lv_iload_n hx hb dX5_readsOf_60 rfl (lv_at hl 2 rfl) ?_
            refine lv_iadd hx hb dX5_readsOf_61 ?_
            refine lv_ishl hx hb dX5_readsOf_62 ?_
            refine lv_ior hx hb dX5_readsOf_63 ?_
            refine lv_istore_n (lv' := [(3, .int (((0 : Int32) ||| ((1 : Int32) <<< (p2 &&& 31))) ||| ((1 : Int32) <<< ((8 + p1) &&& 31)))), (0, .int p0), (1, .int p1), (2, .int p2)]) hx hb dX5_readsOf_64 rfl hl (by decide) rfl (fun ls hl => ?_)
            refine lv_iload_n hx hb dX5_readsOf_65 rfl (lv_at hl 0 rfl) ?_
            have hP9 := h.2.1.sub [] rfl
            have hD9 := h.2.2.1.sub (ws' := []) [] (by decide) rfl
            exact W.iret (v := ((0 : Int32) ||| ((1 : Int32) <<< (p2 &&& 31))) ||| ((1 : Int32) <<< ((8 + p1) &&& 31))) hx hb hr (fun t ht hW => ⟨⟨((0 : Int32) ||| ((1 : Int32) <<< (p2 &&& 31))) ||| ((1 : Int32) <<< ((8 + p1) &&& 31)), (), rfl, trivial, (by rw [ht]; exact hP9), hD9⟩, h.2.2.2.1.F ht⟩) h.2.2.2.1.2.2 dX5_readsOf_66 hlocks
      · skip
        have i_8 : p0.toInt = 7 := (fa_eq _ _).mp c_8
        refine lv_iload_n hx hb dX5_readsOf_38 rfl (lv_at hl 0 rfl) ?_
        refine lv_sipush (v := 1024) hx hb dX5_readsOf_39 (by decide) ?_
        refine lv_ior hx hb dX5_readsOf_42 ?_
        refine lv_istore_n (lv' := [(3, .int (((0 : Int32) ||| ((1 : Int32) <<< (p2 &&& 31))) ||| (1024 : Int32))), (0, .int p0), (1, .int p1), (2, .int p2)]) hx hb dX5_readsOf_43 rfl hl (by decide) rfl (fun ls hl => ?_)
        refine lv_iload_n hx hb dX5_readsOf_44 rfl (lv_at hl 1 rfl) ?_
        refine lv_bipush (v := 9) hx hb dX5_readsOf_45 (by decide) ?_
        refine lv_icmp_eq (tgt := 56) hx hb dX5_readsOf_47 (by decide) (fun c_11 => ?_) (fun c_11 => ?_)
        · skip
          have i_11 : p0.toInt = 9 := (fa_eq _ _).mp c_11
          refine lv_iload_n hx hb dX5_readsOf_56 rfl (lv_at hl 0 rfl) ?_
          refine lv_iconst (v := 1) hx hb dX5_readsOf_57 (by decide) ?_
          refine lv_bipush (v := 8) hx hb dX5_readsOf_58 (by decide) ?_
          refine lv_iload_n hx hb dX5_readsOf_60 rfl (lv_at hl 2 rfl) ?_
          refine lv_iadd hx hb dX5_readsOf_61 ?_
          refine lv_ishl hx hb dX5_readsOf_62 ?_
          refine lv_ior hx hb dX5_readsOf_63 ?_
          refine lv_istore_n (lv' := [(3, .int ((((0 : Int32) ||| ((1 : Int32) <<< (p2 &&& 31))) ||| (1024 : Int32)) ||| ((1 : Int32) <<< ((8 + p1) &&& 31)))), (0, .int p0), (1, .int p1), (2, .int p2)]) hx hb dX5_readsOf_64 rfl hl (by decide) rfl (fun ls hl => ?_)
          refine lv_iload_n hx hb dX5_readsOf_65 rfl (lv_at hl 0 rfl) ?_
          have hP9 := h.2.1.sub [] rfl
          have hD9 := h.2.2.1.sub (ws' := []) [] (by decide) rfl
          exact W.iret (v := (((0 : Int32) ||| ((1 : Int32) <<< (p2 &&& 31))) ||| (1024 : Int32)) ||| ((1 : Int32) <<< ((8 + p1) &&& 31))) hx hb hr (fun t ht hW => ⟨⟨(((0 : Int32) ||| ((1 : Int32) <<< (p2 &&& 31))) ||| (1024 : Int32)) ||| ((1 : Int32) <<< ((8 + p1) &&& 31)), (), rfl, trivial, (by rw [ht]; exact hP9), hD9⟩, h.2.2.2.1.F ht⟩) h.2.2.2.1.2.2 dX5_readsOf_66 hlocks
        · skip
          have i_11 : ¬ p0.toInt = 9 := fun h9 => c_11 ((fa_eq _ _).mpr h9)
          refine lv_iload_n hx hb dX5_readsOf_50 rfl (lv_at hl 1 rfl) ?_
          refine lv_bipush (v := 10) hx hb dX5_readsOf_51 (by decide) ?_
          refine lv_icmp_ne (tgt := 65) hx hb dX5_readsOf_53 (by decide) (fun c_12 => ?_) (fun c_12 => ?_)
          · skip
            have i_12 : ¬ p0.toInt = 10 := fun h9 => c_12 ((fa_eq _ _).mpr h9)
            refine lv_iload_n hx hb dX5_readsOf_65 rfl (lv_at hl 0 rfl) ?_
            have hP9 := h.2.1.sub [] rfl
            have hD9 := h.2.2.1.sub (ws' := []) [] (by decide) rfl
            exact W.iret (v := ((0 : Int32) ||| ((1 : Int32) <<< (p2 &&& 31))) ||| (1024 : Int32)) hx hb hr (fun t ht hW => ⟨⟨((0 : Int32) ||| ((1 : Int32) <<< (p2 &&& 31))) ||| (1024 : Int32), (), rfl, trivial, (by rw [ht]; exact hP9), hD9⟩, h.2.2.2.1.F ht⟩) h.2.2.2.1.2.2 dX5_readsOf_66 hlocks
          · skip
            have i_12 : p0.toInt = 10 := (fa_eq _ _).mp c_12
            refine lv_iload_n hx hb dX5_readsOf_56 rfl (lv_at hl 0 rfl) ?_
            refine lv_iconst (v := 1) hx hb dX5_readsOf_57 (by decide) ?_
            refine lv_bipush (v := 8) hx hb dX5_readsOf_58 (by decide) ?_
            refine lv_iload_n hx hb dX5_readsOf_60 rfl (lv_at hl 2 rfl) ?_
            refine lv_iadd hx hb dX5_readsOf_61 ?_
            refine lv_ishl hx hb dX5_readsOf_62 ?_
            refine lv_ior hx hb dX5_readsOf_63 ?_
            refine lv_istore_n (lv' := [(3, .int ((((0 : Int32) ||| ((1 : Int32) <<< (p2 &&& 31))) ||| (1024 : Int32)) ||| ((1 : Int32) <<< ((8 + p1) &&& 31)))), (0, .int p0), (1, .int p1), (2, .int p2)]) hx hb dX5_readsOf_64 rfl hl (by decide) rfl (fun ls hl => ?_)
            refine lv_iload_n hx hb dX5_readsOf_65 rfl (lv_at hl 0 rfl) ?_
            have hP9 := h.2.1.sub [] rfl
            have hD9 := h.2.2.1.sub (ws' := []) [] (by decide) rfl
            exact W.iret (v := (((0 : Int32) ||| ((1 : Int32) <<< (p2 &&& 31))) ||| (1024 : Int32)) ||| ((1 : Int32) <<< ((8 + p1) &&& 31))) hx hb hr (fun t ht hW => ⟨⟨(((0 : Int32) ||| ((1 : Int32) <<< (p2 &&& 31))) ||| (1024 : Int32)) ||| ((1 : Int32) <<< ((8 + p1) &&& 31)), (), rfl, trivial, (by rw [ht]; exact hP9), hD9⟩, h.2.2.2.1.F ht⟩) h.2.2.2.1.2.2 dX5_readsOf_66 hlocks
  · skip
    have i_1 : (kTabX p0.toNatClampNeg).toInt = 1 := (fa_eq _ _).mp c_1
    refine lv_iload_n hx hb dX5_readsOf_11 rfl (lv_at hl 0 rfl) ?_
    refine lv_iconst (v := 1) hx hb dX5_readsOf_12 (by decide) ?_
    refine lv_iload_n hx hb dX5_readsOf_13 rfl (lv_at hl 2 rfl) ?_
    refine lv_ishl hx hb dX5_readsOf_14 ?_
    refine lv_ior hx hb dX5_readsOf_15 ?_
    refine lv_istore_n (lv' := [(3, .int ((0 : Int32) ||| ((1 : Int32) <<< (p1 &&& 31)))), (0, .int p0), (1, .int p1), (2, .int p2)]) hx hb dX5_readsOf_16 rfl hl (by decide) rfl (fun ls hl => ?_)
    refine va_getsN (v := .ref tY) hx hb hZY h.2.2.2.1 E.2.2.2.1 (va_Nw.use rfl hN40) (fun _ h9 => h9) dX5_readsOf_17 ?_
    refine lv_iload_n hx hb dX5_readsOf_20 rfl (lv_at hl 1 rfl) ?_
    refine va_ti (v := .int (kTabY p0.toNatClampNeg)) hx hb hTY h.2.2.2.1 (vp_in_iff.mpr (by omega)) rfl dX5_readsOf_21 ?_
    refine lv_iconst (v := 1) hx hb dX5_readsOf_22 (by decide) ?_
    refine lv_icmp_ne (tgt := 32) hx hb dX5_readsOf_23 (by decide) (fun c_13 => ?_) (fun c_13 => ?_)
    · skip
      have i_13 : ¬ (kTabY p0.toNatClampNeg).toInt = 1 := fun h9 => c_13 ((fa_eq _ _).mpr h9)
      refine lv_iload_n hx hb dX5_readsOf_32 rfl (lv_at hl 1 rfl) ?_
      refine lv_bipush (v := 7) hx hb dX5_readsOf_33 (by decide) ?_
      refine lv_icmp_ne (tgt := 44) hx hb dX5_readsOf_35 (by decide) (fun c_14 => ?_) (fun c_14 => ?_)
      · skip
        have i_14 : ¬ p0.toInt = 7 := fun h9 => c_14 ((fa_eq _ _).mpr h9)
        refine lv_iload_n hx hb dX5_readsOf_44 rfl (lv_at hl 1 rfl) ?_
        refine lv_bipush (v := 9) hx hb dX5_readsOf_45 (by decide) ?_
        refine lv_icmp_eq (tgt := 56) hx hb dX5_readsOf_47 (by decide) (fun c_15 => ?_) (fun c_15 => ?_)
        · skip
          have i_15 : p0.toInt = 9 := (fa_eq _ _).mp c_15
          refine lv_iload_n hx hb dX5_readsOf_56 rfl (lv_at hl 0 rfl) ?_
          refine lv_iconst (v := 1) hx hb dX5_readsOf_57 (by decide) ?_
          refine lv_bipush (v := 8) hx hb dX5_readsOf_58 (by decide) ?_
          refine lv_iload_n hx hb dX5_readsOf_60 rfl (lv_at hl 2 rfl) ?_
          refine lv_iadd hx hb dX5_readsOf_61 ?_
          refine lv_ishl hx hb dX5_readsOf_62 ?_
          refine lv_ior hx hb dX5_readsOf_63 ?_
          refine lv_istore_n (lv' := [(3, .int (((0 : Int32) ||| ((1 : Int32) <<< (p1 &&& 31))) ||| ((1 : Int32) <<< ((8 + p1) &&& 31)))), (0, .int p0), (1, .int p1), (2, .int p2)]) hx hb dX5_readsOf_64 rfl hl (by decide) rfl (fun ls hl => ?_)
          refine lv_iload_n hx hb dX5_readsOf_65 rfl (lv_at hl 0 rfl) ?_
          have hP9 := h.2.1.sub [] rfl
          have hD9 := h.2.2.1.sub (ws' := []) [] (by decide) rfl
          exact W.iret (v := ((0 : Int32) ||| ((1 : Int32) <<< (p1 &&& 31))) ||| ((1 : Int32) <<< ((8 + p1) &&& 31))) hx hb hr (fun t ht hW => ⟨⟨((0 : Int32) ||| ((1 : Int32) <<< (p1 &&& 31))) ||| ((1 : Int32) <<< ((8 + p1) &&& 31)), (), rfl, trivial, (by rw [ht]; exact hP9), hD9⟩, h.2.2.2.1.F ht⟩) h.2.2.2.1.2.2 dX5_readsOf_66 hlocks
        · skip
          have i_15 : ¬ p0.toInt = 9 := fun h9 => c_15 ((fa_eq _ _).mpr h9)
          refine lv_iload_n hx hb dX5_readsOf_50 rfl (lv_at hl 1 rfl) ?_
          refine lv_bipush (v := 10) hx hb dX5_readsOf_51 (by decide) ?_
          refine lv_icmp_ne (tgt := 65) hx hb dX5_readsOf_53 (by decide) (fun c_16 => ?_) (fun c_16 => ?_)
          · skip
            have i_16 : ¬ p0.toInt = 10 := fun h9 => c_16 ((fa_eq _ _).mpr h9)
            refine lv_iload_n hx hb dX5_readsOf_65 rfl (lv_at hl 0 rfl) ?_
            have hP9 := h.2.1.sub [] rfl
            have hD9 := h.2.2.1.sub (ws' := []) [] (by decide) rfl
            exact W.iret (v := (0 : Int32) ||| ((1 : Int32) <<< (p1 &&& 31))) hx hb hr (fun t ht hW => ⟨⟨(0 : Int32) ||| ((1 : Int32) <<< (p1 &&& 31)), (), rfl, trivial, (by rw [ht]; exact hP9), hD9⟩, h.2.2.2.1.F ht⟩) h.2.2.2.1.2.2 dX5_readsOf_66 hlocks
          · skip
            have i_16 : p0.toInt = 10 := (fa_eq _ _).mp c_16
            refine lv_iload_n hx hb dX5_readsOf_56 rfl (lv_at hl 0 rfl) ?_
            refine lv_iconst (v := 1) hx hb dX5_readsOf_57 (by decide) ?_
            refine lv_bipush (v := 8) hx hb dX5_readsOf_58 (by decide) ?_
            refine lv_iload_n hx hb dX5_readsOf_60 rfl (lv_at hl 2 rfl) ?_
            refine lv_iadd hx hb dX5_readsOf_61 ?_
            refine lv_ishl hx hb dX5_readsOf_62 ?_
            refine lv_ior hx hb dX5_readsOf_63 ?_
            refine lv_istore_n (lv' := [(3, .int (((0 : Int32) ||| ((1 : Int32) <<< (p1 &&& 31))) ||| ((1 : Int32) <<< ((8 + p1) &&& 31)))), (0, .int p0), (1, .int p1), (2, .int p2)]) hx hb dX5_readsOf_64 rfl hl (by decide) rfl (fun ls hl => ?_)
            refine lv_iload_n hx hb dX5_readsOf_65 rfl (lv_at hl 0 rfl) ?_
            have hP9 := h.2.1.sub [] rfl
            have hD9 := h.2.2.1.sub (ws' := []) [] (by decide) rfl
            exact W.iret (v := ((0 : Int32) ||| ((1 : Int32) <<< (p1 &&& 31))) ||| ((1 : Int32) <<< ((8 + p1) &&& 31))) hx hb hr (fun t ht hW => ⟨⟨((0 : Int32) ||| ((1 : Int32) <<< (p1 &&& 31))) ||| ((1 : Int32) <<< ((8 + p1) &&& 31)), (), rfl, trivial, (by rw [ht]; exact hP9), hD9⟩, h.2.2.2.1.F ht⟩) h.2.2.2.1.2.2 dX5_readsOf_66 hlocks
      · skip
        have i_14 : p0.toInt = 7 := (fa_eq _ _).mp c_14
        refine lv_iload_n hx hb dX5_readsOf_38 rfl (lv_at hl 0 rfl) ?_
        refine lv_sipush (v := 1024) hx hb dX5_readsOf_39 (by decide) ?_
        refine lv_ior hx hb dX5_readsOf_42 ?_
        refine lv_istore_n (lv' := [(3, .int (((0 : Int32) ||| ((1 : Int32) <<< (p1 &&& 31))) ||| (1024 : Int32))), (0, .int p0), (1, .int p1), (2, .int p2)]) hx hb dX5_readsOf_43 rfl hl (by decide) rfl (fun ls hl => ?_)
        refine lv_iload_n hx hb dX5_readsOf_44 rfl (lv_at hl 1 rfl) ?_
        refine lv_bipush (v := 9) hx hb dX5_readsOf_45 (by decide) ?_
        refine lv_icmp_eq (tgt := 56) hx hb dX5_readsOf_47 (by decide) (fun c_17 => ?_) (fun c_17 => ?_)
        · skip
          have i_17 : p0.toInt = 9 := (fa_eq _ _).mp c_17
          refine lv_iload_n hx hb dX5_readsOf_56 rfl (lv_at hl 0 rfl) ?_
          refine lv_iconst (v := 1) hx hb dX5_readsOf_57 (by decide) ?_
          refine lv_bipush (v := 8) hx hb dX5_readsOf_58 (by decide) ?_
          refine lv_iload_n hx hb dX5_readsOf_60 rfl (lv_at hl 2 rfl) ?_
          refine lv_iadd hx hb dX5_readsOf_61 ?_
          refine lv_ishl hx hb dX5_readsOf_62 ?_
          refine lv_ior hx hb dX5_readsOf_63 ?_
          refine lv_istore_n (lv' := [(3, .int ((((0 : Int32) ||| ((1 : Int32) <<< (p1 &&& 31))) ||| (1024 : Int32)) ||| ((1 : Int32) <<< ((8 + p1) &&& 31)))), (0, .int p0), (1, .int p1), (2, .int p2)]) hx hb dX5_readsOf_64 rfl hl (by decide) rfl (fun ls hl => ?_)
          refine lv_iload_n hx hb dX5_readsOf_65 rfl (lv_at hl 0 rfl) ?_
          have hP9 := h.2.1.sub [] rfl
          have hD9 := h.2.2.1.sub (ws' := []) [] (by decide) rfl
          exact W.iret (v := (((0 : Int32) ||| ((1 : Int32) <<< (p1 &&& 31))) ||| (1024 : Int32)) ||| ((1 : Int32) <<< ((8 + p1) &&& 31))) hx hb hr (fun t ht hW => ⟨⟨(((0 : Int32) ||| ((1 : Int32) <<< (p1 &&& 31))) ||| (1024 : Int32)) ||| ((1 : Int32) <<< ((8 + p1) &&& 31)), (), rfl, trivial, (by rw [ht]; exact hP9), hD9⟩, h.2.2.2.1.F ht⟩) h.2.2.2.1.2.2 dX5_readsOf_66 hlocks
        · skip
          have i_17 : ¬ p0.toInt = 9 := fun h9 => c_17 ((fa_eq _ _).mpr h9)
          refine lv_iload_n hx hb dX5_readsOf_50 rfl (lv_at hl 1 rfl) ?_
          refine lv_bipush (v := 10) hx hb dX5_readsOf_51 (by decide) ?_
          refine lv_icmp_ne (tgt := 65) hx hb dX5_readsOf_53 (by decide) (fun c_18 => ?_) (fun c_18 => ?_)
          · skip
            have i_18 : ¬ p0.toInt = 10 := fun h9 => c_18 ((fa_eq _ _).mpr h9)
            refine lv_iload_n hx hb dX5_readsOf_65 rfl (lv_at hl 0 rfl) ?_
            have hP9 := h.2.1.sub [] rfl
            have hD9 := h.2.2.1.sub (ws' := []) [] (by decide) rfl
            exact W.iret (v := ((0 : Int32) ||| ((1 : Int32) <<< (p1 &&& 31))) ||| (1024 : Int32)) hx hb hr (fun t ht hW => ⟨⟨((0 : Int32) ||| ((1 : Int32) <<< (p1 &&& 31))) ||| (1024 : Int32), (), rfl, trivial, (by rw [ht]; exact hP9), hD9⟩, h.2.2.2.1.F ht⟩) h.2.2.2.1.2.2 dX5_readsOf_66 hlocks
          · skip
            have i_18 : p0.toInt = 10 := (fa_eq _ _).mp c_18
            refine lv_iload_n hx hb dX5_readsOf_56 rfl (lv_at hl 0 rfl) ?_
            refine lv_iconst (v := 1) hx hb dX5_readsOf_57 (by decide) ?_
            refine lv_bipush (v := 8) hx hb dX5_readsOf_58 (by decide) ?_
            refine lv_iload_n hx hb dX5_readsOf_60 rfl (lv_at hl 2 rfl) ?_
            refine lv_iadd hx hb dX5_readsOf_61 ?_
            refine lv_ishl hx hb dX5_readsOf_62 ?_
            refine lv_ior hx hb dX5_readsOf_63 ?_
            refine lv_istore_n (lv' := [(3, .int ((((0 : Int32) ||| ((1 : Int32) <<< (p1 &&& 31))) ||| (1024 : Int32)) ||| ((1 : Int32) <<< ((8 + p1) &&& 31)))), (0, .int p0), (1, .int p1), (2, .int p2)]) hx hb dX5_readsOf_64 rfl hl (by decide) rfl (fun ls hl => ?_)
            refine lv_iload_n hx hb dX5_readsOf_65 rfl (lv_at hl 0 rfl) ?_
            have hP9 := h.2.1.sub [] rfl
            have hD9 := h.2.2.1.sub (ws' := []) [] (by decide) rfl
            exact W.iret (v := (((0 : Int32) ||| ((1 : Int32) <<< (p1 &&& 31))) ||| (1024 : Int32)) ||| ((1 : Int32) <<< ((8 + p1) &&& 31))) hx hb hr (fun t ht hW => ⟨⟨(((0 : Int32) ||| ((1 : Int32) <<< (p1 &&& 31))) ||| (1024 : Int32)) ||| ((1 : Int32) <<< ((8 + p1) &&& 31)), (), rfl, trivial, (by rw [ht]; exact hP9), hD9⟩, h.2.2.2.1.F ht⟩) h.2.2.2.1.2.2 dX5_readsOf_66 hlocks
    · skip
      have i_13 : (kTabY p0.toNatClampNeg).toInt = 1 := (fa_eq _ _).mp c_13
      refine lv_iload_n hx hb dX5_readsOf_26 rfl (lv_at hl 0 rfl) ?_
      refine lv_iconst (v := 1) hx hb dX5_readsOf_27 (by decide) ?_
      refine lv_iload_n hx hb dX5_readsOf_28 rfl (lv_at hl 3 rfl) ?_
      refine lv_ishl hx hb dX5_readsOf_29 ?_
      refine lv_ior hx hb dX5_readsOf_30 ?_
      refine lv_istore_n (lv' := [(3, .int (((0 : Int32) ||| ((1 : Int32) <<< (p1 &&& 31))) ||| ((1 : Int32) <<< (p2 &&& 31)))), (0, .int p0), (1, .int p1), (2, .int p2)]) hx hb dX5_readsOf_31 rfl hl (by decide) rfl (fun ls hl => ?_)
      refine lv_iload_n hx hb dX5_readsOf_32 rfl (lv_at hl 1 rfl) ?_
      refine lv_bipush (v := 7) hx hb dX5_readsOf_33 (by decide) ?_
      refine lv_icmp_ne (tgt := 44) hx hb dX5_readsOf_35 (by decide) (fun c_19 => ?_) (fun c_19 => ?_)
      · skip
        have i_19 : ¬ p0.toInt = 7 := fun h9 => c_19 ((fa_eq _ _).mpr h9)
        refine lv_iload_n hx hb dX5_readsOf_44 rfl (lv_at hl 1 rfl) ?_
        refine lv_bipush (v := 9) hx hb dX5_readsOf_45 (by decide) ?_
        refine lv_icmp_eq (tgt := 56) hx hb dX5_readsOf_47 (by decide) (fun c_20 => ?_) (fun c_20 => ?_)
        · skip
          have i_20 : p0.toInt = 9 := (fa_eq _ _).mp c_20
          refine lv_iload_n hx hb dX5_readsOf_56 rfl (lv_at hl 0 rfl) ?_
          refine lv_iconst (v := 1) hx hb dX5_readsOf_57 (by decide) ?_
          refine lv_bipush (v := 8) hx hb dX5_readsOf_58 (by decide) ?_
          refine lv_iload_n hx hb dX5_readsOf_60 rfl (lv_at hl 2 rfl) ?_
          refine lv_iadd hx hb dX5_readsOf_61 ?_
          refine lv_ishl hx hb dX5_readsOf_62 ?_
          refine lv_ior hx hb dX5_readsOf_63 ?_
          refine lv_istore_n (lv' := [(3, .int ((((0 : Int32) ||| ((1 : Int32) <<< (p1 &&& 31))) ||| ((1 : Int32) <<< (p2 &&& 31))) ||| ((1 : Int32) <<< ((8 + p1) &&& 31)))), (0, .int p0), (1, .int p1), (2, .int p2)]) hx hb dX5_readsOf_64 rfl hl (by decide) rfl (fun ls hl => ?_)
          refine lv_iload_n hx hb dX5_readsOf_65 rfl (lv_at hl 0 rfl) ?_
          have hP9 := h.2.1.sub [] rfl
          have hD9 := h.2.2.1.sub (ws' := []) [] (by decide) rfl
          exact W.iret (v := (((0 : Int32) ||| ((1 : Int32) <<< (p1 &&& 31))) ||| ((1 : Int32) <<< (p2 &&& 31))) ||| ((1 : Int32) <<< ((8 + p1) &&& 31))) hx hb hr (fun t ht hW => ⟨⟨(((0 : Int32) ||| ((1 : Int32) <<< (p1 &&& 31))) ||| ((1 : Int32) <<< (p2 &&& 31))) ||| ((1 : Int32) <<< ((8 + p1) &&& 31)), (), rfl, trivial, (by rw [ht]; exact hP9), hD9⟩, h.2.2.2.1.F ht⟩) h.2.2.2.1.2.2 dX5_readsOf_66 hlocks
        · skip
          have i_20 : ¬ p0.toInt = 9 := fun h9 => c_20 ((fa_eq _ _).mpr h9)
          refine lv_iload_n hx hb dX5_readsOf_50 rfl (lv_at hl 1 rfl) ?_
          refine lv_bipush (v := 10) hx hb dX5_readsOf_51 (by decide) ?_
          refine lv_icmp_ne (tgt := 65) hx hb dX5_readsOf_53 (by decide) (fun c_21 => ?_) (fun c_21 => ?_)
          · skip
            have i_21 : ¬ p0.toInt = 10 := fun h9 => c_21 ((fa_eq _ _).mpr h9)
            refine lv_iload_n hx hb dX5_readsOf_65 rfl (lv_at hl 0 rfl) ?_
            have hP9 := h.2.1.sub [] rfl
            have hD9 := h.2.2.1.sub (ws' := []) [] (by decide) rfl
            exact W.iret (v := ((0 : Int32) ||| ((1 : Int32) <<< (p1 &&& 31))) ||| ((1 : Int32) <<< (p2 &&& 31))) hx hb hr (fun t ht hW => ⟨⟨((0 : Int32) ||| ((1 : Int32) <<< (p1 &&& 31))) ||| ((1 : Int32) <<< (p2 &&& 31)), (), rfl, trivial, (by rw [ht]; exact hP9), hD9⟩, h.2.2.2.1.F ht⟩) h.2.2.2.1.2.2 dX5_readsOf_66 hlocks
          · skip
            have i_21 : p0.toInt = 10 := (fa_eq _ _).mp c_21
            refine lv_iload_n hx hb dX5_readsOf_56 rfl (lv_at hl 0 rfl) ?_
            refine lv_iconst (v := 1) hx hb dX5_readsOf_57 (by decide) ?_
            refine lv_bipush (v := 8) hx hb dX5_readsOf_58 (by decide) ?_
            refine lv_iload_n hx hb dX5_readsOf_60 rfl (lv_at hl 2 rfl) ?_
            refine lv_iadd hx hb dX5_readsOf_61 ?_
            refine lv_ishl hx hb dX5_readsOf_62 ?_
            refine lv_ior hx hb dX5_readsOf_63 ?_
            refine lv_istore_n (lv' := [(3, .int ((((0 : Int32) ||| ((1 : Int32) <<< (p1 &&& 31))) ||| ((1 : Int32) <<< (p2 &&& 31))) ||| ((1 : Int32) <<< ((8 + p1) &&& 31)))), (0, .int p0), (1, .int p1), (2, .int p2)]) hx hb dX5_readsOf_64 rfl hl (by decide) rfl (fun ls hl => ?_)
            refine lv_iload_n hx hb dX5_readsOf_65 rfl (lv_at hl 0 rfl) ?_
            have hP9 := h.2.1.sub [] rfl
            have hD9 := h.2.2.1.sub (ws' := []) [] (by decide) rfl
            exact W.iret (v := (((0 : Int32) ||| ((1 : Int32) <<< (p1 &&& 31))) ||| ((1 : Int32) <<< (p2 &&& 31))) ||| ((1 : Int32) <<< ((8 + p1) &&& 31))) hx hb hr (fun t ht hW => ⟨⟨(((0 : Int32) ||| ((1 : Int32) <<< (p1 &&& 31))) ||| ((1 : Int32) <<< (p2 &&& 31))) ||| ((1 : Int32) <<< ((8 + p1) &&& 31)), (), rfl, trivial, (by rw [ht]; exact hP9), hD9⟩, h.2.2.2.1.F ht⟩) h.2.2.2.1.2.2 dX5_readsOf_66 hlocks
      · skip
        have i_19 : p0.toInt = 7 := (fa_eq _ _).mp c_19
        refine lv_iload_n hx hb dX5_readsOf_38 rfl (lv_at hl 0 rfl) ?_
        refine lv_sipush (v := 1024) hx hb dX5_readsOf_39 (by decide) ?_
        refine lv_ior hx hb dX5_readsOf_42 ?_
        refine lv_istore_n (lv' := [(3, .int ((((0 : Int32) ||| ((1 : Int32) <<< (p1 &&& 31))) ||| ((1 : Int32) <<< (p2 &&& 31))) ||| (1024 : Int32))), (0, .int p0), (1, .int p1), (2, .int p2)]) hx hb dX5_readsOf_43 rfl hl (by decide) rfl (fun ls hl => ?_)
        refine lv_iload_n hx hb dX5_readsOf_44 rfl (lv_at hl 1 rfl) ?_
        refine lv_bipush (v := 9) hx hb dX5_readsOf_45 (by decide) ?_
        refine lv_icmp_eq (tgt := 56) hx hb dX5_readsOf_47 (by decide) (fun c_22 => ?_) (fun c_22 => ?_)
        · skip
          have i_22 : p0.toInt = 9 := (fa_eq _ _).mp c_22
          refine lv_iload_n hx hb dX5_readsOf_56 rfl (lv_at hl 0 rfl) ?_
          refine lv_iconst (v := 1) hx hb dX5_readsOf_57 (by decide) ?_
          refine lv_bipush (v := 8) hx hb dX5_readsOf_58 (by decide) ?_
          refine lv_iload_n hx hb dX5_readsOf_60 rfl (lv_at hl 2 rfl) ?_
          refine lv_iadd hx hb dX5_readsOf_61 ?_
          refine lv_ishl hx hb dX5_readsOf_62 ?_
          refine lv_ior hx hb dX5_readsOf_63 ?_
          refine lv_istore_n (lv' := [(3, .int (((((0 : Int32) ||| ((1 : Int32) <<< (p1 &&& 31))) ||| ((1 : Int32) <<< (p2 &&& 31))) ||| (1024 : Int32)) ||| ((1 : Int32) <<< ((8 + p1) &&& 31)))), (0, .int p0), (1, .int p1), (2, .int p2)]) hx hb dX5_readsOf_64 rfl hl (by decide) rfl (fun ls hl => ?_)
          refine lv_iload_n hx hb dX5_readsOf_65 rfl (lv_at hl 0 rfl) ?_
          have hP9 := h.2.1.sub [] rfl
          have hD9 := h.2.2.1.sub (ws' := []) [] (by decide) rfl
          exact W.iret (v := ((((0 : Int32) ||| ((1 : Int32) <<< (p1 &&& 31))) ||| ((1 : Int32) <<< (p2 &&& 31))) ||| (1024 : Int32)) ||| ((1 : Int32) <<< ((8 + p1) &&& 31))) hx hb hr (fun t ht hW => ⟨⟨((((0 : Int32) ||| ((1 : Int32) <<< (p1 &&& 31))) ||| ((1 : Int32) <<< (p2 &&& 31))) ||| (1024 : Int32)) ||| ((1 : Int32) <<< ((8 + p1) &&& 31)), (), rfl, trivial, (by rw [ht]; exact hP9), hD9⟩, h.2.2.2.1.F ht⟩) h.2.2.2.1.2.2 dX5_readsOf_66 hlocks
        · skip
          have i_22 : ¬ p0.toInt = 9 := fun h9 => c_22 ((fa_eq _ _).mpr h9)
          refine lv_iload_n hx hb dX5_readsOf_50 rfl (lv_at hl 1 rfl) ?_
          refine lv_bipush (v := 10) hx hb dX5_readsOf_51 (by decide) ?_
          refine lv_icmp_ne (tgt := 65) hx hb dX5_readsOf_53 (by decide) (fun c_23 => ?_) (fun c_23 => ?_)
          · skip
            have i_23 : ¬ p0.toInt = 10 := fun h9 => c_23 ((fa_eq _ _).mpr h9)
            refine lv_iload_n hx hb dX5_readsOf_65 rfl (lv_at hl 0 rfl) ?_
            have hP9 := h.2.1.sub [] rfl
            have hD9 := h.2.2.1.sub (ws' := []) [] (by decide) rfl
            exact W.iret (v := (((0 : Int32) ||| ((1 : Int32) <<< (p1 &&& 31))) ||| ((1 : Int32) <<< (p2 &&& 31))) ||| (1024 : Int32)) hx hb hr (fun t ht hW => ⟨⟨(((0 : Int32) ||| ((1 : Int32) <<< (p1 &&& 31))) ||| ((1 : Int32) <<< (p2 &&& 31))) ||| (1024 : Int32), (), rfl, trivial, (by rw [ht]; exact hP9), hD9⟩, h.2.2.2.1.F ht⟩) h.2.2.2.1.2.2 dX5_readsOf_66 hlocks
          · skip
            have i_23 : p0.toInt = 10 := (fa_eq _ _).mp c_23
            refine lv_iload_n hx hb dX5_readsOf_56 rfl (lv_at hl 0 rfl) ?_
            refine lv_iconst (v := 1) hx hb dX5_readsOf_57 (by decide) ?_
            refine lv_bipush (v := 8) hx hb dX5_readsOf_58 (by decide) ?_
            refine lv_iload_n hx hb dX5_readsOf_60 rfl (lv_at hl 2 rfl) ?_
            refine lv_iadd hx hb dX5_readsOf_61 ?_
            refine lv_ishl hx hb dX5_readsOf_62 ?_
            refine lv_ior hx hb dX5_readsOf_63 ?_
            refine lv_istore_n (lv' := [(3, .int (((((0 : Int32) ||| ((1 : Int32) <<< (p1 &&& 31))) ||| ((1 : Int32) <<< (p2 &&& 31))) ||| (1024 : Int32)) ||| ((1 : Int32) <<< ((8 + p1) &&& 31)))), (0, .int p0), (1, .int p1), (2, .int p2)]) hx hb dX5_readsOf_64 rfl hl (by decide) rfl (fun ls hl => ?_)
            refine lv_iload_n hx hb dX5_readsOf_65 rfl (lv_at hl 0 rfl) ?_
            have hP9 := h.2.1.sub [] rfl
            have hD9 := h.2.2.1.sub (ws' := []) [] (by decide) rfl
            exact W.iret (v := ((((0 : Int32) ||| ((1 : Int32) <<< (p1 &&& 31))) ||| ((1 : Int32) <<< (p2 &&& 31))) ||| (1024 : Int32)) ||| ((1 : Int32) <<< ((8 + p1) &&& 31))) hx hb hr (fun t ht hW => ⟨⟨((((0 : Int32) ||| ((1 : Int32) <<< (p1 &&& 31))) ||| ((1 : Int32) <<< (p2 &&& 31))) ||| (1024 : Int32)) ||| ((1 : Int32) <<< ((8 + p1) &&& 31)), (), rfl, trivial, (by rw [ht]; exact hP9), hD9⟩, h.2.2.2.1.F ht⟩) h.2.2.2.1.2.2 dX5_readsOf_66 hlocks
set_option maxHeartbeats 4000000 in
set_option maxRecDepth 100000 in
theorem c_X5_writesOf (l : Launch) (dC : Nat → ClassId) (dI : Nat → Nat → Nat) (sz : Nat) (p0 : Int32) (p1 : Int32) (hp : 0 ≤ p0.toInt ∧ p0.toInt < 11) : Met l yX5_writesOf wsX5_writesOf ({ frames := 0, cells := 0, slots := 0, locals := 0 } : Room) (va_Pc [.int p0, .int p1] (KPre (dC, dI) [] [] sz (fun U => KSt (va_A [] sz) U))) (va_Qi (fun (r : Int32) (u : Unit) => True) (KPost (dC, dI) (va_A [] sz) (fun (u : Unit) => [])) (va_A [] sz)) 0 0 (va_A [] sz) := by
  refine kMet (y := yX5_writesOf) (wsM := wsX5_writesOf) (cc := cX5_writesOf) (maxL := 3) (ret := (some .int)) (rm := ({ frames := 0, cells := 0, slots := 0, locals := 0 } : Room)) (mc := 0) (ms := 0) (av := [.int p0, .int p1]) (D := (dC, dI)) (wc := []) (tc := []) (sz := sz) (X := fun U => KSt (va_A [] sz) U) (Qc := fun A => va_Qi (fun (r : Int32) (u : Unit) => True) (KPost (dC, dI) A (fun (u : Unit) => [])) A) (by decide) rfl (Nat.le_of_ble_eq_true rfl) ?_
  intro p e s m below meth c A ls E hr hlocks hnm hsz hAe hX h hl
  have hx := E.1
  have hb := E.2.1
  have hl : lv_has ls 3 [(0, .int p0), (1, .int p1)] := hl
  have hX : KSt A s := by rw [← hAe]; exact hX
  obtain ⟨⟨tD, hZD, hTD⟩, ⟨tX, hZX, hTX⟩, ⟨tY, hZY, hTY⟩, ⟨tP, hZP, hTP⟩, ⟨tL, hZL, hTL⟩, ⟨tM, hZM, hTM⟩, hN33, hN37, hN40, hN50, hN53⟩ := id hX
  refine lv_iconst (v := 0) hx hb dX5_writesOf_0 (by decide) ?_
  refine lv_istore_n (lv' := [(2, .int 0), (0, .int p0), (1, .int p1)]) hx hb dX5_writesOf_1 rfl hl (by decide) rfl (fun ls hl => ?_)
  refine va_getsN (v := .ref tD) hx hb hZD h.2.2.2.1 E.2.2.2.1 (va_Nw.use rfl hN37) (fun _ h9 => h9) dX5_writesOf_2 ?_
  refine lv_iload_n hx hb dX5_writesOf_5 rfl (lv_at hl 1 rfl) ?_
  refine va_ti (v := .int (kTabD p0.toNatClampNeg)) hx hb hTD h.2.2.2.1 (vp_in_iff.mpr (by omega)) rfl dX5_writesOf_6 ?_
  refine lv_iconst (v := 1) hx hb dX5_writesOf_7 (by decide) ?_
  refine lv_icmp_ne (tgt := 17) hx hb dX5_writesOf_8 (by decide) (fun c_1 => ?_) (fun c_1 => ?_)
  · skip
    have i_1 : ¬ (kTabD p0.toNatClampNeg).toInt = 1 := fun h9 => c_1 ((fa_eq _ _).mpr h9)
    refine va_getsN (v := .ref tP) hx hb hZP h.2.2.2.1 E.2.2.2.1 (va_Nw.use rfl hN53) (fun _ h9 => h9) dX5_writesOf_17 ?_
    refine lv_iload_n hx hb dX5_writesOf_20 rfl (lv_at hl 1 rfl) ?_
    refine va_ti (v := .int (kTabP p0.toNatClampNeg)) hx hb hTP h.2.2.2.1 (vp_in_iff.mpr (by omega)) rfl dX5_writesOf_21 ?_
    refine lv_iconst (v := 1) hx hb dX5_writesOf_22 (by decide) ?_
    refine lv_icmp_ne (tgt := 32) hx hb dX5_writesOf_23 (by decide) (fun c_2 => ?_) (fun c_2 => ?_)
    · skip
      have i_2 : ¬ (kTabP p0.toNatClampNeg).toInt = 1 := fun h9 => c_2 ((fa_eq _ _).mpr h9)
      refine lv_iload_n hx hb dX5_writesOf_32 rfl (lv_at hl 1 rfl) ?_
      refine lv_bipush (v := 8) hx hb dX5_writesOf_33 (by decide) ?_
      refine lv_icmp_ne (tgt := 44) hx hb dX5_writesOf_35 (by decide) (fun c_3 => ?_) (fun c_3 => ?_)
      · skip
        have i_3 : ¬ p0.toInt = 8 := fun h9 => c_3 ((fa_eq _ _).mpr h9)
        refine lv_iload_n hx hb dX5_writesOf_44 rfl (lv_at hl 0 rfl) ?_
        have hP9 := h.2.1.sub [] rfl
        have hD9 := h.2.2.1.sub (ws' := []) [] (by decide) rfl
        exact W.iret (v := 0) hx hb hr (fun t ht hW => ⟨⟨0, (), rfl, trivial, (by rw [ht]; exact hP9), hD9⟩, h.2.2.2.1.F ht⟩) h.2.2.2.1.2.2 dX5_writesOf_45 hlocks
      · skip
        have i_3 : p0.toInt = 8 := (fa_eq _ _).mp c_3
        refine lv_iload_n hx hb dX5_writesOf_38 rfl (lv_at hl 0 rfl) ?_
        refine lv_sipush (v := 1024) hx hb dX5_writesOf_39 (by decide) ?_
        refine lv_ior hx hb dX5_writesOf_42 ?_
        refine k_topi (y := 1024) (by decide) ?_
        refine lv_istore_n (lv' := [(2, .int 1024), (0, .int p0), (1, .int p1)]) hx hb dX5_writesOf_43 rfl hl (by decide) rfl (fun ls hl => ?_)
        refine lv_iload_n hx hb dX5_writesOf_44 rfl (lv_at hl 0 rfl) ?_
        have hP9 := h.2.1.sub [] rfl
        have hD9 := h.2.2.1.sub (ws' := []) [] (by decide) rfl
        exact W.iret (v := 1024) hx hb hr (fun t ht hW => ⟨⟨1024, (), rfl, trivial, (by rw [ht]; exact hP9), hD9⟩, h.2.2.2.1.F ht⟩) h.2.2.2.1.2.2 dX5_writesOf_45 hlocks
    · skip
      have i_2 : (kTabP p0.toNatClampNeg).toInt = 1 := (fa_eq _ _).mp c_2
      refine lv_iload_n hx hb dX5_writesOf_26 rfl (lv_at hl 0 rfl) ?_
      refine lv_sipush (v := 768) hx hb dX5_writesOf_27 (by decide) ?_
      refine lv_ior hx hb dX5_writesOf_30 ?_
      refine k_topi (y := 768) (by decide) ?_
      refine lv_istore_n (lv' := [(2, .int 768), (0, .int p0), (1, .int p1)]) hx hb dX5_writesOf_31 rfl hl (by decide) rfl (fun ls hl => ?_)
      refine lv_iload_n hx hb dX5_writesOf_32 rfl (lv_at hl 1 rfl) ?_
      refine lv_bipush (v := 8) hx hb dX5_writesOf_33 (by decide) ?_
      refine lv_icmp_ne (tgt := 44) hx hb dX5_writesOf_35 (by decide) (fun c_4 => ?_) (fun c_4 => ?_)
      · skip
        have i_4 : ¬ p0.toInt = 8 := fun h9 => c_4 ((fa_eq _ _).mpr h9)
        refine lv_iload_n hx hb dX5_writesOf_44 rfl (lv_at hl 0 rfl) ?_
        have hP9 := h.2.1.sub [] rfl
        have hD9 := h.2.2.1.sub (ws' := []) [] (by decide) rfl
        exact W.iret (v := 768) hx hb hr (fun t ht hW => ⟨⟨768, (), rfl, trivial, (by rw [ht]; exact hP9), hD9⟩, h.2.2.2.1.F ht⟩) h.2.2.2.1.2.2 dX5_writesOf_45 hlocks
      · skip
        have i_4 : p0.toInt = 8 := (fa_eq _ _).mp c_4
        refine lv_iload_n hx hb dX5_writesOf_38 rfl (lv_at hl 0 rfl) ?_
        refine lv_sipush (v := 1024) hx hb dX5_writesOf_39 (by decide) ?_
        refine lv_ior hx hb dX5_writesOf_42 ?_
        refine k_topi (y := 1792) (by decide) ?_
        refine lv_istore_n (lv' := [(2, .int 1792), (0, .int p0), (1, .int p1)]) hx hb dX5_writesOf_43 rfl hl (by decide) rfl (fun ls hl => ?_)
        refine lv_iload_n hx hb dX5_writesOf_44 rfl (lv_at hl 0 rfl) ?_
        have hP9 := h.2.1.sub [] rfl
        have hD9 := h.2.2.1.sub (ws' := []) [] (by decide) rfl
        exact W.iret (v := 1792) hx hb hr (fun t ht hW => ⟨⟨1792, (), rfl, trivial, (by rw [ht]; exact hP9), hD9⟩, h.2.2.2.1.F ht⟩) h.2.2.2.1.2.2 dX5_writesOf_45 hlocks
  · skip
    have i_1 : (kTabD p0.toNatClampNeg).toInt = 1 := (fa_eq _ _).mp c_1
    refine lv_iload_n hx hb dX5_writesOf_11 rfl (lv_at hl 0 rfl) ?_
    refine lv_iconst (v := 1) hx hb dX5_writesOf_12 (by decide) ?_
    refine lv_iload_n hx hb dX5_writesOf_13 rfl (lv_at hl 2 rfl) ?_
    refine lv_ishl hx hb dX5_writesOf_14 ?_
    refine lv_ior hx hb dX5_writesOf_15 ?_
    refine lv_istore_n (lv' := [(2, .int ((0 : Int32) ||| ((1 : Int32) <<< (p1 &&& 31)))), (0, .int p0), (1, .int p1)]) hx hb dX5_writesOf_16 rfl hl (by decide) rfl (fun ls hl => ?_)
    refine va_getsN (v := .ref tP) hx hb hZP h.2.2.2.1 E.2.2.2.1 (va_Nw.use rfl hN53) (fun _ h9 => h9) dX5_writesOf_17 ?_
    refine lv_iload_n hx hb dX5_writesOf_20 rfl (lv_at hl 1 rfl) ?_
    refine va_ti (v := .int (kTabP p0.toNatClampNeg)) hx hb hTP h.2.2.2.1 (vp_in_iff.mpr (by omega)) rfl dX5_writesOf_21 ?_
    refine lv_iconst (v := 1) hx hb dX5_writesOf_22 (by decide) ?_
    refine lv_icmp_ne (tgt := 32) hx hb dX5_writesOf_23 (by decide) (fun c_5 => ?_) (fun c_5 => ?_)
    · skip
      have i_5 : ¬ (kTabP p0.toNatClampNeg).toInt = 1 := fun h9 => c_5 ((fa_eq _ _).mpr h9)
      refine lv_iload_n hx hb dX5_writesOf_32 rfl (lv_at hl 1 rfl) ?_
      refine lv_bipush (v := 8) hx hb dX5_writesOf_33 (by decide) ?_
      refine lv_icmp_ne (tgt := 44) hx hb dX5_writesOf_35 (by decide) (fun c_6 => ?_) (fun c_6 => ?_)
      · skip
        have i_6 : ¬ p0.toInt = 8 := fun h9 => c_6 ((fa_eq _ _).mpr h9)
        refine lv_iload_n hx hb dX5_writesOf_44 rfl (lv_at hl 0 rfl) ?_
        have hP9 := h.2.1.sub [] rfl
        have hD9 := h.2.2.1.sub (ws' := []) [] (by decide) rfl
        exact W.iret (v := (0 : Int32) ||| ((1 : Int32) <<< (p1 &&& 31))) hx hb hr (fun t ht hW => ⟨⟨(0 : Int32) ||| ((1 : Int32) <<< (p1 &&& 31)), (), rfl, trivial, (by rw [ht]; exact hP9), hD9⟩, h.2.2.2.1.F ht⟩) h.2.2.2.1.2.2 dX5_writesOf_45 hlocks
      · skip
        have i_6 : p0.toInt = 8 := (fa_eq _ _).mp c_6
        refine lv_iload_n hx hb dX5_writesOf_38 rfl (lv_at hl 0 rfl) ?_
        refine lv_sipush (v := 1024) hx hb dX5_writesOf_39 (by decide) ?_
        refine lv_ior hx hb dX5_writesOf_42 ?_
        refine lv_istore_n (lv' := [(2, .int (((0 : Int32) ||| ((1 : Int32) <<< (p1 &&& 31))) ||| (1024 : Int32))), (0, .int p0), (1, .int p1)]) hx hb dX5_writesOf_43 rfl hl (by decide) rfl (fun ls hl => ?_)
        refine lv_iload_n hx hb dX5_writesOf_44 rfl (lv_at hl 0 rfl) ?_
        have hP9 := h.2.1.sub [] rfl
        have hD9 := h.2.2.1.sub (ws' := []) [] (by decide) rfl
        exact W.iret (v := ((0 : Int32) ||| ((1 : Int32) <<< (p1 &&& 31))) ||| (1024 : Int32)) hx hb hr (fun t ht hW => ⟨⟨((0 : Int32) ||| ((1 : Int32) <<< (p1 &&& 31))) ||| (1024 : Int32), (), rfl, trivial, (by rw [ht]; exact hP9), hD9⟩, h.2.2.2.1.F ht⟩) h.2.2.2.1.2.2 dX5_writesOf_45 hlocks
    · skip
      have i_5 : (kTabP p0.toNatClampNeg).toInt = 1 := (fa_eq _ _).mp c_5
      refine lv_iload_n hx hb dX5_writesOf_26 rfl (lv_at hl 0 rfl) ?_
      refine lv_sipush (v := 768) hx hb dX5_writesOf_27 (by decide) ?_
      refine lv_ior hx hb dX5_writesOf_30 ?_
      refine lv_istore_n (lv' := [(2, .int (((0 : Int32) ||| ((1 : Int32) <<< (p1 &&& 31))) ||| (768 : Int32))), (0, .int p0), (1, .int p1)]) hx hb dX5_writesOf_31 rfl hl (by decide) rfl (fun ls hl => ?_)
      refine lv_iload_n hx hb dX5_writesOf_32 rfl (lv_at hl 1 rfl) ?_
      refine lv_bipush (v := 8) hx hb dX5_writesOf_33 (by decide) ?_
      refine lv_icmp_ne (tgt := 44) hx hb dX5_writesOf_35 (by decide) (fun c_7 => ?_) (fun c_7 => ?_)
      · skip
        have i_7 : ¬ p0.toInt = 8 := fun h9 => c_7 ((fa_eq _ _).mpr h9)
        refine lv_iload_n hx hb dX5_writesOf_44 rfl (lv_at hl 0 rfl) ?_
        have hP9 := h.2.1.sub [] rfl
        have hD9 := h.2.2.1.sub (ws' := []) [] (by decide) rfl
        exact W.iret (v := ((0 : Int32) ||| ((1 : Int32) <<< (p1 &&& 31))) ||| (768 : Int32)) hx hb hr (fun t ht hW => ⟨⟨((0 : Int32) ||| ((1 : Int32) <<< (p1 &&& 31))) ||| (768 : Int32), (), rfl, trivial, (by rw [ht]; exact hP9), hD9⟩, h.2.2.2.1.F ht⟩) h.2.2.2.1.2.2 dX5_writesOf_45 hlocks
      · skip
        have i_7 : p0.toInt = 8 := (fa_eq _ _).mp c_7
        refine lv_iload_n hx hb dX5_writesOf_38 rfl (lv_at hl 0 rfl) ?_
        refine lv_sipush (v := 1024) hx hb dX5_writesOf_39 (by decide) ?_
        refine lv_ior hx hb dX5_writesOf_42 ?_
        refine lv_istore_n (lv' := [(2, .int ((((0 : Int32) ||| ((1 : Int32) <<< (p1 &&& 31))) ||| (768 : Int32)) ||| (1024 : Int32))), (0, .int p0), (1, .int p1)]) hx hb dX5_writesOf_43 rfl hl (by decide) rfl (fun ls hl => ?_)
        refine lv_iload_n hx hb dX5_writesOf_44 rfl (lv_at hl 0 rfl) ?_
        have hP9 := h.2.1.sub [] rfl
        have hD9 := h.2.2.1.sub (ws' := []) [] (by decide) rfl
        exact W.iret (v := (((0 : Int32) ||| ((1 : Int32) <<< (p1 &&& 31))) ||| (768 : Int32)) ||| (1024 : Int32)) hx hb hr (fun t ht hW => ⟨⟨(((0 : Int32) ||| ((1 : Int32) <<< (p1 &&& 31))) ||| (768 : Int32)) ||| (1024 : Int32), (), rfl, trivial, (by rw [ht]; exact hP9), hD9⟩, h.2.2.2.1.F ht⟩) h.2.2.2.1.2.2 dX5_writesOf_45 hlocks
set_option maxHeartbeats 4000000 in
set_option maxRecDepth 100000 in
theorem c_X5_add0 (l : Launch) (dC : Nat → ClassId) (dI : Nat → Nat → Nat) (sz : Nat) (o5 : Nat) (a5_0 : Nat) (a5_1 : Nat) (a5_2 : Nat) (a5_3 : Nat) (a5_4 : Nat) (a5_5 : Nat) (a5_6 : Nat) (c5_0 : ClassId) (c5_1 : ClassId) (f5_1 : Nat → Int32) (c5_2 : ClassId) (f5_2 : Nat → Int32) (c5_3 : ClassId) (f5_3 : Nat → Int32) (c5_4 : ClassId) (f5_4 : Nat → Int32) (c5_5 : ClassId) (f5_5 : Nat → Int32) (c5_6 : ClassId) (f5_6 : Nat → Int32) (p0 : Int32) (p1 : Int32) (p2 : Int32) (p3 : Int32) (p4 : Int32) (hp : 0 ≤ p0.toInt ∧ p0.toInt < 12) (hk : 0 ≤ p1.toInt ∧ p1.toInt < 11) : Met l yX5_add wsX5_add ({ frames := 1, cells := 0, slots := 0, locals := 23 } : Room) (va_Pc [.ref o5, .int p0, .int p1, .int p2, .int p3, .int p4] (KPre (dC, dI) [(o5, .inr (5, [.ref a5_0, .ref a5_1, .ref a5_2, .ref a5_3, .ref a5_4, .ref a5_5, .ref a5_6])), (a5_0, .inl (c5_0, 12, .inl (fun _ => 0))), (a5_1, .inl (c5_1, 120, .inl f5_1)), (a5_2, .inl (c5_2, 120, .inl f5_2)), (a5_3, .inl (c5_3, 120, .inl f5_3)), (a5_4, .inl (c5_4, 120, .inl f5_4)), (a5_5, .inl (c5_5, 120, .inl f5_5)), (a5_6, .inl (c5_6, 120, .inl f5_6))] [(c5_0, .int), (c5_1, .int), (c5_2, .int), (c5_3, .int), (c5_4, .int), (c5_5, .int), (c5_6, .int)] sz (fun U => KSt (va_A [(o5, .inr (5, [.ref a5_0, .ref a5_1, .ref a5_2, .ref a5_3, .ref a5_4, .ref a5_5, .ref a5_6])), (a5_0, .inl (c5_0, 12, .inl (fun _ => 0))), (a5_1, .inl (c5_1, 120, .inl f5_1)), (a5_2, .inl (c5_2, 120, .inl f5_2)), (a5_3, .inl (c5_3, 120, .inl f5_3)), (a5_4, .inl (c5_4, 120, .inl f5_4)), (a5_5, .inl (c5_5, 120, .inl f5_5)), (a5_6, .inl (c5_6, 120, .inl f5_6))] sz) U))) (va_Qv (fun (u : Unit) => True) (KPost (dC, dI) (va_A [(o5, .inr (5, [.ref a5_0, .ref a5_1, .ref a5_2, .ref a5_3, .ref a5_4, .ref a5_5, .ref a5_6])), (a5_0, .inl (c5_0, 12, .inl (fun _ => 0))), (a5_1, .inl (c5_1, 120, .inl f5_1)), (a5_2, .inl (c5_2, 120, .inl f5_2)), (a5_3, .inl (c5_3, 120, .inl f5_3)), (a5_4, .inl (c5_4, 120, .inl f5_4)), (a5_5, .inl (c5_5, 120, .inl f5_5)), (a5_6, .inl (c5_6, 120, .inl f5_6))] sz) (fun (u : Unit) => [(o5, .inr (5, [.ref a5_0, .ref a5_1, .ref a5_2, .ref a5_3, .ref a5_4, .ref a5_5, .ref a5_6])), (a5_0, .inl (c5_0, 12, .inl (upd (fun _ => 0) p0.toNatClampNeg 1)))])) (va_A [(o5, .inr (5, [.ref a5_0, .ref a5_1, .ref a5_2, .ref a5_3, .ref a5_4, .ref a5_5, .ref a5_6])), (a5_0, .inl (c5_0, 12, .inl (fun _ => 0))), (a5_1, .inl (c5_1, 120, .inl f5_1)), (a5_2, .inl (c5_2, 120, .inl f5_2)), (a5_3, .inl (c5_3, 120, .inl f5_3)), (a5_4, .inl (c5_4, 120, .inl f5_4)), (a5_5, .inl (c5_5, 120, .inl f5_5)), (a5_6, .inl (c5_6, 120, .inl f5_6))] sz)) 0 0 (va_A [(o5, .inr (5, [.ref a5_0, .ref a5_1, .ref a5_2, .ref a5_3, .ref a5_4, .ref a5_5, .ref a5_6])), (a5_0, .inl (c5_0, 12, .inl (fun _ => 0))), (a5_1, .inl (c5_1, 120, .inl f5_1)), (a5_2, .inl (c5_2, 120, .inl f5_2)), (a5_3, .inl (c5_3, 120, .inl f5_3)), (a5_4, .inl (c5_4, 120, .inl f5_4)), (a5_5, .inl (c5_5, 120, .inl f5_5)), (a5_6, .inl (c5_6, 120, .inl f5_6))] sz) := by
  refine kMet (y := yX5_add) (wsM := wsX5_add) (cc := cX5_add) (maxL := 7) (ret := none) (rm := ({ frames := 1, cells := 0, slots := 0, locals := 23 } : Room)) (mc := 0) (ms := 0) (av := [.ref o5, .int p0, .int p1, .int p2, .int p3, .int p4]) (D := (dC, dI)) (wc := [(o5, .inr (5, [.ref a5_0, .ref a5_1, .ref a5_2, .ref a5_3, .ref a5_4, .ref a5_5, .ref a5_6])), (a5_0, .inl (c5_0, 12, .inl (fun _ => 0))), (a5_1, .inl (c5_1, 120, .inl f5_1)), (a5_2, .inl (c5_2, 120, .inl f5_2)), (a5_3, .inl (c5_3, 120, .inl f5_3)), (a5_4, .inl (c5_4, 120, .inl f5_4)), (a5_5, .inl (c5_5, 120, .inl f5_5)), (a5_6, .inl (c5_6, 120, .inl f5_6))]) (tc := [(c5_0, .int), (c5_1, .int), (c5_2, .int), (c5_3, .int), (c5_4, .int), (c5_5, .int), (c5_6, .int)]) (sz := sz) (X := fun U => KSt (va_A [(o5, .inr (5, [.ref a5_0, .ref a5_1, .ref a5_2, .ref a5_3, .ref a5_4, .ref a5_5, .ref a5_6])), (a5_0, .inl (c5_0, 12, .inl (fun _ => 0))), (a5_1, .inl (c5_1, 120, .inl f5_1)), (a5_2, .inl (c5_2, 120, .inl f5_2)), (a5_3, .inl (c5_3, 120, .inl f5_3)), (a5_4, .inl (c5_4, 120, .inl f5_4)), (a5_5, .inl (c5_5, 120, .inl f5_5)), (a5_6, .inl (c5_6, 120, .inl f5_6))] sz) U) (Qc := fun A => va_Qv (fun (u : Unit) => True) (KPost (dC, dI) A (fun (u : Unit) => [(o5, .inr (5, [.ref a5_0, .ref a5_1, .ref a5_2, .ref a5_3, .ref a5_4, .ref a5_5, .ref a5_6])), (a5_0, .inl (c5_0, 12, .inl (upd (fun _ => 0) p0.toNatClampNeg 1)))])) A) (by decide) rfl (Nat.le_of_ble_eq_true rfl) ?_
  intro p e s m below meth c A ls E hr hlocks hnm hsz hAe hX h hl
  have hx := E.1
  have hb := E.2.1
  have hl : lv_has ls 7 [(0, .ref o5), (1, .int p0), (2, .int p1), (3, .int p2), (4, .int p3), (5, .int p4)] := hl
  have hX : KSt A s := by rw [← hAe]; exact hX
  obtain ⟨⟨tD, hZD, hTD⟩, ⟨tX, hZX, hTX⟩, ⟨tY, hZY, hTY⟩, ⟨tP, hZP, hTP⟩, ⟨tL, hZL, hTL⟩, ⟨tM, hZM, hTM⟩, hN33, hN37, hN40, hN50, hN53⟩ := id hX
  refine lv_iload_n hx hb dX5_add_0 rfl (lv_at hl 1 rfl) ?_
  refine lv_aload_n hx hb dX5_add_1 rfl (lv_at hl 0 rfl) ?_
  refine k_get (v := .ref a5_0) E h (fun w h => List.mem_cons_of_mem _ (List.mem_append_right _ h)) 0 rfl rfl 0 (by decide) (List.mem_of_getElem? (i := 1) rfl) rfl dX5_add_2 ?_
  refine lv_iload_n hx hb dX5_add_5 rfl (lv_at hl 1 rfl) ?_
  refine k_iald (v := 0) E h 1 0 rfl rfl (vp_in_iff.mpr (by omega)) rfl dX5_add_6 ?_
  refine kc_i (wc := []) (wr := [(o5, .inr (5, [.ref a5_0, .ref a5_1, .ref a5_2, .ref a5_3, .ref a5_4, .ref a5_5, .ref a5_6])), (a5_0, .inl (c5_0, 12, .inl (fun _ => 0))), (a5_1, .inl (c5_1, 120, .inl f5_1)), (a5_2, .inl (c5_2, 120, .inl f5_2)), (a5_3, .inl (c5_3, 120, .inl f5_3)), (a5_4, .inl (c5_4, 120, .inl f5_4)), (a5_5, .inl (c5_5, 120, .inl f5_5)), (a5_6, .inl (c5_6, 120, .inl f5_6))]) h (va_runSN (As := [.int p0, .int 0]) (rest := []) E (c_X7_slot l dC dI _ (p0 := p0) (p1 := 0)  ) ⟨va_cnB 2 E.2.2.2.2 gX5_add_X7_slot_n33 rfl rfl rfl hN33 (E.2.2.2.2 _ (List.mem_of_getElem? (i := 9) rfl)) (by decide +kernel) ⟨Nat.le_of_ble_eq_true rfl, Nat.le_of_ble_eq_true rfl⟩, E.2.2.2.2 _ (List.mem_of_getElem? (i := 8) rfl), trivial⟩ (kPreS h KX_true (fun _ _ _ => trivial) [] [] (by decide) rfl rfl) rfl rfl hl.1 rfl (lv_room (Nat.le_of_ble_eq_true rfl)) dX5_add_7 ⟨Nat.le_of_ble_eq_true rfl, Nat.le_of_ble_eq_true rfl⟩) [] [0, 1, 2, 3, 4, 5, 6, 7] rfl rfl (by decide) (by decide) (fun r_1 u_1 H locs hw_1 h => ?_)
  have h : KS (dC, dI) A [(o5, .inr (5, [.ref a5_0, .ref a5_1, .ref a5_2, .ref a5_3, .ref a5_4, .ref a5_5, .ref a5_6])), (a5_0, .inl (c5_0, 12, .inl (fun _ => 0))), (a5_1, .inl (c5_1, 120, .inl f5_1)), (a5_2, .inl (c5_2, 120, .inl f5_2)), (a5_3, .inl (c5_3, 120, .inl f5_3)), (a5_4, .inl (c5_4, 120, .inl f5_4)), (a5_5, .inl (c5_5, 120, .inl f5_5)), (a5_6, .inl (c5_6, 120, .inl f5_6))] [(c5_0, .int), (c5_1, .int), (c5_2, .int), (c5_3, .int), (c5_4, .int), (c5_5, .int), (c5_6, .int)] s H locs := h
  have hw_1 : r_1 = p0 * 10 + (0 : Int32) := by first | exact hw_1 | (simp only [Int32.toInt_toInt64] at hw_1; exact hw_1)
  refine k_topi (y := p0 * 10 + (0 : Int32)) (hw_1) ?_
  have e9 : (p0 * 10 + 0).toInt = p0.toInt * 10 := by rw [show p0 * 10 + 0 = p0 * 10 from Int32.add_zero _, Int32.toInt_mul]; exact fb_bmod (z := p0.toInt * 10) (by omega) (by omega)
  refine W.eq (g2 := F0 m 10 ls [.int (p0 * 10 + (0 : Int32))]) rfl ?_
  refine lv_istore (lv' := [(6, .int (p0 * 10 + (0 : Int32))), (0, .ref o5), (1, .int p0), (2, .int p1), (3, .int p2), (4, .int p3), (5, .int p4)]) hx hb dX5_add_10 hl (by decide) rfl (fun ls hl => ?_)
  refine lv_aload_n hx hb dX5_add_12 rfl (lv_at hl 1 rfl) ?_
  refine k_get (v := .ref a5_1) E h (fun w h => List.mem_cons_of_mem _ (List.mem_append_right _ h)) 0 rfl rfl 1 (by decide) (List.mem_of_getElem? (i := 2) rfl) rfl dX5_add_13 ?_
  refine lv_iload hx hb dX5_add_16 (lv_at hl 0 rfl) ?_
  refine lv_iload_n hx hb dX5_add_18 rfl (lv_at hl 3 rfl) ?_
  refine k_iast (j := (p0 * 10 + (0 : Int32)).toNatClampNeg) (ws' := [(o5, .inr (5, [.ref a5_0, .ref a5_1, .ref a5_2, .ref a5_3, .ref a5_4, .ref a5_5, .ref a5_6])), (a5_0, .inl (c5_0, 12, .inl (fun _ => 0))), (a5_1, .inl (c5_1, 120, .inl (upd f5_1 ((p0 * 10 + (0 : Int32)).toNatClampNeg) p1))), (a5_2, .inl (c5_2, 120, .inl f5_2)), (a5_3, .inl (c5_3, 120, .inl f5_3)), (a5_4, .inl (c5_4, 120, .inl f5_4)), (a5_5, .inl (c5_5, 120, .inl f5_5)), (a5_6, .inl (c5_6, 120, .inl f5_6))]) E h 2 1 rfl rfl (vp_in_iff.mpr (by omega)) rfl rfl dX5_add_19 (fun H locs h => ?_)
  refine lv_aload_n hx hb dX5_add_20 rfl (lv_at hl 1 rfl) ?_
  refine k_get (v := .ref a5_2) E h (fun w h => List.mem_cons_of_mem _ (List.mem_append_right _ h)) 0 rfl rfl 2 (by decide) (List.mem_of_getElem? (i := 3) rfl) rfl dX5_add_21 ?_
  refine lv_iload hx hb dX5_add_24 (lv_at hl 0 rfl) ?_
  refine va_getsN (v := .ref tD) hx hb hZD h.2.2.2.1 E.2.2.2.1 (va_Nw.use rfl hN37) (fun _ h9 => h9) dX5_add_26 ?_
  refine lv_iload_n hx hb dX5_add_29 rfl (lv_at hl 3 rfl) ?_
  refine W.eq (g2 := F0 m 30 ls [.int p1, .ref tD, .int (p0 * 10 + (0 : Int32)), .ref a5_2]) rfl ?_
  refine va_ti (v := .int (kTabD p1.toNatClampNeg)) hx hb hTD h.2.2.2.1 (vp_in_iff.mpr (by omega)) rfl dX5_add_30 ?_
  refine lv_if_ne (tgt := 38) hx hb dX5_add_31 (by decide) (fun c_2 => ?_) (fun c_2 => ?_)
  · skip
    have i_2 : ¬ (kTabD p1.toNatClampNeg).toInt = 0 := fun h9 => c_2 ((fa_eq _ _).mpr h9)
    refine lv_iload_n hx hb dX5_add_38 rfl (lv_at hl 4 rfl) ?_
    refine k_iast (j := (p0 * 10 + (0 : Int32)).toNatClampNeg) (ws' := [(o5, .inr (5, [.ref a5_0, .ref a5_1, .ref a5_2, .ref a5_3, .ref a5_4, .ref a5_5, .ref a5_6])), (a5_0, .inl (c5_0, 12, .inl (fun _ => 0))), (a5_1, .inl (c5_1, 120, .inl (upd f5_1 ((p0 * 10 + (0 : Int32)).toNatClampNeg) p1))), (a5_2, .inl (c5_2, 120, .inl (upd f5_2 ((p0 * 10 + (0 : Int32)).toNatClampNeg) p2))), (a5_3, .inl (c5_3, 120, .inl f5_3)), (a5_4, .inl (c5_4, 120, .inl f5_4)), (a5_5, .inl (c5_5, 120, .inl f5_5)), (a5_6, .inl (c5_6, 120, .inl f5_6))]) E h 3 2 rfl rfl (vp_in_iff.mpr (by omega)) rfl rfl dX5_add_39 (fun H locs h => ?_)
    refine lv_aload_n hx hb dX5_add_40 rfl (lv_at hl 1 rfl) ?_
    refine k_get (v := .ref a5_3) E h (fun w h => List.mem_cons_of_mem _ (List.mem_append_right _ h)) 0 rfl rfl 3 (by decide) (List.mem_of_getElem? (i := 4) rfl) rfl dX5_add_41 ?_
    refine lv_iload hx hb dX5_add_44 (lv_at hl 0 rfl) ?_
    refine lv_iload hx hb dX5_add_46 (lv_at hl 5 rfl) ?_
    refine k_iast (j := (p0 * 10 + (0 : Int32)).toNatClampNeg) (ws' := [(o5, .inr (5, [.ref a5_0, .ref a5_1, .ref a5_2, .ref a5_3, .ref a5_4, .ref a5_5, .ref a5_6])), (a5_0, .inl (c5_0, 12, .inl (fun _ => 0))), (a5_1, .inl (c5_1, 120, .inl (upd f5_1 ((p0 * 10 + (0 : Int32)).toNatClampNeg) p1))), (a5_2, .inl (c5_2, 120, .inl (upd f5_2 ((p0 * 10 + (0 : Int32)).toNatClampNeg) p2))), (a5_3, .inl (c5_3, 120, .inl (upd f5_3 ((p0 * 10 + (0 : Int32)).toNatClampNeg) p3))), (a5_4, .inl (c5_4, 120, .inl f5_4)), (a5_5, .inl (c5_5, 120, .inl f5_5)), (a5_6, .inl (c5_6, 120, .inl f5_6))]) E h 4 3 rfl rfl (vp_in_iff.mpr (by omega)) rfl rfl dX5_add_48 (fun H locs h => ?_)
    refine lv_aload_n hx hb dX5_add_49 rfl (lv_at hl 1 rfl) ?_
    refine k_get (v := .ref a5_4) E h (fun w h => List.mem_cons_of_mem _ (List.mem_append_right _ h)) 0 rfl rfl 4 (by decide) (List.mem_of_getElem? (i := 5) rfl) rfl dX5_add_50 ?_
    refine lv_iload hx hb dX5_add_53 (lv_at hl 0 rfl) ?_
    refine va_getsN (v := .ref tY) hx hb hZY h.2.2.2.1 E.2.2.2.1 (va_Nw.use rfl hN40) (fun _ h9 => h9) dX5_add_55 ?_
    refine W.eq (g2 := F0 m 58 ls [.ref tY, .int (p0 * 10 + (0 : Int32)), .ref a5_4]) rfl ?_
    refine lv_iload_n hx hb dX5_add_58 rfl (lv_at hl 3 rfl) ?_
    refine va_ti (v := .int (kTabY p1.toNatClampNeg)) hx hb hTY h.2.2.2.1 (vp_in_iff.mpr (by omega)) rfl dX5_add_59 ?_
    refine lv_if_ne (tgt := 67) hx hb dX5_add_60 (by decide) (fun c_3 => ?_) (fun c_3 => ?_)
    · skip
      have i_3 : ¬ (kTabY p1.toNatClampNeg).toInt = 0 := fun h9 => c_3 ((fa_eq _ _).mpr h9)
      refine lv_iload hx hb dX5_add_67 (lv_at hl 6 rfl) ?_
      refine k_iast (j := (p0 * 10 + (0 : Int32)).toNatClampNeg) (ws' := [(o5, .inr (5, [.ref a5_0, .ref a5_1, .ref a5_2, .ref a5_3, .ref a5_4, .ref a5_5, .ref a5_6])), (a5_0, .inl (c5_0, 12, .inl (fun _ => 0))), (a5_1, .inl (c5_1, 120, .inl (upd f5_1 ((p0 * 10 + (0 : Int32)).toNatClampNeg) p1))), (a5_2, .inl (c5_2, 120, .inl (upd f5_2 ((p0 * 10 + (0 : Int32)).toNatClampNeg) p2))), (a5_3, .inl (c5_3, 120, .inl (upd f5_3 ((p0 * 10 + (0 : Int32)).toNatClampNeg) p3))), (a5_4, .inl (c5_4, 120, .inl (upd f5_4 ((p0 * 10 + (0 : Int32)).toNatClampNeg) p4))), (a5_5, .inl (c5_5, 120, .inl f5_5)), (a5_6, .inl (c5_6, 120, .inl f5_6))]) E h 5 4 rfl rfl (vp_in_iff.mpr (by omega)) rfl rfl dX5_add_69 (fun H locs h => ?_)
      refine lv_aload_n hx hb dX5_add_70 rfl (lv_at hl 1 rfl) ?_
      refine k_get (v := .ref a5_5) E h (fun w h => List.mem_cons_of_mem _ (List.mem_append_right _ h)) 0 rfl rfl 5 (by decide) (List.mem_of_getElem? (i := 6) rfl) rfl dX5_add_71 ?_
      refine lv_iload hx hb dX5_add_74 (lv_at hl 0 rfl) ?_
      refine lv_iload_n hx hb dX5_add_76 rfl (lv_at hl 3 rfl) ?_
      refine lv_iload hx hb dX5_add_77 (lv_at hl 5 rfl) ?_
      refine lv_iload hx hb dX5_add_79 (lv_at hl 6 rfl) ?_
      refine kc_i (wc := []) (wr := [(o5, .inr (5, [.ref a5_0, .ref a5_1, .ref a5_2, .ref a5_3, .ref a5_4, .ref a5_5, .ref a5_6])), (a5_0, .inl (c5_0, 12, .inl (fun _ => 0))), (a5_1, .inl (c5_1, 120, .inl (upd f5_1 ((p0 * 10 + (0 : Int32)).toNatClampNeg) p1))), (a5_2, .inl (c5_2, 120, .inl (upd f5_2 ((p0 * 10 + (0 : Int32)).toNatClampNeg) p2))), (a5_3, .inl (c5_3, 120, .inl (upd f5_3 ((p0 * 10 + (0 : Int32)).toNatClampNeg) p3))), (a5_4, .inl (c5_4, 120, .inl (upd f5_4 ((p0 * 10 + (0 : Int32)).toNatClampNeg) p4))), (a5_5, .inl (c5_5, 120, .inl f5_5)), (a5_6, .inl (c5_6, 120, .inl f5_6))]) h (va_runS (As := [.int p1, .int p3, .int p4]) (rest := [.int (p0 * 10 + (0 : Int32)), .ref a5_5]) E (c_X5_readsOf l dC dI _ (p0 := p1) (p1 := p3) (p2 := p4)  (hp := (by first | decide | omega))) (va_cwS 3 E.2.2.2.2 gX5_add_X5_readsOf rfl rfl rfl (by decide +kernel) ⟨Nat.le_of_ble_eq_true rfl, Nat.le_of_ble_eq_true rfl⟩) (kPreS h KSt.blind (KSt.call hX h [] rfl) [] [] (by decide) rfl rfl) rfl rfl hl.1 rfl (lv_room (Nat.le_of_ble_eq_true rfl)) dX5_add_81 ⟨Nat.le_of_ble_eq_true rfl, Nat.le_of_ble_eq_true rfl⟩) [] [0, 1, 2, 3, 4, 5, 6, 7] rfl rfl (by decide) (by decide) (fun r_4 u_4 H locs hw_4 h => ?_)
      have h : KS (dC, dI) A [(o5, .inr (5, [.ref a5_0, .ref a5_1, .ref a5_2, .ref a5_3, .ref a5_4, .ref a5_5, .ref a5_6])), (a5_0, .inl (c5_0, 12, .inl (fun _ => 0))), (a5_1, .inl (c5_1, 120, .inl (upd f5_1 ((p0 * 10 + (0 : Int32)).toNatClampNeg) p1))), (a5_2, .inl (c5_2, 120, .inl (upd f5_2 ((p0 * 10 + (0 : Int32)).toNatClampNeg) p2))), (a5_3, .inl (c5_3, 120, .inl (upd f5_3 ((p0 * 10 + (0 : Int32)).toNatClampNeg) p3))), (a5_4, .inl (c5_4, 120, .inl (upd f5_4 ((p0 * 10 + (0 : Int32)).toNatClampNeg) p4))), (a5_5, .inl (c5_5, 120, .inl f5_5)), (a5_6, .inl (c5_6, 120, .inl f5_6))] [(c5_0, .int), (c5_1, .int), (c5_2, .int), (c5_3, .int), (c5_4, .int), (c5_5, .int), (c5_6, .int)] s H locs := h
      refine W.eq (g2 := F0 m 84 ls [.int r_4, .int (p0 * 10 + (0 : Int32)), .ref a5_5]) rfl ?_
      refine k_iast (j := (p0 * 10 + (0 : Int32)).toNatClampNeg) (ws' := [(o5, .inr (5, [.ref a5_0, .ref a5_1, .ref a5_2, .ref a5_3, .ref a5_4, .ref a5_5, .ref a5_6])), (a5_0, .inl (c5_0, 12, .inl (fun _ => 0))), (a5_1, .inl (c5_1, 120, .inl (upd f5_1 ((p0 * 10 + (0 : Int32)).toNatClampNeg) p1))), (a5_2, .inl (c5_2, 120, .inl (upd f5_2 ((p0 * 10 + (0 : Int32)).toNatClampNeg) p2))), (a5_3, .inl (c5_3, 120, .inl (upd f5_3 ((p0 * 10 + (0 : Int32)).toNatClampNeg) p3))), (a5_4, .inl (c5_4, 120, .inl (upd f5_4 ((p0 * 10 + (0 : Int32)).toNatClampNeg) p4))), (a5_5, .inl (c5_5, 120, .inl (upd f5_5 ((p0 * 10 + (0 : Int32)).toNatClampNeg) r_4))), (a5_6, .inl (c5_6, 120, .inl f5_6))]) E h 6 5 rfl rfl (vp_in_iff.mpr (by omega)) rfl rfl dX5_add_84 (fun H locs h => ?_)
      refine lv_aload_n hx hb dX5_add_85 rfl (lv_at hl 1 rfl) ?_
      refine k_get (v := .ref a5_6) E h (fun w h => List.mem_cons_of_mem _ (List.mem_append_right _ h)) 0 rfl rfl 6 (by decide) (List.mem_of_getElem? (i := 7) rfl) rfl dX5_add_86 ?_
      refine lv_iload hx hb dX5_add_89 (lv_at hl 0 rfl) ?_
      refine lv_iload_n hx hb dX5_add_91 rfl (lv_at hl 3 rfl) ?_
      refine lv_iload_n hx hb dX5_add_92 rfl (lv_at hl 4 rfl) ?_
      refine kc_i (wc := []) (wr := [(o5, .inr (5, [.ref a5_0, .ref a5_1, .ref a5_2, .ref a5_3, .ref a5_4, .ref a5_5, .ref a5_6])), (a5_0, .inl (c5_0, 12, .inl (fun _ => 0))), (a5_1, .inl (c5_1, 120, .inl (upd f5_1 ((p0 * 10 + (0 : Int32)).toNatClampNeg) p1))), (a5_2, .inl (c5_2, 120, .inl (upd f5_2 ((p0 * 10 + (0 : Int32)).toNatClampNeg) p2))), (a5_3, .inl (c5_3, 120, .inl (upd f5_3 ((p0 * 10 + (0 : Int32)).toNatClampNeg) p3))), (a5_4, .inl (c5_4, 120, .inl (upd f5_4 ((p0 * 10 + (0 : Int32)).toNatClampNeg) p4))), (a5_5, .inl (c5_5, 120, .inl (upd f5_5 ((p0 * 10 + (0 : Int32)).toNatClampNeg) r_4))), (a5_6, .inl (c5_6, 120, .inl f5_6))]) h (va_runS (As := [.int p1, .int p2]) (rest := [.int (p0 * 10 + (0 : Int32)), .ref a5_6]) E (c_X5_writesOf l dC dI _ (p0 := p1) (p1 := p2)  (hp := (by first | decide | omega))) (va_cwS 2 E.2.2.2.2 gX5_add_X5_writesOf rfl rfl rfl (by decide +kernel) ⟨Nat.le_of_ble_eq_true rfl, Nat.le_of_ble_eq_true rfl⟩) (kPreS h KSt.blind (KSt.call hX h [] rfl) [] [] (by decide) rfl rfl) rfl rfl hl.1 rfl (lv_room (Nat.le_of_ble_eq_true rfl)) dX5_add_93 ⟨Nat.le_of_ble_eq_true rfl, Nat.le_of_ble_eq_true rfl⟩) [] [0, 1, 2, 3, 4, 5, 6, 7] rfl rfl (by decide) (by decide) (fun r_5 u_5 H locs hw_5 h => ?_)
      have h : KS (dC, dI) A [(o5, .inr (5, [.ref a5_0, .ref a5_1, .ref a5_2, .ref a5_3, .ref a5_4, .ref a5_5, .ref a5_6])), (a5_0, .inl (c5_0, 12, .inl (fun _ => 0))), (a5_1, .inl (c5_1, 120, .inl (upd f5_1 ((p0 * 10 + (0 : Int32)).toNatClampNeg) p1))), (a5_2, .inl (c5_2, 120, .inl (upd f5_2 ((p0 * 10 + (0 : Int32)).toNatClampNeg) p2))), (a5_3, .inl (c5_3, 120, .inl (upd f5_3 ((p0 * 10 + (0 : Int32)).toNatClampNeg) p3))), (a5_4, .inl (c5_4, 120, .inl (upd f5_4 ((p0 * 10 + (0 : Int32)).toNatClampNeg) p4))), (a5_5, .inl (c5_5, 120, .inl (upd f5_5 ((p0 * 10 + (0 : Int32)).toNatClampNeg) r_4))), (a5_6, .inl (c5_6, 120, .inl f5_6))] [(c5_0, .int), (c5_1, .int), (c5_2, .int), (c5_3, .int), (c5_4, .int), (c5_5, .int), (c5_6, .int)] s H locs := h
      refine W.eq (g2 := F0 m 96 ls [.int r_5, .int (p0 * 10 + (0 : Int32)), .ref a5_6]) rfl ?_
      refine k_iast (j := (p0 * 10 + (0 : Int32)).toNatClampNeg) (ws' := [(o5, .inr (5, [.ref a5_0, .ref a5_1, .ref a5_2, .ref a5_3, .ref a5_4, .ref a5_5, .ref a5_6])), (a5_0, .inl (c5_0, 12, .inl (fun _ => 0))), (a5_1, .inl (c5_1, 120, .inl (upd f5_1 ((p0 * 10 + (0 : Int32)).toNatClampNeg) p1))), (a5_2, .inl (c5_2, 120, .inl (upd f5_2 ((p0 * 10 + (0 : Int32)).toNatClampNeg) p2))), (a5_3, .inl (c5_3, 120, .inl (upd f5_3 ((p0 * 10 + (0 : Int32)).toNatClampNeg) p3))), (a5_4, .inl (c5_4, 120, .inl (upd f5_4 ((p0 * 10 + (0 : Int32)).toNatClampNeg) p4))), (a5_5, .inl (c5_5, 120, .inl (upd f5_5 ((p0 * 10 + (0 : Int32)).toNatClampNeg) r_4))), (a5_6, .inl (c5_6, 120, .inl (upd f5_6 ((p0 * 10 + (0 : Int32)).toNatClampNeg) r_5)))]) E h 7 6 rfl rfl (vp_in_iff.mpr (by omega)) rfl rfl dX5_add_96 (fun H locs h => ?_)
      refine lv_aload_n hx hb dX5_add_97 rfl (lv_at hl 1 rfl) ?_
      refine k_get (v := .ref a5_0) E h (fun w h => List.mem_cons_of_mem _ (List.mem_append_right _ h)) 0 rfl rfl 0 (by decide) (List.mem_of_getElem? (i := 1) rfl) rfl dX5_add_98 ?_
      refine lv_iload_n hx hb dX5_add_101 rfl (lv_at hl 2 rfl) ?_
      refine lv_dup2_11 hx hb dX5_add_102 rfl rfl ?_
      refine k_iald (v := 0) E h 1 0 rfl rfl (vp_in_iff.mpr (by omega)) rfl dX5_add_103 ?_
      refine lv_iconst (v := 1) hx hb dX5_add_104 (by decide) ?_
      refine lv_iadd hx hb dX5_add_105 ?_
      refine k_topi (y := 1) (by decide) ?_
      refine k_iast (j := p0.toNatClampNeg) (ws' := [(o5, .inr (5, [.ref a5_0, .ref a5_1, .ref a5_2, .ref a5_3, .ref a5_4, .ref a5_5, .ref a5_6])), (a5_0, .inl (c5_0, 12, .inl (upd (fun _ => 0) p0.toNatClampNeg 1))), (a5_1, .inl (c5_1, 120, .inl (upd f5_1 ((p0 * 10 + (0 : Int32)).toNatClampNeg) p1))), (a5_2, .inl (c5_2, 120, .inl (upd f5_2 ((p0 * 10 + (0 : Int32)).toNatClampNeg) p2))), (a5_3, .inl (c5_3, 120, .inl (upd f5_3 ((p0 * 10 + (0 : Int32)).toNatClampNeg) p3))), (a5_4, .inl (c5_4, 120, .inl (upd f5_4 ((p0 * 10 + (0 : Int32)).toNatClampNeg) p4))), (a5_5, .inl (c5_5, 120, .inl (upd f5_5 ((p0 * 10 + (0 : Int32)).toNatClampNeg) r_4))), (a5_6, .inl (c5_6, 120, .inl (upd f5_6 ((p0 * 10 + (0 : Int32)).toNatClampNeg) r_5)))]) E h 1 0 rfl rfl (vp_in_iff.mpr (by omega)) rfl rfl dX5_add_106 (fun H locs h => ?_)
      have hP9 := h.2.1.sub [0, 1] rfl
      have hD9 := h.2.2.1.sub (ws' := [(o5, .inr (5, [.ref a5_0, .ref a5_1, .ref a5_2, .ref a5_3, .ref a5_4, .ref a5_5, .ref a5_6])), (a5_0, .inl (c5_0, 12, .inl (upd (fun _ => 0) p0.toNatClampNeg 1)))]) [0, 1] (by decide) rfl
      exact W.vret hx hb hr (fun t ht hW => ⟨⟨(), rfl, trivial, (by rw [ht]; exact hP9), hD9⟩, h.2.2.2.1.F ht⟩) h.2.2.2.1.2.2 dX5_add_107 hlocks
    · skip
      have i_3 : (kTabY p1.toNatClampNeg).toInt = 0 := (fa_eq _ _).mp c_3
      refine lv_iconst (v := -1) hx hb dX5_add_63 (by decide) ?_
      refine lv_goto (tgt := 69) hx hb dX5_add_64 (by decide) ?_
      refine k_iast (j := (p0 * 10 + (0 : Int32)).toNatClampNeg) (ws' := [(o5, .inr (5, [.ref a5_0, .ref a5_1, .ref a5_2, .ref a5_3, .ref a5_4, .ref a5_5, .ref a5_6])), (a5_0, .inl (c5_0, 12, .inl (fun _ => 0))), (a5_1, .inl (c5_1, 120, .inl (upd f5_1 ((p0 * 10 + (0 : Int32)).toNatClampNeg) p1))), (a5_2, .inl (c5_2, 120, .inl (upd f5_2 ((p0 * 10 + (0 : Int32)).toNatClampNeg) p2))), (a5_3, .inl (c5_3, 120, .inl (upd f5_3 ((p0 * 10 + (0 : Int32)).toNatClampNeg) p3))), (a5_4, .inl (c5_4, 120, .inl (upd f5_4 ((p0 * 10 + (0 : Int32)).toNatClampNeg) (-1)))), (a5_5, .inl (c5_5, 120, .inl f5_5)), (a5_6, .inl (c5_6, 120, .inl f5_6))]) E h 5 4 rfl rfl (vp_in_iff.mpr (by omega)) rfl rfl dX5_add_69 (fun H locs h => ?_)
      refine lv_aload_n hx hb dX5_add_70 rfl (lv_at hl 1 rfl) ?_
      refine k_get (v := .ref a5_5) E h (fun w h => List.mem_cons_of_mem _ (List.mem_append_right _ h)) 0 rfl rfl 5 (by decide) (List.mem_of_getElem? (i := 6) rfl) rfl dX5_add_71 ?_
      refine lv_iload hx hb dX5_add_74 (lv_at hl 0 rfl) ?_
      refine lv_iload_n hx hb dX5_add_76 rfl (lv_at hl 3 rfl) ?_
      refine lv_iload hx hb dX5_add_77 (lv_at hl 5 rfl) ?_
      refine lv_iload hx hb dX5_add_79 (lv_at hl 6 rfl) ?_
      refine kc_i (wc := []) (wr := [(o5, .inr (5, [.ref a5_0, .ref a5_1, .ref a5_2, .ref a5_3, .ref a5_4, .ref a5_5, .ref a5_6])), (a5_0, .inl (c5_0, 12, .inl (fun _ => 0))), (a5_1, .inl (c5_1, 120, .inl (upd f5_1 ((p0 * 10 + (0 : Int32)).toNatClampNeg) p1))), (a5_2, .inl (c5_2, 120, .inl (upd f5_2 ((p0 * 10 + (0 : Int32)).toNatClampNeg) p2))), (a5_3, .inl (c5_3, 120, .inl (upd f5_3 ((p0 * 10 + (0 : Int32)).toNatClampNeg) p3))), (a5_4, .inl (c5_4, 120, .inl (upd f5_4 ((p0 * 10 + (0 : Int32)).toNatClampNeg) (-1)))), (a5_5, .inl (c5_5, 120, .inl f5_5)), (a5_6, .inl (c5_6, 120, .inl f5_6))]) h (va_runS (As := [.int p1, .int p3, .int p4]) (rest := [.int (p0 * 10 + (0 : Int32)), .ref a5_5]) E (c_X5_readsOf l dC dI _ (p0 := p1) (p1 := p3) (p2 := p4)  (hp := (by first | decide | omega))) (va_cwS 3 E.2.2.2.2 gX5_add_X5_readsOf rfl rfl rfl (by decide +kernel) ⟨Nat.le_of_ble_eq_true rfl, Nat.le_of_ble_eq_true rfl⟩) (kPreS h KSt.blind (KSt.call hX h [] rfl) [] [] (by decide) rfl rfl) rfl rfl hl.1 rfl (lv_room (Nat.le_of_ble_eq_true rfl)) dX5_add_81 ⟨Nat.le_of_ble_eq_true rfl, Nat.le_of_ble_eq_true rfl⟩) [] [0, 1, 2, 3, 4, 5, 6, 7] rfl rfl (by decide) (by decide) (fun r_6 u_6 H locs hw_6 h => ?_)
      have h : KS (dC, dI) A [(o5, .inr (5, [.ref a5_0, .ref a5_1, .ref a5_2, .ref a5_3, .ref a5_4, .ref a5_5, .ref a5_6])), (a5_0, .inl (c5_0, 12, .inl (fun _ => 0))), (a5_1, .inl (c5_1, 120, .inl (upd f5_1 ((p0 * 10 + (0 : Int32)).toNatClampNeg) p1))), (a5_2, .inl (c5_2, 120, .inl (upd f5_2 ((p0 * 10 + (0 : Int32)).toNatClampNeg) p2))), (a5_3, .inl (c5_3, 120, .inl (upd f5_3 ((p0 * 10 + (0 : Int32)).toNatClampNeg) p3))), (a5_4, .inl (c5_4, 120, .inl (upd f5_4 ((p0 * 10 + (0 : Int32)).toNatClampNeg) (-1)))), (a5_5, .inl (c5_5, 120, .inl f5_5)), (a5_6, .inl (c5_6, 120, .inl f5_6))] [(c5_0, .int), (c5_1, .int), (c5_2, .int), (c5_3, .int), (c5_4, .int), (c5_5, .int), (c5_6, .int)] s H locs := h
      refine W.eq (g2 := F0 m 84 ls [.int r_6, .int (p0 * 10 + (0 : Int32)), .ref a5_5]) rfl ?_
      refine k_iast (j := (p0 * 10 + (0 : Int32)).toNatClampNeg) (ws' := [(o5, .inr (5, [.ref a5_0, .ref a5_1, .ref a5_2, .ref a5_3, .ref a5_4, .ref a5_5, .ref a5_6])), (a5_0, .inl (c5_0, 12, .inl (fun _ => 0))), (a5_1, .inl (c5_1, 120, .inl (upd f5_1 ((p0 * 10 + (0 : Int32)).toNatClampNeg) p1))), (a5_2, .inl (c5_2, 120, .inl (upd f5_2 ((p0 * 10 + (0 : Int32)).toNatClampNeg) p2))), (a5_3, .inl (c5_3, 120, .inl (upd f5_3 ((p0 * 10 + (0 : Int32)).toNatClampNeg) p3))), (a5_4, .inl (c5_4, 120, .inl (upd f5_4 ((p0 * 10 + (0 : Int32)).toNatClampNeg) (-1)))), (a5_5, .inl (c5_5, 120, .inl (upd f5_5 ((p0 * 10 + (0 : Int32)).toNatClampNeg) r_6))), (a5_6, .inl (c5_6, 120, .inl f5_6))]) E h 6 5 rfl rfl (vp_in_iff.mpr (by omega)) rfl rfl dX5_add_84 (fun H locs h => ?_)
      refine lv_aload_n hx hb dX5_add_85 rfl (lv_at hl 1 rfl) ?_
      refine k_get (v := .ref a5_6) E h (fun w h => List.mem_cons_of_mem _ (List.mem_append_right _ h)) 0 rfl rfl 6 (by decide) (List.mem_of_getElem? (i := 7) rfl) rfl dX5_add_86 ?_
      refine lv_iload hx hb dX5_add_89 (lv_at hl 0 rfl) ?_
      refine lv_iload_n hx hb dX5_add_91 rfl (lv_at hl 3 rfl) ?_
      refine lv_iload_n hx hb dX5_add_92 rfl (lv_at hl 4 rfl) ?_
      refine kc_i (wc := []) (wr := [(o5, .inr (5, [.ref a5_0, .ref a5_1, .ref a5_2, .ref a5_3, .ref a5_4, .ref a5_5, .ref a5_6])), (a5_0, .inl (c5_0, 12, .inl (fun _ => 0))), (a5_1, .inl (c5_1, 120, .inl (upd f5_1 ((p0 * 10 + (0 : Int32)).toNatClampNeg) p1))), (a5_2, .inl (c5_2, 120, .inl (upd f5_2 ((p0 * 10 + (0 : Int32)).toNatClampNeg) p2))), (a5_3, .inl (c5_3, 120, .inl (upd f5_3 ((p0 * 10 + (0 : Int32)).toNatClampNeg) p3))), (a5_4, .inl (c5_4, 120, .inl (upd f5_4 ((p0 * 10 + (0 : Int32)).toNatClampNeg) (-1)))), (a5_5, .inl (c5_5, 120, .inl (upd f5_5 ((p0 * 10 + (0 : Int32)).toNatClampNeg) r_6))), (a5_6, .inl (c5_6, 120, .inl f5_6))]) h (va_runS (As := [.int p1, .int p2]) (rest := [.int (p0 * 10 + (0 : Int32)), .ref a5_6]) E (c_X5_writesOf l dC dI _ (p0 := p1) (p1 := p2)  (hp := (by first | decide | omega))) (va_cwS 2 E.2.2.2.2 gX5_add_X5_writesOf rfl rfl rfl (by decide +kernel) ⟨Nat.le_of_ble_eq_true rfl, Nat.le_of_ble_eq_true rfl⟩) (kPreS h KSt.blind (KSt.call hX h [] rfl) [] [] (by decide) rfl rfl) rfl rfl hl.1 rfl (lv_room (Nat.le_of_ble_eq_true rfl)) dX5_add_93 ⟨Nat.le_of_ble_eq_true rfl, Nat.le_of_ble_eq_true rfl⟩) [] [0, 1, 2, 3, 4, 5, 6, 7] rfl rfl (by decide) (by decide) (fun r_7 u_7 H locs hw_7 h => ?_)
      have h : KS (dC, dI) A [(o5, .inr (5, [.ref a5_0, .ref a5_1, .ref a5_2, .ref a5_3, .ref a5_4, .ref a5_5, .ref a5_6])), (a5_0, .inl (c5_0, 12, .inl (fun _ => 0))), (a5_1, .inl (c5_1, 120, .inl (upd f5_1 ((p0 * 10 + (0 : Int32)).toNatClampNeg) p1))), (a5_2, .inl (c5_2, 120, .inl (upd f5_2 ((p0 * 10 + (0 : Int32)).toNatClampNeg) p2))), (a5_3, .inl (c5_3, 120, .inl (upd f5_3 ((p0 * 10 + (0 : Int32)).toNatClampNeg) p3))), (a5_4, .inl (c5_4, 120, .inl (upd f5_4 ((p0 * 10 + (0 : Int32)).toNatClampNeg) (-1)))), (a5_5, .inl (c5_5, 120, .inl (upd f5_5 ((p0 * 10 + (0 : Int32)).toNatClampNeg) r_6))), (a5_6, .inl (c5_6, 120, .inl f5_6))] [(c5_0, .int), (c5_1, .int), (c5_2, .int), (c5_3, .int), (c5_4, .int), (c5_5, .int), (c5_6, .int)] s H locs := h
      refine W.eq (g2 := F0 m 96 ls [.int r_7, .int (p0 * 10 + (0 : Int32)), .ref a5_6]) rfl ?_
      refine k_iast (j := (p0 * 10 + (0 : Int32)).toNatClampNeg) (ws' := [(o5, .inr (5, [.ref a5_0, .ref a5_1, .ref a5_2, .ref a5_3, .ref a5_4, .ref a5_5, .ref a5_6])), (a5_0, .inl (c5_0, 12, .inl (fun _ => 0))), (a5_1, .inl (c5_1, 120, .inl (upd f5_1 ((p0 * 10 + (0 : Int32)).toNatClampNeg) p1))), (a5_2, .inl (c5_2, 120, .inl (upd f5_2 ((p0 * 10 + (0 : Int32)).toNatClampNeg) p2))), (a5_3, .inl (c5_3, 120, .inl (upd f5_3 ((p0 * 10 + (0 : Int32)).toNatClampNeg) p3))), (a5_4, .inl (c5_4, 120, .inl (upd f5_4 ((p0 * 10 + (0 : Int32)).toNatClampNeg) (-1)))), (a5_5, .inl (c5_5, 120, .inl (upd f5_5 ((p0 * 10 + (0 : Int32)).toNatClampNeg) r_6))), (a5_6, .inl (c5_6, 120, .inl (upd f5_6 ((p0 * 10 + (0 : Int32)).toNatClampNeg) r_7)))]) E h 7 6 rfl rfl (vp_in_iff.mpr (by omega)) rfl rfl dX5_add_96 (fun H locs h => ?_)
      refine lv_aload_n hx hb dX5_add_97 rfl (lv_at hl 1 rfl) ?_
      refine k_get (v := .ref a5_0) E h (fun w h => List.mem_cons_of_mem _ (List.mem_append_right _ h)) 0 rfl rfl 0 (by decide) (List.mem_of_getElem? (i := 1) rfl) rfl dX5_add_98 ?_
      refine lv_iload_n hx hb dX5_add_101 rfl (lv_at hl 2 rfl) ?_
      refine lv_dup2_11 hx hb dX5_add_102 rfl rfl ?_
      refine k_iald (v := 0) E h 1 0 rfl rfl (vp_in_iff.mpr (by omega)) rfl dX5_add_103 ?_
      refine lv_iconst (v := 1) hx hb dX5_add_104 (by decide) ?_
      refine lv_iadd hx hb dX5_add_105 ?_
      refine k_topi (y := 1) (by decide) ?_
      refine k_iast (j := p0.toNatClampNeg) (ws' := [(o5, .inr (5, [.ref a5_0, .ref a5_1, .ref a5_2, .ref a5_3, .ref a5_4, .ref a5_5, .ref a5_6])), (a5_0, .inl (c5_0, 12, .inl (upd (fun _ => 0) p0.toNatClampNeg 1))), (a5_1, .inl (c5_1, 120, .inl (upd f5_1 ((p0 * 10 + (0 : Int32)).toNatClampNeg) p1))), (a5_2, .inl (c5_2, 120, .inl (upd f5_2 ((p0 * 10 + (0 : Int32)).toNatClampNeg) p2))), (a5_3, .inl (c5_3, 120, .inl (upd f5_3 ((p0 * 10 + (0 : Int32)).toNatClampNeg) p3))), (a5_4, .inl (c5_4, 120, .inl (upd f5_4 ((p0 * 10 + (0 : Int32)).toNatClampNeg) (-1)))), (a5_5, .inl (c5_5, 120, .inl (upd f5_5 ((p0 * 10 + (0 : Int32)).toNatClampNeg) r_6))), (a5_6, .inl (c5_6, 120, .inl (upd f5_6 ((p0 * 10 + (0 : Int32)).toNatClampNeg) r_7)))]) E h 1 0 rfl rfl (vp_in_iff.mpr (by omega)) rfl rfl dX5_add_106 (fun H locs h => ?_)
      have hP9 := h.2.1.sub [0, 1] rfl
      have hD9 := h.2.2.1.sub (ws' := [(o5, .inr (5, [.ref a5_0, .ref a5_1, .ref a5_2, .ref a5_3, .ref a5_4, .ref a5_5, .ref a5_6])), (a5_0, .inl (c5_0, 12, .inl (upd (fun _ => 0) p0.toNatClampNeg 1)))]) [0, 1] (by decide) rfl
      exact W.vret hx hb hr (fun t ht hW => ⟨⟨(), rfl, trivial, (by rw [ht]; exact hP9), hD9⟩, h.2.2.2.1.F ht⟩) h.2.2.2.1.2.2 dX5_add_107 hlocks
  · skip
    have i_2 : (kTabD p1.toNatClampNeg).toInt = 0 := (fa_eq _ _).mp c_2
    refine lv_iconst (v := -1) hx hb dX5_add_34 (by decide) ?_
    refine lv_goto (tgt := 39) hx hb dX5_add_35 (by decide) ?_
    refine k_iast (j := (p0 * 10 + (0 : Int32)).toNatClampNeg) (ws' := [(o5, .inr (5, [.ref a5_0, .ref a5_1, .ref a5_2, .ref a5_3, .ref a5_4, .ref a5_5, .ref a5_6])), (a5_0, .inl (c5_0, 12, .inl (fun _ => 0))), (a5_1, .inl (c5_1, 120, .inl (upd f5_1 ((p0 * 10 + (0 : Int32)).toNatClampNeg) p1))), (a5_2, .inl (c5_2, 120, .inl (upd f5_2 ((p0 * 10 + (0 : Int32)).toNatClampNeg) (-1)))), (a5_3, .inl (c5_3, 120, .inl f5_3)), (a5_4, .inl (c5_4, 120, .inl f5_4)), (a5_5, .inl (c5_5, 120, .inl f5_5)), (a5_6, .inl (c5_6, 120, .inl f5_6))]) E h 3 2 rfl rfl (vp_in_iff.mpr (by omega)) rfl rfl dX5_add_39 (fun H locs h => ?_)
    refine lv_aload_n hx hb dX5_add_40 rfl (lv_at hl 1 rfl) ?_
    refine k_get (v := .ref a5_3) E h (fun w h => List.mem_cons_of_mem _ (List.mem_append_right _ h)) 0 rfl rfl 3 (by decide) (List.mem_of_getElem? (i := 4) rfl) rfl dX5_add_41 ?_
    refine lv_iload hx hb dX5_add_44 (lv_at hl 0 rfl) ?_
    refine lv_iload hx hb dX5_add_46 (lv_at hl 5 rfl) ?_
    refine k_iast (j := (p0 * 10 + (0 : Int32)).toNatClampNeg) (ws' := [(o5, .inr (5, [.ref a5_0, .ref a5_1, .ref a5_2, .ref a5_3, .ref a5_4, .ref a5_5, .ref a5_6])), (a5_0, .inl (c5_0, 12, .inl (fun _ => 0))), (a5_1, .inl (c5_1, 120, .inl (upd f5_1 ((p0 * 10 + (0 : Int32)).toNatClampNeg) p1))), (a5_2, .inl (c5_2, 120, .inl (upd f5_2 ((p0 * 10 + (0 : Int32)).toNatClampNeg) (-1)))), (a5_3, .inl (c5_3, 120, .inl (upd f5_3 ((p0 * 10 + (0 : Int32)).toNatClampNeg) p3))), (a5_4, .inl (c5_4, 120, .inl f5_4)), (a5_5, .inl (c5_5, 120, .inl f5_5)), (a5_6, .inl (c5_6, 120, .inl f5_6))]) E h 4 3 rfl rfl (vp_in_iff.mpr (by omega)) rfl rfl dX5_add_48 (fun H locs h => ?_)
    refine lv_aload_n hx hb dX5_add_49 rfl (lv_at hl 1 rfl) ?_
    refine k_get (v := .ref a5_4) E h (fun w h => List.mem_cons_of_mem _ (List.mem_append_right _ h)) 0 rfl rfl 4 (by decide) (List.mem_of_getElem? (i := 5) rfl) rfl dX5_add_50 ?_
    refine lv_iload hx hb dX5_add_53 (lv_at hl 0 rfl) ?_
    refine va_getsN (v := .ref tY) hx hb hZY h.2.2.2.1 E.2.2.2.1 (va_Nw.use rfl hN40) (fun _ h9 => h9) dX5_add_55 ?_
    refine lv_iload_n hx hb dX5_add_58 rfl (lv_at hl 3 rfl) ?_
    refine W.eq (g2 := F0 m 59 ls [.int p1, .ref tY, .int (p0 * 10 + (0 : Int32)), .ref a5_4]) rfl ?_
    refine va_ti (v := .int (kTabY p1.toNatClampNeg)) hx hb hTY h.2.2.2.1 (vp_in_iff.mpr (by omega)) rfl dX5_add_59 ?_
    refine lv_if_ne (tgt := 67) hx hb dX5_add_60 (by decide) (fun c_8 => ?_) (fun c_8 => ?_)
    · skip
      have i_8 : ¬ (kTabY p1.toNatClampNeg).toInt = 0 := fun h9 => c_8 ((fa_eq _ _).mpr h9)
      refine lv_iload hx hb dX5_add_67 (lv_at hl 6 rfl) ?_
      refine k_iast (j := (p0 * 10 + (0 : Int32)).toNatClampNeg) (ws' := [(o5, .inr (5, [.ref a5_0, .ref a5_1, .ref a5_2, .ref a5_3, .ref a5_4, .ref a5_5, .ref a5_6])), (a5_0, .inl (c5_0, 12, .inl (fun _ => 0))), (a5_1, .inl (c5_1, 120, .inl (upd f5_1 ((p0 * 10 + (0 : Int32)).toNatClampNeg) p1))), (a5_2, .inl (c5_2, 120, .inl (upd f5_2 ((p0 * 10 + (0 : Int32)).toNatClampNeg) (-1)))), (a5_3, .inl (c5_3, 120, .inl (upd f5_3 ((p0 * 10 + (0 : Int32)).toNatClampNeg) p3))), (a5_4, .inl (c5_4, 120, .inl (upd f5_4 ((p0 * 10 + (0 : Int32)).toNatClampNeg) p4))), (a5_5, .inl (c5_5, 120, .inl f5_5)), (a5_6, .inl (c5_6, 120, .inl f5_6))]) E h 5 4 rfl rfl (vp_in_iff.mpr (by omega)) rfl rfl dX5_add_69 (fun H locs h => ?_)
      refine lv_aload_n hx hb dX5_add_70 rfl (lv_at hl 1 rfl) ?_
      refine k_get (v := .ref a5_5) E h (fun w h => List.mem_cons_of_mem _ (List.mem_append_right _ h)) 0 rfl rfl 5 (by decide) (List.mem_of_getElem? (i := 6) rfl) rfl dX5_add_71 ?_
      refine lv_iload hx hb dX5_add_74 (lv_at hl 0 rfl) ?_
      refine lv_iload_n hx hb dX5_add_76 rfl (lv_at hl 3 rfl) ?_
      refine lv_iload hx hb dX5_add_77 (lv_at hl 5 rfl) ?_
      refine lv_iload hx hb dX5_add_79 (lv_at hl 6 rfl) ?_
      refine kc_i (wc := []) (wr := [(o5, .inr (5, [.ref a5_0, .ref a5_1, .ref a5_2, .ref a5_3, .ref a5_4, .ref a5_5, .ref a5_6])), (a5_0, .inl (c5_0, 12, .inl (fun _ => 0))), (a5_1, .inl (c5_1, 120, .inl (upd f5_1 ((p0 * 10 + (0 : Int32)).toNatClampNeg) p1))), (a5_2, .inl (c5_2, 120, .inl (upd f5_2 ((p0 * 10 + (0 : Int32)).toNatClampNeg) (-1)))), (a5_3, .inl (c5_3, 120, .inl (upd f5_3 ((p0 * 10 + (0 : Int32)).toNatClampNeg) p3))), (a5_4, .inl (c5_4, 120, .inl (upd f5_4 ((p0 * 10 + (0 : Int32)).toNatClampNeg) p4))), (a5_5, .inl (c5_5, 120, .inl f5_5)), (a5_6, .inl (c5_6, 120, .inl f5_6))]) h (va_runS (As := [.int p1, .int p3, .int p4]) (rest := [.int (p0 * 10 + (0 : Int32)), .ref a5_5]) E (c_X5_readsOf l dC dI _ (p0 := p1) (p1 := p3) (p2 := p4)  (hp := (by first | decide | omega))) (va_cwS 3 E.2.2.2.2 gX5_add_X5_readsOf rfl rfl rfl (by decide +kernel) ⟨Nat.le_of_ble_eq_true rfl, Nat.le_of_ble_eq_true rfl⟩) (kPreS h KSt.blind (KSt.call hX h [] rfl) [] [] (by decide) rfl rfl) rfl rfl hl.1 rfl (lv_room (Nat.le_of_ble_eq_true rfl)) dX5_add_81 ⟨Nat.le_of_ble_eq_true rfl, Nat.le_of_ble_eq_true rfl⟩) [] [0, 1, 2, 3, 4, 5, 6, 7] rfl rfl (by decide) (by decide) (fun r_9 u_9 H locs hw_9 h => ?_)
      have h : KS (dC, dI) A [(o5, .inr (5, [.ref a5_0, .ref a5_1, .ref a5_2, .ref a5_3, .ref a5_4, .ref a5_5, .ref a5_6])), (a5_0, .inl (c5_0, 12, .inl (fun _ => 0))), (a5_1, .inl (c5_1, 120, .inl (upd f5_1 ((p0 * 10 + (0 : Int32)).toNatClampNeg) p1))), (a5_2, .inl (c5_2, 120, .inl (upd f5_2 ((p0 * 10 + (0 : Int32)).toNatClampNeg) (-1)))), (a5_3, .inl (c5_3, 120, .inl (upd f5_3 ((p0 * 10 + (0 : Int32)).toNatClampNeg) p3))), (a5_4, .inl (c5_4, 120, .inl (upd f5_4 ((p0 * 10 + (0 : Int32)).toNatClampNeg) p4))), (a5_5, .inl (c5_5, 120, .inl f5_5)), (a5_6, .inl (c5_6, 120, .inl f5_6))] [(c5_0, .int), (c5_1, .int), (c5_2, .int), (c5_3, .int), (c5_4, .int), (c5_5, .int), (c5_6, .int)] s H locs := h
      refine W.eq (g2 := F0 m 84 ls [.int r_9, .int (p0 * 10 + (0 : Int32)), .ref a5_5]) rfl ?_
      refine k_iast (j := (p0 * 10 + (0 : Int32)).toNatClampNeg) (ws' := [(o5, .inr (5, [.ref a5_0, .ref a5_1, .ref a5_2, .ref a5_3, .ref a5_4, .ref a5_5, .ref a5_6])), (a5_0, .inl (c5_0, 12, .inl (fun _ => 0))), (a5_1, .inl (c5_1, 120, .inl (upd f5_1 ((p0 * 10 + (0 : Int32)).toNatClampNeg) p1))), (a5_2, .inl (c5_2, 120, .inl (upd f5_2 ((p0 * 10 + (0 : Int32)).toNatClampNeg) (-1)))), (a5_3, .inl (c5_3, 120, .inl (upd f5_3 ((p0 * 10 + (0 : Int32)).toNatClampNeg) p3))), (a5_4, .inl (c5_4, 120, .inl (upd f5_4 ((p0 * 10 + (0 : Int32)).toNatClampNeg) p4))), (a5_5, .inl (c5_5, 120, .inl (upd f5_5 ((p0 * 10 + (0 : Int32)).toNatClampNeg) r_9))), (a5_6, .inl (c5_6, 120, .inl f5_6))]) E h 6 5 rfl rfl (vp_in_iff.mpr (by omega)) rfl rfl dX5_add_84 (fun H locs h => ?_)
      refine lv_aload_n hx hb dX5_add_85 rfl (lv_at hl 1 rfl) ?_
      refine k_get (v := .ref a5_6) E h (fun w h => List.mem_cons_of_mem _ (List.mem_append_right _ h)) 0 rfl rfl 6 (by decide) (List.mem_of_getElem? (i := 7) rfl) rfl dX5_add_86 ?_
      refine lv_iload hx hb dX5_add_89 (lv_at hl 0 rfl) ?_
      refine lv_iload_n hx hb dX5_add_91 rfl (lv_at hl 3 rfl) ?_
      refine lv_iload_n hx hb dX5_add_92 rfl (lv_at hl 4 rfl) ?_
      refine kc_i (wc := []) (wr := [(o5, .inr (5, [.ref a5_0, .ref a5_1, .ref a5_2, .ref a5_3, .ref a5_4, .ref a5_5, .ref a5_6])), (a5_0, .inl (c5_0, 12, .inl (fun _ => 0))), (a5_1, .inl (c5_1, 120, .inl (upd f5_1 ((p0 * 10 + (0 : Int32)).toNatClampNeg) p1))), (a5_2, .inl (c5_2, 120, .inl (upd f5_2 ((p0 * 10 + (0 : Int32)).toNatClampNeg) (-1)))), (a5_3, .inl (c5_3, 120, .inl (upd f5_3 ((p0 * 10 + (0 : Int32)).toNatClampNeg) p3))), (a5_4, .inl (c5_4, 120, .inl (upd f5_4 ((p0 * 10 + (0 : Int32)).toNatClampNeg) p4))), (a5_5, .inl (c5_5, 120, .inl (upd f5_5 ((p0 * 10 + (0 : Int32)).toNatClampNeg) r_9))), (a5_6, .inl (c5_6, 120, .inl f5_6))]) h (va_runS (As := [.int p1, .int p2]) (rest := [.int (p0 * 10 + (0 : Int32)), .ref a5_6]) E (c_X5_writesOf l dC dI _ (p0 := p1) (p1 := p2)  (hp := (by first | decide | omega))) (va_cwS 2 E.2.2.2.2 gX5_add_X5_writesOf rfl rfl rfl (by decide +kernel) ⟨Nat.le_of_ble_eq_true rfl, Nat.le_of_ble_eq_true rfl⟩) (kPreS h KSt.blind (KSt.call hX h [] rfl) [] [] (by decide) rfl rfl) rfl rfl hl.1 rfl (lv_room (Nat.le_of_ble_eq_true rfl)) dX5_add_93 ⟨Nat.le_of_ble_eq_true rfl, Nat.le_of_ble_eq_true rfl⟩) [] [0, 1, 2, 3, 4, 5, 6, 7] rfl rfl (by decide) (by decide) (fun r_10 u_10 H locs hw_10 h => ?_)
      have h : KS (dC, dI) A [(o5, .inr (5, [.ref a5_0, .ref a5_1, .ref a5_2, .ref a5_3, .ref a5_4, .ref a5_5, .ref a5_6])), (a5_0, .inl (c5_0, 12, .inl (fun _ => 0))), (a5_1, .inl (c5_1, 120, .inl (upd f5_1 ((p0 * 10 + (0 : Int32)).toNatClampNeg) p1))), (a5_2, .inl (c5_2, 120, .inl (upd f5_2 ((p0 * 10 + (0 : Int32)).toNatClampNeg) (-1)))), (a5_3, .inl (c5_3, 120, .inl (upd f5_3 ((p0 * 10 + (0 : Int32)).toNatClampNeg) p3))), (a5_4, .inl (c5_4, 120, .inl (upd f5_4 ((p0 * 10 + (0 : Int32)).toNatClampNeg) p4))), (a5_5, .inl (c5_5, 120, .inl (upd f5_5 ((p0 * 10 + (0 : Int32)).toNatClampNeg) r_9))), (a5_6, .inl (c5_6, 120, .inl f5_6))] [(c5_0, .int), (c5_1, .int), (c5_2, .int), (c5_3, .int), (c5_4, .int), (c5_5, .int), (c5_6, .int)] s H locs := h
      refine W.eq (g2 := F0 m 96 ls [.int r_10, .int (p0 * 10 + (0 : Int32)), .ref a5_6]) rfl ?_
      refine k_iast (j := (p0 * 10 + (0 : Int32)).toNatClampNeg) (ws' := [(o5, .inr (5, [.ref a5_0, .ref a5_1, .ref a5_2, .ref a5_3, .ref a5_4, .ref a5_5, .ref a5_6])), (a5_0, .inl (c5_0, 12, .inl (fun _ => 0))), (a5_1, .inl (c5_1, 120, .inl (upd f5_1 ((p0 * 10 + (0 : Int32)).toNatClampNeg) p1))), (a5_2, .inl (c5_2, 120, .inl (upd f5_2 ((p0 * 10 + (0 : Int32)).toNatClampNeg) (-1)))), (a5_3, .inl (c5_3, 120, .inl (upd f5_3 ((p0 * 10 + (0 : Int32)).toNatClampNeg) p3))), (a5_4, .inl (c5_4, 120, .inl (upd f5_4 ((p0 * 10 + (0 : Int32)).toNatClampNeg) p4))), (a5_5, .inl (c5_5, 120, .inl (upd f5_5 ((p0 * 10 + (0 : Int32)).toNatClampNeg) r_9))), (a5_6, .inl (c5_6, 120, .inl (upd f5_6 ((p0 * 10 + (0 : Int32)).toNatClampNeg) r_10)))]) E h 7 6 rfl rfl (vp_in_iff.mpr (by omega)) rfl rfl dX5_add_96 (fun H locs h => ?_)
      refine lv_aload_n hx hb dX5_add_97 rfl (lv_at hl 1 rfl) ?_
      refine k_get (v := .ref a5_0) E h (fun w h => List.mem_cons_of_mem _ (List.mem_append_right _ h)) 0 rfl rfl 0 (by decide) (List.mem_of_getElem? (i := 1) rfl) rfl dX5_add_98 ?_
      refine lv_iload_n hx hb dX5_add_101 rfl (lv_at hl 2 rfl) ?_
      refine lv_dup2_11 hx hb dX5_add_102 rfl rfl ?_
      refine k_iald (v := 0) E h 1 0 rfl rfl (vp_in_iff.mpr (by omega)) rfl dX5_add_103 ?_
      refine lv_iconst (v := 1) hx hb dX5_add_104 (by decide) ?_
      refine lv_iadd hx hb dX5_add_105 ?_
      refine k_topi (y := 1) (by decide) ?_
      refine k_iast (j := p0.toNatClampNeg) (ws' := [(o5, .inr (5, [.ref a5_0, .ref a5_1, .ref a5_2, .ref a5_3, .ref a5_4, .ref a5_5, .ref a5_6])), (a5_0, .inl (c5_0, 12, .inl (upd (fun _ => 0) p0.toNatClampNeg 1))), (a5_1, .inl (c5_1, 120, .inl (upd f5_1 ((p0 * 10 + (0 : Int32)).toNatClampNeg) p1))), (a5_2, .inl (c5_2, 120, .inl (upd f5_2 ((p0 * 10 + (0 : Int32)).toNatClampNeg) (-1)))), (a5_3, .inl (c5_3, 120, .inl (upd f5_3 ((p0 * 10 + (0 : Int32)).toNatClampNeg) p3))), (a5_4, .inl (c5_4, 120, .inl (upd f5_4 ((p0 * 10 + (0 : Int32)).toNatClampNeg) p4))), (a5_5, .inl (c5_5, 120, .inl (upd f5_5 ((p0 * 10 + (0 : Int32)).toNatClampNeg) r_9))), (a5_6, .inl (c5_6, 120, .inl (upd f5_6 ((p0 * 10 + (0 : Int32)).toNatClampNeg) r_10)))]) E h 1 0 rfl rfl (vp_in_iff.mpr (by omega)) rfl rfl dX5_add_106 (fun H locs h => ?_)
      have hP9 := h.2.1.sub [0, 1] rfl
      have hD9 := h.2.2.1.sub (ws' := [(o5, .inr (5, [.ref a5_0, .ref a5_1, .ref a5_2, .ref a5_3, .ref a5_4, .ref a5_5, .ref a5_6])), (a5_0, .inl (c5_0, 12, .inl (upd (fun _ => 0) p0.toNatClampNeg 1)))]) [0, 1] (by decide) rfl
      exact W.vret hx hb hr (fun t ht hW => ⟨⟨(), rfl, trivial, (by rw [ht]; exact hP9), hD9⟩, h.2.2.2.1.F ht⟩) h.2.2.2.1.2.2 dX5_add_107 hlocks
    · skip
      have i_8 : (kTabY p1.toNatClampNeg).toInt = 0 := (fa_eq _ _).mp c_8
      refine lv_iconst (v := -1) hx hb dX5_add_63 (by decide) ?_
      refine lv_goto (tgt := 69) hx hb dX5_add_64 (by decide) ?_
      refine k_iast (j := (p0 * 10 + (0 : Int32)).toNatClampNeg) (ws' := [(o5, .inr (5, [.ref a5_0, .ref a5_1, .ref a5_2, .ref a5_3, .ref a5_4, .ref a5_5, .ref a5_6])), (a5_0, .inl (c5_0, 12, .inl (fun _ => 0))), (a5_1, .inl (c5_1, 120, .inl (upd f5_1 ((p0 * 10 + (0 : Int32)).toNatClampNeg) p1))), (a5_2, .inl (c5_2, 120, .inl (upd f5_2 ((p0 * 10 + (0 : Int32)).toNatClampNeg) (-1)))), (a5_3, .inl (c5_3, 120, .inl (upd f5_3 ((p0 * 10 + (0 : Int32)).toNatClampNeg) p3))), (a5_4, .inl (c5_4, 120, .inl (upd f5_4 ((p0 * 10 + (0 : Int32)).toNatClampNeg) (-1)))), (a5_5, .inl (c5_5, 120, .inl f5_5)), (a5_6, .inl (c5_6, 120, .inl f5_6))]) E h 5 4 rfl rfl (vp_in_iff.mpr (by omega)) rfl rfl dX5_add_69 (fun H locs h => ?_)
      refine lv_aload_n hx hb dX5_add_70 rfl (lv_at hl 1 rfl) ?_
      refine k_get (v := .ref a5_5) E h (fun w h => List.mem_cons_of_mem _ (List.mem_append_right _ h)) 0 rfl rfl 5 (by decide) (List.mem_of_getElem? (i := 6) rfl) rfl dX5_add_71 ?_
      refine lv_iload hx hb dX5_add_74 (lv_at hl 0 rfl) ?_
      refine lv_iload_n hx hb dX5_add_76 rfl (lv_at hl 3 rfl) ?_
      refine lv_iload hx hb dX5_add_77 (lv_at hl 5 rfl) ?_
      refine lv_iload hx hb dX5_add_79 (lv_at hl 6 rfl) ?_
      refine kc_i (wc := []) (wr := [(o5, .inr (5, [.ref a5_0, .ref a5_1, .ref a5_2, .ref a5_3, .ref a5_4, .ref a5_5, .ref a5_6])), (a5_0, .inl (c5_0, 12, .inl (fun _ => 0))), (a5_1, .inl (c5_1, 120, .inl (upd f5_1 ((p0 * 10 + (0 : Int32)).toNatClampNeg) p1))), (a5_2, .inl (c5_2, 120, .inl (upd f5_2 ((p0 * 10 + (0 : Int32)).toNatClampNeg) (-1)))), (a5_3, .inl (c5_3, 120, .inl (upd f5_3 ((p0 * 10 + (0 : Int32)).toNatClampNeg) p3))), (a5_4, .inl (c5_4, 120, .inl (upd f5_4 ((p0 * 10 + (0 : Int32)).toNatClampNeg) (-1)))), (a5_5, .inl (c5_5, 120, .inl f5_5)), (a5_6, .inl (c5_6, 120, .inl f5_6))]) h (va_runS (As := [.int p1, .int p3, .int p4]) (rest := [.int (p0 * 10 + (0 : Int32)), .ref a5_5]) E (c_X5_readsOf l dC dI _ (p0 := p1) (p1 := p3) (p2 := p4)  (hp := (by first | decide | omega))) (va_cwS 3 E.2.2.2.2 gX5_add_X5_readsOf rfl rfl rfl (by decide +kernel) ⟨Nat.le_of_ble_eq_true rfl, Nat.le_of_ble_eq_true rfl⟩) (kPreS h KSt.blind (KSt.call hX h [] rfl) [] [] (by decide) rfl rfl) rfl rfl hl.1 rfl (lv_room (Nat.le_of_ble_eq_true rfl)) dX5_add_81 ⟨Nat.le_of_ble_eq_true rfl, Nat.le_of_ble_eq_true rfl⟩) [] [0, 1, 2, 3, 4, 5, 6, 7] rfl rfl (by decide) (by decide) (fun r_11 u_11 H locs hw_11 h => ?_)
      have h : KS (dC, dI) A [(o5, .inr (5, [.ref a5_0, .ref a5_1, .ref a5_2, .ref a5_3, .ref a5_4, .ref a5_5, .ref a5_6])), (a5_0, .inl (c5_0, 12, .inl (fun _ => 0))), (a5_1, .inl (c5_1, 120, .inl (upd f5_1 ((p0 * 10 + (0 : Int32)).toNatClampNeg) p1))), (a5_2, .inl (c5_2, 120, .inl (upd f5_2 ((p0 * 10 + (0 : Int32)).toNatClampNeg) (-1)))), (a5_3, .inl (c5_3, 120, .inl (upd f5_3 ((p0 * 10 + (0 : Int32)).toNatClampNeg) p3))), (a5_4, .inl (c5_4, 120, .inl (upd f5_4 ((p0 * 10 + (0 : Int32)).toNatClampNeg) (-1)))), (a5_5, .inl (c5_5, 120, .inl f5_5)), (a5_6, .inl (c5_6, 120, .inl f5_6))] [(c5_0, .int), (c5_1, .int), (c5_2, .int), (c5_3, .int), (c5_4, .int), (c5_5, .int), (c5_6, .int)] s H locs := h
      refine W.eq (g2 := F0 m 84 ls [.int r_11, .int (p0 * 10 + (0 : Int32)), .ref a5_5]) rfl ?_
      refine k_iast (j := (p0 * 10 + (0 : Int32)).toNatClampNeg) (ws' := [(o5, .inr (5, [.ref a5_0, .ref a5_1, .ref a5_2, .ref a5_3, .ref a5_4, .ref a5_5, .ref a5_6])), (a5_0, .inl (c5_0, 12, .inl (fun _ => 0))), (a5_1, .inl (c5_1, 120, .inl (upd f5_1 ((p0 * 10 + (0 : Int32)).toNatClampNeg) p1))), (a5_2, .inl (c5_2, 120, .inl (upd f5_2 ((p0 * 10 + (0 : Int32)).toNatClampNeg) (-1)))), (a5_3, .inl (c5_3, 120, .inl (upd f5_3 ((p0 * 10 + (0 : Int32)).toNatClampNeg) p3))), (a5_4, .inl (c5_4, 120, .inl (upd f5_4 ((p0 * 10 + (0 : Int32)).toNatClampNeg) (-1)))), (a5_5, .inl (c5_5, 120, .inl (upd f5_5 ((p0 * 10 + (0 : Int32)).toNatClampNeg) r_11))), (a5_6, .inl (c5_6, 120, .inl f5_6))]) E h 6 5 rfl rfl (vp_in_iff.mpr (by omega)) rfl rfl dX5_add_84 (fun H locs h => ?_)
      refine lv_aload_n hx hb dX5_add_85 rfl (lv_at hl 1 rfl) ?_
      refine k_get (v := .ref a5_6) E h (fun w h => List.mem_cons_of_mem _ (List.mem_append_right _ h)) 0 rfl rfl 6 (by decide) (List.mem_of_getElem? (i := 7) rfl) rfl dX5_add_86 ?_
      refine lv_iload hx hb dX5_add_89 (lv_at hl 0 rfl) ?_
      refine lv_iload_n hx hb dX5_add_91 rfl (lv_at hl 3 rfl) ?_
      refine lv_iload_n hx hb dX5_add_92 rfl (lv_at hl 4 rfl) ?_
      refine kc_i (wc := []) (wr := [(o5, .inr (5, [.ref a5_0, .ref a5_1, .ref a5_2, .ref a5_3, .ref a5_4, .ref a5_5, .ref a5_6])), (a5_0, .inl (c5_0, 12, .inl (fun _ => 0))), (a5_1, .inl (c5_1, 120, .inl (upd f5_1 ((p0 * 10 + (0 : Int32)).toNatClampNeg) p1))), (a5_2, .inl (c5_2, 120, .inl (upd f5_2 ((p0 * 10 + (0 : Int32)).toNatClampNeg) (-1)))), (a5_3, .inl (c5_3, 120, .inl (upd f5_3 ((p0 * 10 + (0 : Int32)).toNatClampNeg) p3))), (a5_4, .inl (c5_4, 120, .inl (upd f5_4 ((p0 * 10 + (0 : Int32)).toNatClampNeg) (-1)))), (a5_5, .inl (c5_5, 120, .inl (upd f5_5 ((p0 * 10 + (0 : Int32)).toNatClampNeg) r_11))), (a5_6, .inl (c5_6, 120, .inl f5_6))]) h (va_runS (As := [.int p1, .int p2]) (rest := [.int (p0 * 10 + (0 : Int32)), .ref a5_6]) E (c_X5_writesOf l dC dI _ (p0 := p1) (p1 := p2)  (hp := (by first | decide | omega))) (va_cwS 2 E.2.2.2.2 gX5_add_X5_writesOf rfl rfl rfl (by decide +kernel) ⟨Nat.le_of_ble_eq_true rfl, Nat.le_of_ble_eq_true rfl⟩) (kPreS h KSt.blind (KSt.call hX h [] rfl) [] [] (by decide) rfl rfl) rfl rfl hl.1 rfl (lv_room (Nat.le_of_ble_eq_true rfl)) dX5_add_93 ⟨Nat.le_of_ble_eq_true rfl, Nat.le_of_ble_eq_true rfl⟩) [] [0, 1, 2, 3, 4, 5, 6, 7] rfl rfl (by decide) (by decide) (fun r_12 u_12 H locs hw_12 h => ?_)
      have h : KS (dC, dI) A [(o5, .inr (5, [.ref a5_0, .ref a5_1, .ref a5_2, .ref a5_3, .ref a5_4, .ref a5_5, .ref a5_6])), (a5_0, .inl (c5_0, 12, .inl (fun _ => 0))), (a5_1, .inl (c5_1, 120, .inl (upd f5_1 ((p0 * 10 + (0 : Int32)).toNatClampNeg) p1))), (a5_2, .inl (c5_2, 120, .inl (upd f5_2 ((p0 * 10 + (0 : Int32)).toNatClampNeg) (-1)))), (a5_3, .inl (c5_3, 120, .inl (upd f5_3 ((p0 * 10 + (0 : Int32)).toNatClampNeg) p3))), (a5_4, .inl (c5_4, 120, .inl (upd f5_4 ((p0 * 10 + (0 : Int32)).toNatClampNeg) (-1)))), (a5_5, .inl (c5_5, 120, .inl (upd f5_5 ((p0 * 10 + (0 : Int32)).toNatClampNeg) r_11))), (a5_6, .inl (c5_6, 120, .inl f5_6))] [(c5_0, .int), (c5_1, .int), (c5_2, .int), (c5_3, .int), (c5_4, .int), (c5_5, .int), (c5_6, .int)] s H locs := h
      refine W.eq (g2 := F0 m 96 ls [.int r_12, .int (p0 * 10 + (0 : Int32)), .ref a5_6]) rfl ?_
      refine k_iast (j := (p0 * 10 + (0 : Int32)).toNatClampNeg) (ws' := [(o5, .inr (5, [.ref a5_0, .ref a5_1, .ref a5_2, .ref a5_3, .ref a5_4, .ref a5_5, .ref a5_6])), (a5_0, .inl (c5_0, 12, .inl (fun _ => 0))), (a5_1, .inl (c5_1, 120, .inl (upd f5_1 ((p0 * 10 + (0 : Int32)).toNatClampNeg) p1))), (a5_2, .inl (c5_2, 120, .inl (upd f5_2 ((p0 * 10 + (0 : Int32)).toNatClampNeg) (-1)))), (a5_3, .inl (c5_3, 120, .inl (upd f5_3 ((p0 * 10 + (0 : Int32)).toNatClampNeg) p3))), (a5_4, .inl (c5_4, 120, .inl (upd f5_4 ((p0 * 10 + (0 : Int32)).toNatClampNeg) (-1)))), (a5_5, .inl (c5_5, 120, .inl (upd f5_5 ((p0 * 10 + (0 : Int32)).toNatClampNeg) r_11))), (a5_6, .inl (c5_6, 120, .inl (upd f5_6 ((p0 * 10 + (0 : Int32)).toNatClampNeg) r_12)))]) E h 7 6 rfl rfl (vp_in_iff.mpr (by omega)) rfl rfl dX5_add_96 (fun H locs h => ?_)
      refine lv_aload_n hx hb dX5_add_97 rfl (lv_at hl 1 rfl) ?_
      refine k_get (v := .ref a5_0) E h (fun w h => List.mem_cons_of_mem _ (List.mem_append_right _ h)) 0 rfl rfl 0 (by decide) (List.mem_of_getElem? (i := 1) rfl) rfl dX5_add_98 ?_
      refine lv_iload_n hx hb dX5_add_101 rfl (lv_at hl 2 rfl) ?_
      refine lv_dup2_11 hx hb dX5_add_102 rfl rfl ?_
      refine k_iald (v := 0) E h 1 0 rfl rfl (vp_in_iff.mpr (by omega)) rfl dX5_add_103 ?_
      refine lv_iconst (v := 1) hx hb dX5_add_104 (by decide) ?_
      refine lv_iadd hx hb dX5_add_105 ?_
      refine k_topi (y := 1) (by decide) ?_
      refine k_iast (j := p0.toNatClampNeg) (ws' := [(o5, .inr (5, [.ref a5_0, .ref a5_1, .ref a5_2, .ref a5_3, .ref a5_4, .ref a5_5, .ref a5_6])), (a5_0, .inl (c5_0, 12, .inl (upd (fun _ => 0) p0.toNatClampNeg 1))), (a5_1, .inl (c5_1, 120, .inl (upd f5_1 ((p0 * 10 + (0 : Int32)).toNatClampNeg) p1))), (a5_2, .inl (c5_2, 120, .inl (upd f5_2 ((p0 * 10 + (0 : Int32)).toNatClampNeg) (-1)))), (a5_3, .inl (c5_3, 120, .inl (upd f5_3 ((p0 * 10 + (0 : Int32)).toNatClampNeg) p3))), (a5_4, .inl (c5_4, 120, .inl (upd f5_4 ((p0 * 10 + (0 : Int32)).toNatClampNeg) (-1)))), (a5_5, .inl (c5_5, 120, .inl (upd f5_5 ((p0 * 10 + (0 : Int32)).toNatClampNeg) r_11))), (a5_6, .inl (c5_6, 120, .inl (upd f5_6 ((p0 * 10 + (0 : Int32)).toNatClampNeg) r_12)))]) E h 1 0 rfl rfl (vp_in_iff.mpr (by omega)) rfl rfl dX5_add_106 (fun H locs h => ?_)
      have hP9 := h.2.1.sub [0, 1] rfl
      have hD9 := h.2.2.1.sub (ws' := [(o5, .inr (5, [.ref a5_0, .ref a5_1, .ref a5_2, .ref a5_3, .ref a5_4, .ref a5_5, .ref a5_6])), (a5_0, .inl (c5_0, 12, .inl (upd (fun _ => 0) p0.toNatClampNeg 1)))]) [0, 1] (by decide) rfl
      exact W.vret hx hb hr (fun t ht hW => ⟨⟨(), rfl, trivial, (by rw [ht]; exact hP9), hD9⟩, h.2.2.2.1.F ht⟩) h.2.2.2.1.2.2 dX5_add_107 hlocks
set_option maxHeartbeats 4000000 in
set_option maxRecDepth 100000 in
theorem c_X7_takeAwayPackedOf (l : Launch) (dC : Nat → ClassId) (dI : Nat → Nat → Nat) (sz : Nat) (o7 : Nat) (o2 : Nat) (o5 : Nat) (o3 : Nat) (o4 : Nat) (o1 : Nat) (o0 : Nat) (a7_6 : Nat) (a7_7 : Nat) (v7_8 : Int32) (v7_9 : Int32) (v7_10 : Int32) (a7_11 : Nat) (v7_12 : Int32) (a7_13 : Nat) (v7_14 : Int32) (a7_15 : Nat) (a3_0 : Nat) (a3_1 : Nat) (a3_2 : Nat) (a3_3 : Nat) (v3_4 : Int32) (o6 : Nat) (c3_0 : ClassId) (f3_0 : Nat → Int32) (v4_0 : Int32) (v4_1 : Int32) (a4_2 : Nat) (a4_3 : Nat) (a4_4 : Nat) (a4_5 : Nat) (a4_6 : Nat) (p0 : Int32) (hp : 0 ≤ p0.toInt ∧ p0.toInt < 12) : Met l yX7_takeAwayPackedOf wsX7_takeAwayPackedOf ({ frames := 0, cells := 0, slots := 0, locals := 0 } : Room) (va_Pc [.ref o7, .int p0] (KPre (dC, dI) [(o7, .inr (7, [.ref o2, .ref o5, .ref o3, .ref o4, .ref o1, .ref o0, .ref a7_6, .ref a7_7, .int v7_8, .int v7_9, .int v7_10, .ref a7_11, .int v7_12, .ref a7_13, .int v7_14, .ref a7_15])), (o3, .inr (3, [.ref a3_0, .ref a3_1, .ref a3_2, .ref a3_3, .int v3_4, .ref o5, .ref o6])), (a3_0, .inl (c3_0, 12, .inl f3_0)), (o4, .inr (4, [.int v4_0, .int v4_1, .ref a4_2, .ref a4_3, .ref a4_4, .ref a4_5, .ref a4_6, .ref o5, .ref o3]))] [(c3_0, .boolean)] sz (fun _ => True))) (va_Qv (fun (u : Unit) => True) (KPost (dC, dI) (va_A [(o7, .inr (7, [.ref o2, .ref o5, .ref o3, .ref o4, .ref o1, .ref o0, .ref a7_6, .ref a7_7, .int v7_8, .int v7_9, .int v7_10, .ref a7_11, .int v7_12, .ref a7_13, .int v7_14, .ref a7_15])), (o3, .inr (3, [.ref a3_0, .ref a3_1, .ref a3_2, .ref a3_3, .int v3_4, .ref o5, .ref o6])), (a3_0, .inl (c3_0, 12, .inl f3_0)), (o4, .inr (4, [.int v4_0, .int v4_1, .ref a4_2, .ref a4_3, .ref a4_4, .ref a4_5, .ref a4_6, .ref o5, .ref o3]))] sz) (fun (u : Unit) => [(o7, .inr (7, [.ref o2, .ref o5, .ref o3, .ref o4, .ref o1, .ref o0, .ref a7_6, .ref a7_7, .int v7_8, .int v7_9, .int v7_10, .ref a7_11, .int v7_12, .ref a7_13, .int v7_14, .ref a7_15])), (o3, .inr (3, [.ref a3_0, .ref a3_1, .ref a3_2, .ref a3_3, .int v3_4, .ref o5, .ref o6])), (a3_0, .inl (c3_0, 12, .inl (upd f3_0 p0.toNatClampNeg 0))), (o4, .inr (4, [.int 0, .int v4_1, .ref a4_2, .ref a4_3, .ref a4_4, .ref a4_5, .ref a4_6, .ref o5, .ref o3]))])) (va_A [(o7, .inr (7, [.ref o2, .ref o5, .ref o3, .ref o4, .ref o1, .ref o0, .ref a7_6, .ref a7_7, .int v7_8, .int v7_9, .int v7_10, .ref a7_11, .int v7_12, .ref a7_13, .int v7_14, .ref a7_15])), (o3, .inr (3, [.ref a3_0, .ref a3_1, .ref a3_2, .ref a3_3, .int v3_4, .ref o5, .ref o6])), (a3_0, .inl (c3_0, 12, .inl f3_0)), (o4, .inr (4, [.int v4_0, .int v4_1, .ref a4_2, .ref a4_3, .ref a4_4, .ref a4_5, .ref a4_6, .ref o5, .ref o3]))] sz)) 0 0 (va_A [(o7, .inr (7, [.ref o2, .ref o5, .ref o3, .ref o4, .ref o1, .ref o0, .ref a7_6, .ref a7_7, .int v7_8, .int v7_9, .int v7_10, .ref a7_11, .int v7_12, .ref a7_13, .int v7_14, .ref a7_15])), (o3, .inr (3, [.ref a3_0, .ref a3_1, .ref a3_2, .ref a3_3, .int v3_4, .ref o5, .ref o6])), (a3_0, .inl (c3_0, 12, .inl f3_0)), (o4, .inr (4, [.int v4_0, .int v4_1, .ref a4_2, .ref a4_3, .ref a4_4, .ref a4_5, .ref a4_6, .ref o5, .ref o3]))] sz) := by
  refine kMet (y := yX7_takeAwayPackedOf) (wsM := wsX7_takeAwayPackedOf) (cc := cX7_takeAwayPackedOf) (maxL := 2) (ret := none) (rm := ({ frames := 0, cells := 0, slots := 0, locals := 0 } : Room)) (mc := 0) (ms := 0) (av := [.ref o7, .int p0]) (D := (dC, dI)) (wc := [(o7, .inr (7, [.ref o2, .ref o5, .ref o3, .ref o4, .ref o1, .ref o0, .ref a7_6, .ref a7_7, .int v7_8, .int v7_9, .int v7_10, .ref a7_11, .int v7_12, .ref a7_13, .int v7_14, .ref a7_15])), (o3, .inr (3, [.ref a3_0, .ref a3_1, .ref a3_2, .ref a3_3, .int v3_4, .ref o5, .ref o6])), (a3_0, .inl (c3_0, 12, .inl f3_0)), (o4, .inr (4, [.int v4_0, .int v4_1, .ref a4_2, .ref a4_3, .ref a4_4, .ref a4_5, .ref a4_6, .ref o5, .ref o3]))]) (tc := [(c3_0, .boolean)]) (sz := sz) (X := fun _ => True) (Qc := fun A => va_Qv (fun (u : Unit) => True) (KPost (dC, dI) A (fun (u : Unit) => [(o7, .inr (7, [.ref o2, .ref o5, .ref o3, .ref o4, .ref o1, .ref o0, .ref a7_6, .ref a7_7, .int v7_8, .int v7_9, .int v7_10, .ref a7_11, .int v7_12, .ref a7_13, .int v7_14, .ref a7_15])), (o3, .inr (3, [.ref a3_0, .ref a3_1, .ref a3_2, .ref a3_3, .int v3_4, .ref o5, .ref o6])), (a3_0, .inl (c3_0, 12, .inl (upd f3_0 p0.toNatClampNeg 0))), (o4, .inr (4, [.int 0, .int v4_1, .ref a4_2, .ref a4_3, .ref a4_4, .ref a4_5, .ref a4_6, .ref o5, .ref o3]))])) A) (by decide) rfl (Nat.le_of_ble_eq_true rfl) ?_
  intro p e s m below meth c A ls E hr hlocks hnm hsz hAe hX h hl
  have hx := E.1
  have hb := E.2.1
  have hl : lv_has ls 2 [(0, .ref o7), (1, .int p0)] := hl
  refine lv_aload_n hx hb dX7_takeAwayPackedOf_0 rfl (lv_at hl 0 rfl) ?_
  refine k_get (v := .ref o3) E h (fun w h => List.mem_cons_of_mem _ (List.mem_append_left _ (List.mem_append_left _ (List.mem_append_right _ h)))) 0 rfl rfl 2 (by decide) (List.mem_of_getElem? (i := 1) rfl) rfl dX7_takeAwayPackedOf_1 ?_
  refine k_get (v := .ref a3_0) E h (fun w h => List.mem_cons_of_mem _ (List.mem_append_left _ (List.mem_append_right _ h))) 1 rfl rfl 0 (by decide) (List.mem_of_getElem? (i := 2) rfl) rfl dX7_takeAwayPackedOf_4 ?_
  refine lv_iload_n hx hb dX7_takeAwayPackedOf_7 rfl (lv_at hl 1 rfl) ?_
  refine lv_iconst (v := 0) hx hb dX7_takeAwayPackedOf_8 (by decide) ?_
  refine k_zast (j := p0.toNatClampNeg) (y := 0) (ws' := [(o7, .inr (7, [.ref o2, .ref o5, .ref o3, .ref o4, .ref o1, .ref o0, .ref a7_6, .ref a7_7, .int v7_8, .int v7_9, .int v7_10, .ref a7_11, .int v7_12, .ref a7_13, .int v7_14, .ref a7_15])), (o3, .inr (3, [.ref a3_0, .ref a3_1, .ref a3_2, .ref a3_3, .int v3_4, .ref o5, .ref o6])), (a3_0, .inl (c3_0, 12, .inl (upd f3_0 p0.toNatClampNeg 0))), (o4, .inr (4, [.int v4_0, .int v4_1, .ref a4_2, .ref a4_3, .ref a4_4, .ref a4_5, .ref a4_6, .ref o5, .ref o3]))]) E h 2 0 rfl rfl (vp_in_iff.mpr (by omega)) rfl (by decide) rfl dX7_takeAwayPackedOf_9 (fun H locs h => ?_)
  refine lv_aload_n hx hb dX7_takeAwayPackedOf_10 rfl (lv_at hl 0 rfl) ?_
  refine k_get (v := .ref o4) E h (fun w h => List.mem_cons_of_mem _ (List.mem_append_left _ (List.mem_append_left _ (List.mem_append_right _ h)))) 0 rfl rfl 3 (by decide) (List.mem_of_getElem? (i := 3) rfl) rfl dX7_takeAwayPackedOf_11 ?_
  refine lv_iconst (v := 0) hx hb dX7_takeAwayPackedOf_14 (by decide) ?_
  refine k_put (v := .int 0) (ty := .boolean) (ws' := [(o7, .inr (7, [.ref o2, .ref o5, .ref o3, .ref o4, .ref o1, .ref o0, .ref a7_6, .ref a7_7, .int v7_8, .int v7_9, .int v7_10, .ref a7_11, .int v7_12, .ref a7_13, .int v7_14, .ref a7_15])), (o3, .inr (3, [.ref a3_0, .ref a3_1, .ref a3_2, .ref a3_3, .int v3_4, .ref o5, .ref o6])), (a3_0, .inl (c3_0, 12, .inl (upd f3_0 p0.toNatClampNeg 0))), (o4, .inr (4, [.int 0, .int v4_1, .ref a4_2, .ref a4_3, .ref a4_4, .ref a4_5, .ref a4_6, .ref o5, .ref o3]))]) E h (fun w h => List.mem_cons_of_mem _ (List.mem_append_right _ h)) tyX4_ok nmX4 3 rfl rfl 0 (by decide) (List.mem_of_getElem? (i := 4) rfl) rfl (by decide +kernel) (by decide) rfl (Nat.le_of_ble_eq_true rfl) rfl dX7_takeAwayPackedOf_15 (fun H locs h => ?_)
  have hP9 := h.2.1.sub [0, 1, 2, 3] rfl
  have hD9 := h.2.2.1.sub (ws' := [(o7, .inr (7, [.ref o2, .ref o5, .ref o3, .ref o4, .ref o1, .ref o0, .ref a7_6, .ref a7_7, .int v7_8, .int v7_9, .int v7_10, .ref a7_11, .int v7_12, .ref a7_13, .int v7_14, .ref a7_15])), (o3, .inr (3, [.ref a3_0, .ref a3_1, .ref a3_2, .ref a3_3, .int v3_4, .ref o5, .ref o6])), (a3_0, .inl (c3_0, 12, .inl (upd f3_0 p0.toNatClampNeg 0))), (o4, .inr (4, [.int 0, .int v4_1, .ref a4_2, .ref a4_3, .ref a4_4, .ref a4_5, .ref a4_6, .ref o5, .ref o3]))]) [0, 1, 2, 3] (by decide) rfl
  exact W.vret hx hb hr (fun t ht hW => ⟨⟨(), rfl, trivial, (by rw [ht]; exact hP9), hD9⟩, h.2.2.2.1.F ht⟩) h.2.2.2.1.2.2 dX7_takeAwayPackedOf_18 hlocks
set_option maxHeartbeats 4000000 in
set_option maxRecDepth 100000 in
theorem c_X7_act (l : Launch) (dC : Nat → ClassId) (dI : Nat → Nat → Nat) (sz : Nat) (o7 : Nat) (o2 : Nat) (o5 : Nat) (o3 : Nat) (o4 : Nat) (o1 : Nat) (o0 : Nat) (a7_6 : Nat) (a7_7 : Nat) (a7_11 : Nat) (a7_13 : Nat) (a7_15 : Nat) (c7_15 : ClassId) (a5_0 : Nat) (a5_1 : Nat) (a5_2 : Nat) (a5_3 : Nat) (a5_4 : Nat) (a5_5 : Nat) (a5_6 : Nat) (c5_0 : ClassId) (c5_1 : ClassId) (c5_2 : ClassId) (c5_3 : ClassId) (c5_4 : ClassId) (c5_5 : ClassId) (c5_6 : ClassId) (a3_0 : Nat) (a3_1 : Nat) (a3_2 : Nat) (a3_3 : Nat) (o6 : Nat) (c3_0 : ClassId) (a4_2 : Nat) (a4_3 : Nat) (a4_4 : Nat) (a4_5 : Nat) (a4_6 : Nat) (p0 : Int32) (p1 : Int32) (p2 : Int32) (p3 : Int32) (p4 : Int32)  : Met l yX7_act wsX7_act ({ frames := 2, cells := 0, slots := 0, locals := 49 } : Room) (va_Pc [.ref o7, .int p0, .int p1, .int p2, .int p3, .int p4] (KPre (dC, dI) [(o7, .inr (7, [.ref o2, .ref o5, .ref o3, .ref o4, .ref o1, .ref o0, .ref a7_6, .ref a7_7, .int 0, .int 0, .int 0, .ref a7_11, .int 0, .ref a7_13, .int (-1), .ref a7_15])), (a7_15, .inl (c7_15, 8, .inl (fun _ => 0))), (o5, .inr (5, [.ref a5_0, .ref a5_1, .ref a5_2, .ref a5_3, .ref a5_4, .ref a5_5, .ref a5_6])), (a5_0, .inl (c5_0, 12, .inl (fun _ => 0))), (a5_1, .inl (c5_1, 120, .inl (fun _ => 0))), (a5_2, .inl (c5_2, 120, .inl (fun _ => 0))), (a5_3, .inl (c5_3, 120, .inl (fun _ => 0))), (a5_4, .inl (c5_4, 120, .inl (fun _ => 0))), (a5_5, .inl (c5_5, 120, .inl (fun _ => 0))), (a5_6, .inl (c5_6, 120, .inl (fun _ => 0))), (o3, .inr (3, [.ref a3_0, .ref a3_1, .ref a3_2, .ref a3_3, .int 1, .ref o5, .ref o6])), (a3_0, .inl (c3_0, 12, .inl (fun _ => 0))), (o4, .inr (4, [.int 0, .int 0, .ref a4_2, .ref a4_3, .ref a4_4, .ref a4_5, .ref a4_6, .ref o5, .ref o3]))] [(c7_15, .int), (c5_0, .int), (c5_1, .int), (c5_2, .int), (c5_3, .int), (c5_4, .int), (c5_5, .int), (c5_6, .int), (c3_0, .boolean)] sz (fun U => KSt (va_A [(o7, .inr (7, [.ref o2, .ref o5, .ref o3, .ref o4, .ref o1, .ref o0, .ref a7_6, .ref a7_7, .int 0, .int 0, .int 0, .ref a7_11, .int 0, .ref a7_13, .int (-1), .ref a7_15])), (a7_15, .inl (c7_15, 8, .inl (fun _ => 0))), (o5, .inr (5, [.ref a5_0, .ref a5_1, .ref a5_2, .ref a5_3, .ref a5_4, .ref a5_5, .ref a5_6])), (a5_0, .inl (c5_0, 12, .inl (fun _ => 0))), (a5_1, .inl (c5_1, 120, .inl (fun _ => 0))), (a5_2, .inl (c5_2, 120, .inl (fun _ => 0))), (a5_3, .inl (c5_3, 120, .inl (fun _ => 0))), (a5_4, .inl (c5_4, 120, .inl (fun _ => 0))), (a5_5, .inl (c5_5, 120, .inl (fun _ => 0))), (a5_6, .inl (c5_6, 120, .inl (fun _ => 0))), (o3, .inr (3, [.ref a3_0, .ref a3_1, .ref a3_2, .ref a3_3, .int 1, .ref o5, .ref o6])), (a3_0, .inl (c3_0, 12, .inl (fun _ => 0))), (o4, .inr (4, [.int 0, .int 0, .ref a4_2, .ref a4_3, .ref a4_4, .ref a4_5, .ref a4_6, .ref o5, .ref o3]))] sz) U))) (va_Qi (fun (r : Int32) (u : Unit) => r = an_act p0 p1 p2 p3 p4) (KPost (dC, dI) (va_A [(o7, .inr (7, [.ref o2, .ref o5, .ref o3, .ref o4, .ref o1, .ref o0, .ref a7_6, .ref a7_7, .int 0, .int 0, .int 0, .ref a7_11, .int 0, .ref a7_13, .int (-1), .ref a7_15])), (a7_15, .inl (c7_15, 8, .inl (fun _ => 0))), (o5, .inr (5, [.ref a5_0, .ref a5_1, .ref a5_2, .ref a5_3, .ref a5_4, .ref a5_5, .ref a5_6])), (a5_0, .inl (c5_0, 12, .inl (fun _ => 0))), (a5_1, .inl (c5_1, 120, .inl (fun _ => 0))), (a5_2, .inl (c5_2, 120, .inl (fun _ => 0))), (a5_3, .inl (c5_3, 120, .inl (fun _ => 0))), (a5_4, .inl (c5_4, 120, .inl (fun _ => 0))), (a5_5, .inl (c5_5, 120, .inl (fun _ => 0))), (a5_6, .inl (c5_6, 120, .inl (fun _ => 0))), (o3, .inr (3, [.ref a3_0, .ref a3_1, .ref a3_2, .ref a3_3, .int 1, .ref o5, .ref o6])), (a3_0, .inl (c3_0, 12, .inl (fun _ => 0))), (o4, .inr (4, [.int 0, .int 0, .ref a4_2, .ref a4_3, .ref a4_4, .ref a4_5, .ref a4_6, .ref o5, .ref o3]))] sz) (fun (u : Unit) => [])) (va_A [(o7, .inr (7, [.ref o2, .ref o5, .ref o3, .ref o4, .ref o1, .ref o0, .ref a7_6, .ref a7_7, .int 0, .int 0, .int 0, .ref a7_11, .int 0, .ref a7_13, .int (-1), .ref a7_15])), (a7_15, .inl (c7_15, 8, .inl (fun _ => 0))), (o5, .inr (5, [.ref a5_0, .ref a5_1, .ref a5_2, .ref a5_3, .ref a5_4, .ref a5_5, .ref a5_6])), (a5_0, .inl (c5_0, 12, .inl (fun _ => 0))), (a5_1, .inl (c5_1, 120, .inl (fun _ => 0))), (a5_2, .inl (c5_2, 120, .inl (fun _ => 0))), (a5_3, .inl (c5_3, 120, .inl (fun _ => 0))), (a5_4, .inl (c5_4, 120, .inl (fun _ => 0))), (a5_5, .inl (c5_5, 120, .inl (fun _ => 0))), (a5_6, .inl (c5_6, 120, .inl (fun _ => 0))), (o3, .inr (3, [.ref a3_0, .ref a3_1, .ref a3_2, .ref a3_3, .int 1, .ref o5, .ref o6])), (a3_0, .inl (c3_0, 12, .inl (fun _ => 0))), (o4, .inr (4, [.int 0, .int 0, .ref a4_2, .ref a4_3, .ref a4_4, .ref a4_5, .ref a4_6, .ref o5, .ref o3]))] sz)) 0 0 (va_A [(o7, .inr (7, [.ref o2, .ref o5, .ref o3, .ref o4, .ref o1, .ref o0, .ref a7_6, .ref a7_7, .int 0, .int 0, .int 0, .ref a7_11, .int 0, .ref a7_13, .int (-1), .ref a7_15])), (a7_15, .inl (c7_15, 8, .inl (fun _ => 0))), (o5, .inr (5, [.ref a5_0, .ref a5_1, .ref a5_2, .ref a5_3, .ref a5_4, .ref a5_5, .ref a5_6])), (a5_0, .inl (c5_0, 12, .inl (fun _ => 0))), (a5_1, .inl (c5_1, 120, .inl (fun _ => 0))), (a5_2, .inl (c5_2, 120, .inl (fun _ => 0))), (a5_3, .inl (c5_3, 120, .inl (fun _ => 0))), (a5_4, .inl (c5_4, 120, .inl (fun _ => 0))), (a5_5, .inl (c5_5, 120, .inl (fun _ => 0))), (a5_6, .inl (c5_6, 120, .inl (fun _ => 0))), (o3, .inr (3, [.ref a3_0, .ref a3_1, .ref a3_2, .ref a3_3, .int 1, .ref o5, .ref o6])), (a3_0, .inl (c3_0, 12, .inl (fun _ => 0))), (o4, .inr (4, [.int 0, .int 0, .ref a4_2, .ref a4_3, .ref a4_4, .ref a4_5, .ref a4_6, .ref o5, .ref o3]))] sz) := by
  refine kMet (y := yX7_act) (wsM := wsX7_act) (cc := cX7_act) (maxL := 6) (ret := (some .int)) (rm := ({ frames := 2, cells := 0, slots := 0, locals := 49 } : Room)) (mc := 0) (ms := 0) (av := [.ref o7, .int p0, .int p1, .int p2, .int p3, .int p4]) (D := (dC, dI)) (wc := [(o7, .inr (7, [.ref o2, .ref o5, .ref o3, .ref o4, .ref o1, .ref o0, .ref a7_6, .ref a7_7, .int 0, .int 0, .int 0, .ref a7_11, .int 0, .ref a7_13, .int (-1), .ref a7_15])), (a7_15, .inl (c7_15, 8, .inl (fun _ => 0))), (o5, .inr (5, [.ref a5_0, .ref a5_1, .ref a5_2, .ref a5_3, .ref a5_4, .ref a5_5, .ref a5_6])), (a5_0, .inl (c5_0, 12, .inl (fun _ => 0))), (a5_1, .inl (c5_1, 120, .inl (fun _ => 0))), (a5_2, .inl (c5_2, 120, .inl (fun _ => 0))), (a5_3, .inl (c5_3, 120, .inl (fun _ => 0))), (a5_4, .inl (c5_4, 120, .inl (fun _ => 0))), (a5_5, .inl (c5_5, 120, .inl (fun _ => 0))), (a5_6, .inl (c5_6, 120, .inl (fun _ => 0))), (o3, .inr (3, [.ref a3_0, .ref a3_1, .ref a3_2, .ref a3_3, .int 1, .ref o5, .ref o6])), (a3_0, .inl (c3_0, 12, .inl (fun _ => 0))), (o4, .inr (4, [.int 0, .int 0, .ref a4_2, .ref a4_3, .ref a4_4, .ref a4_5, .ref a4_6, .ref o5, .ref o3]))]) (tc := [(c7_15, .int), (c5_0, .int), (c5_1, .int), (c5_2, .int), (c5_3, .int), (c5_4, .int), (c5_5, .int), (c5_6, .int), (c3_0, .boolean)]) (sz := sz) (X := fun U => KSt (va_A [(o7, .inr (7, [.ref o2, .ref o5, .ref o3, .ref o4, .ref o1, .ref o0, .ref a7_6, .ref a7_7, .int 0, .int 0, .int 0, .ref a7_11, .int 0, .ref a7_13, .int (-1), .ref a7_15])), (a7_15, .inl (c7_15, 8, .inl (fun _ => 0))), (o5, .inr (5, [.ref a5_0, .ref a5_1, .ref a5_2, .ref a5_3, .ref a5_4, .ref a5_5, .ref a5_6])), (a5_0, .inl (c5_0, 12, .inl (fun _ => 0))), (a5_1, .inl (c5_1, 120, .inl (fun _ => 0))), (a5_2, .inl (c5_2, 120, .inl (fun _ => 0))), (a5_3, .inl (c5_3, 120, .inl (fun _ => 0))), (a5_4, .inl (c5_4, 120, .inl (fun _ => 0))), (a5_5, .inl (c5_5, 120, .inl (fun _ => 0))), (a5_6, .inl (c5_6, 120, .inl (fun _ => 0))), (o3, .inr (3, [.ref a3_0, .ref a3_1, .ref a3_2, .ref a3_3, .int 1, .ref o5, .ref o6])), (a3_0, .inl (c3_0, 12, .inl (fun _ => 0))), (o4, .inr (4, [.int 0, .int 0, .ref a4_2, .ref a4_3, .ref a4_4, .ref a4_5, .ref a4_6, .ref o5, .ref o3]))] sz) U) (Qc := fun A => va_Qi (fun (r : Int32) (u : Unit) => r = an_act p0 p1 p2 p3 p4) (KPost (dC, dI) A (fun (u : Unit) => [])) A) (by decide) rfl (Nat.le_of_ble_eq_true rfl) ?_
  intro p e s m below meth c A ls E hr hlocks hnm hsz hAe hX h hl
  have hx := E.1
  have hb := E.2.1
  have hl : lv_has ls 6 [(0, .ref o7), (1, .int p0), (2, .int p1), (3, .int p2), (4, .int p3), (5, .int p4)] := hl
  have hX : KSt A s := by rw [← hAe]; exact hX
  obtain ⟨⟨tD, hZD, hTD⟩, ⟨tX, hZX, hTX⟩, ⟨tY, hZY, hTY⟩, ⟨tP, hZP, hTP⟩, ⟨tL, hZL, hTL⟩, ⟨tM, hZM, hTM⟩, hN33, hN37, hN40, hN50, hN53⟩ := id hX
  refine lv_iload_n hx hb dX7_act_0 rfl (lv_at hl 1 rfl) ?_
  refine kc_i (wc := []) (wr := [(o7, .inr (7, [.ref o2, .ref o5, .ref o3, .ref o4, .ref o1, .ref o0, .ref a7_6, .ref a7_7, .int 0, .int 0, .int 0, .ref a7_11, .int 0, .ref a7_13, .int (-1), .ref a7_15])), (a7_15, .inl (c7_15, 8, .inl (fun _ => 0))), (o5, .inr (5, [.ref a5_0, .ref a5_1, .ref a5_2, .ref a5_3, .ref a5_4, .ref a5_5, .ref a5_6])), (a5_0, .inl (c5_0, 12, .inl (fun _ => 0))), (a5_1, .inl (c5_1, 120, .inl (fun _ => 0))), (a5_2, .inl (c5_2, 120, .inl (fun _ => 0))), (a5_3, .inl (c5_3, 120, .inl (fun _ => 0))), (a5_4, .inl (c5_4, 120, .inl (fun _ => 0))), (a5_5, .inl (c5_5, 120, .inl (fun _ => 0))), (a5_6, .inl (c5_6, 120, .inl (fun _ => 0))), (o3, .inr (3, [.ref a3_0, .ref a3_1, .ref a3_2, .ref a3_3, .int 1, .ref o5, .ref o6])), (a3_0, .inl (c3_0, 12, .inl (fun _ => 0))), (o4, .inr (4, [.int 0, .int 0, .ref a4_2, .ref a4_3, .ref a4_4, .ref a4_5, .ref a4_6, .ref o5, .ref o3]))]) h (va_runS (As := [.int p0]) (rest := []) E (c_X7_isInstruction l dC dI _ (p0 := p0)  ) (va_cwS 1 E.2.2.2.2 gX7_act_X7_isInstruction rfl rfl rfl (by decide +kernel) ⟨Nat.le_of_ble_eq_true rfl, Nat.le_of_ble_eq_true rfl⟩) (kPreS h KX_true (fun _ _ _ => trivial) [] [] (by decide) rfl rfl) rfl rfl hl.1 rfl (lv_room (Nat.le_of_ble_eq_true rfl)) dX7_act_1 ⟨Nat.le_of_ble_eq_true rfl, Nat.le_of_ble_eq_true rfl⟩) [] [0, 1, 2, 3, 4, 5, 6, 7, 8, 9, 10, 11, 12] rfl rfl (by decide) (by decide) (fun r_1 u_1 H locs hw_1 h => ?_)
  have h : KS (dC, dI) A [(o7, .inr (7, [.ref o2, .ref o5, .ref o3, .ref o4, .ref o1, .ref o0, .ref a7_6, .ref a7_7, .int 0, .int 0, .int 0, .ref a7_11, .int 0, .ref a7_13, .int (-1), .ref a7_15])), (a7_15, .inl (c7_15, 8, .inl (fun _ => 0))), (o5, .inr (5, [.ref a5_0, .ref a5_1, .ref a5_2, .ref a5_3, .ref a5_4, .ref a5_5, .ref a5_6])), (a5_0, .inl (c5_0, 12, .inl (fun _ => 0))), (a5_1, .inl (c5_1, 120, .inl (fun _ => 0))), (a5_2, .inl (c5_2, 120, .inl (fun _ => 0))), (a5_3, .inl (c5_3, 120, .inl (fun _ => 0))), (a5_4, .inl (c5_4, 120, .inl (fun _ => 0))), (a5_5, .inl (c5_5, 120, .inl (fun _ => 0))), (a5_6, .inl (c5_6, 120, .inl (fun _ => 0))), (o3, .inr (3, [.ref a3_0, .ref a3_1, .ref a3_2, .ref a3_3, .int 1, .ref o5, .ref o6])), (a3_0, .inl (c3_0, 12, .inl (fun _ => 0))), (o4, .inr (4, [.int 0, .int 0, .ref a4_2, .ref a4_3, .ref a4_4, .ref a4_5, .ref a4_6, .ref o5, .ref o3]))] [(c7_15, .int), (c5_0, .int), (c5_1, .int), (c5_2, .int), (c5_3, .int), (c5_4, .int), (c5_5, .int), (c5_6, .int), (c3_0, .boolean)] s H locs := h
  have hw_1 : r_1 = if 0 ≤ p0.toInt ∧ p0.toInt < 12 then 1 else 0 := by first | exact hw_1 | (simp only [Int32.toInt_toInt64] at hw_1; exact hw_1)
  refine W.eq (g2 := F0 m 4 ls [.int r_1]) rfl ?_
  refine lv_if_ne (tgt := 14) hx hb dX7_act_4 (by decide) (fun c_2 => ?_) (fun c_2 => ?_)
  · skip
    have b_2 := kb1 hw_1 c_2
    refine lv_iload_n hx hb dX7_act_14 rfl (lv_at hl 2 rfl) ?_
    refine lv_iload_n hx hb dX7_act_15 rfl (lv_at hl 3 rfl) ?_
    refine lv_iload hx hb dX7_act_16 (lv_at hl 4 rfl) ?_
    refine lv_iload hx hb dX7_act_18 (lv_at hl 5 rfl) ?_
    refine kc_i (wc := []) (wr := [(o7, .inr (7, [.ref o2, .ref o5, .ref o3, .ref o4, .ref o1, .ref o0, .ref a7_6, .ref a7_7, .int 0, .int 0, .int 0, .ref a7_11, .int 0, .ref a7_13, .int (-1), .ref a7_15])), (a7_15, .inl (c7_15, 8, .inl (fun _ => 0))), (o5, .inr (5, [.ref a5_0, .ref a5_1, .ref a5_2, .ref a5_3, .ref a5_4, .ref a5_5, .ref a5_6])), (a5_0, .inl (c5_0, 12, .inl (fun _ => 0))), (a5_1, .inl (c5_1, 120, .inl (fun _ => 0))), (a5_2, .inl (c5_2, 120, .inl (fun _ => 0))), (a5_3, .inl (c5_3, 120, .inl (fun _ => 0))), (a5_4, .inl (c5_4, 120, .inl (fun _ => 0))), (a5_5, .inl (c5_5, 120, .inl (fun _ => 0))), (a5_6, .inl (c5_6, 120, .inl (fun _ => 0))), (o3, .inr (3, [.ref a3_0, .ref a3_1, .ref a3_2, .ref a3_3, .int 1, .ref o5, .ref o6])), (a3_0, .inl (c3_0, 12, .inl (fun _ => 0))), (o4, .inr (4, [.int 0, .int 0, .ref a4_2, .ref a4_3, .ref a4_4, .ref a4_5, .ref a4_6, .ref o5, .ref o3]))]) h (va_runS (As := [.int p1, .int p2, .int p3, .int p4]) (rest := []) E (c_X7_isAct l dC dI _ (p0 := p1) (p1 := p2) (p2 := p3) (p3 := p4)  ) (va_cwS 4 E.2.2.2.2 gX7_act_X7_isAct rfl rfl rfl (by decide +kernel) ⟨Nat.le_of_ble_eq_true rfl, Nat.le_of_ble_eq_true rfl⟩) (kPreS h KSt.blind (KSt.call hX h [] rfl) [] [] (by decide) rfl rfl) rfl rfl hl.1 rfl (lv_room (Nat.le_of_ble_eq_true rfl)) dX7_act_20 ⟨Nat.le_of_ble_eq_true rfl, Nat.le_of_ble_eq_true rfl⟩) [] [0, 1, 2, 3, 4, 5, 6, 7, 8, 9, 10, 11, 12] rfl rfl (by decide) (by decide) (fun r_3 u_3 H locs hw_3 h => ?_)
    have h : KS (dC, dI) A [(o7, .inr (7, [.ref o2, .ref o5, .ref o3, .ref o4, .ref o1, .ref o0, .ref a7_6, .ref a7_7, .int 0, .int 0, .int 0, .ref a7_11, .int 0, .ref a7_13, .int (-1), .ref a7_15])), (a7_15, .inl (c7_15, 8, .inl (fun _ => 0))), (o5, .inr (5, [.ref a5_0, .ref a5_1, .ref a5_2, .ref a5_3, .ref a5_4, .ref a5_5, .ref a5_6])), (a5_0, .inl (c5_0, 12, .inl (fun _ => 0))), (a5_1, .inl (c5_1, 120, .inl (fun _ => 0))), (a5_2, .inl (c5_2, 120, .inl (fun _ => 0))), (a5_3, .inl (c5_3, 120, .inl (fun _ => 0))), (a5_4, .inl (c5_4, 120, .inl (fun _ => 0))), (a5_5, .inl (c5_5, 120, .inl (fun _ => 0))), (a5_6, .inl (c5_6, 120, .inl (fun _ => 0))), (o3, .inr (3, [.ref a3_0, .ref a3_1, .ref a3_2, .ref a3_3, .int 1, .ref o5, .ref o6])), (a3_0, .inl (c3_0, 12, .inl (fun _ => 0))), (o4, .inr (4, [.int 0, .int 0, .ref a4_2, .ref a4_3, .ref a4_4, .ref a4_5, .ref a4_6, .ref o5, .ref o3]))] [(c7_15, .int), (c5_0, .int), (c5_1, .int), (c5_2, .int), (c5_3, .int), (c5_4, .int), (c5_5, .int), (c5_6, .int), (c3_0, .boolean)] s H locs := h
    have hw_3 : r_3 = if kActOK p1 p2 p3 p4 = true then 1 else 0 := by first | exact hw_3 | (simp only [Int32.toInt_toInt64] at hw_3; exact hw_3)
    refine W.eq (g2 := F0 m 23 ls [.int r_3]) rfl ?_
    refine lv_if_ne (tgt := 33) hx hb dX7_act_23 (by decide) (fun c_4 => ?_) (fun c_4 => ?_)
    · skip
      have b_4 := kb1 hw_3 c_4
      have hka : 0 ≤ p1.toInt ∧ p1.toInt < 11 := by have z := b_4; simp only [kActOK, decide_eq_true_eq] at z; omega
      refine lv_aload_n hx hb dX7_act_33 rfl (lv_at hl 0 rfl) ?_
      refine k_get (v := .ref o5) E h (fun w h => List.mem_cons_of_mem _ (List.mem_append_left _ (List.mem_append_left _ (List.mem_append_left _ (List.mem_append_right _ h))))) 0 rfl rfl 1 (by decide) (List.mem_of_getElem? (i := 1) rfl) rfl dX7_act_34 ?_
      refine k_get (v := .ref a5_0) E h (fun w h => List.mem_cons_of_mem _ (List.mem_append_left _ (List.mem_append_left _ (List.mem_append_right _ h)))) 2 rfl rfl 0 (by decide) (List.mem_of_getElem? (i := 2) rfl) rfl dX7_act_37 ?_
      refine lv_iload_n hx hb dX7_act_40 rfl (lv_at hl 1 rfl) ?_
      refine k_iald (v := 0) E h 3 1 rfl rfl (vp_in_iff.mpr (by omega)) rfl dX7_act_41 ?_
      refine lv_bipush (v := 10) hx hb dX7_act_42 (by decide) ?_
      refine lv_icmp_lt (tgt := 54) hx hb dX7_act_44 (by decide) (fun _ => ?_) (fun c_5 => absurd (by decide) c_5)
      refine lv_aload_n hx hb dX7_act_54 rfl (lv_at hl 0 rfl) ?_
      refine k_get (v := .ref o5) E h (fun w h => List.mem_cons_of_mem _ (List.mem_append_left _ (List.mem_append_left _ (List.mem_append_left _ (List.mem_append_right _ h))))) 0 rfl rfl 1 (by decide) (List.mem_of_getElem? (i := 1) rfl) rfl dX7_act_55 ?_
      refine lv_iload_n hx hb dX7_act_58 rfl (lv_at hl 1 rfl) ?_
      refine lv_iload_n hx hb dX7_act_59 rfl (lv_at hl 2 rfl) ?_
      refine lv_iload_n hx hb dX7_act_60 rfl (lv_at hl 3 rfl) ?_
      refine lv_iload hx hb dX7_act_61 (lv_at hl 4 rfl) ?_
      refine lv_iload hx hb dX7_act_63 (lv_at hl 5 rfl) ?_
      refine kc_v (wc := [(o5, .inr (5, [.ref a5_0, .ref a5_1, .ref a5_2, .ref a5_3, .ref a5_4, .ref a5_5, .ref a5_6])), (a5_0, .inl (c5_0, 12, .inl (fun _ => 0))), (a5_1, .inl (c5_1, 120, .inl (fun _ => 0))), (a5_2, .inl (c5_2, 120, .inl (fun _ => 0))), (a5_3, .inl (c5_3, 120, .inl (fun _ => 0))), (a5_4, .inl (c5_4, 120, .inl (fun _ => 0))), (a5_5, .inl (c5_5, 120, .inl (fun _ => 0))), (a5_6, .inl (c5_6, 120, .inl (fun _ => 0)))]) (wr := [(o7, .inr (7, [.ref o2, .ref o5, .ref o3, .ref o4, .ref o1, .ref o0, .ref a7_6, .ref a7_7, .int 0, .int 0, .int 0, .ref a7_11, .int 0, .ref a7_13, .int (-1), .ref a7_15])), (a7_15, .inl (c7_15, 8, .inl (fun _ => 0))), (o3, .inr (3, [.ref a3_0, .ref a3_1, .ref a3_2, .ref a3_3, .int 1, .ref o5, .ref o6])), (a3_0, .inl (c3_0, 12, .inl (fun _ => 0))), (o4, .inr (4, [.int 0, .int 0, .ref a4_2, .ref a4_3, .ref a4_4, .ref a4_5, .ref a4_6, .ref o5, .ref o3]))]) h (va_runV (As := [.int p0, .int p1, .int p2, .int p3, .int p4]) (rest := []) E (c_X5_add0 l dC dI _ (o5 := o5) (a5_0 := a5_0) (a5_1 := a5_1) (a5_2 := a5_2) (a5_3 := a5_3) (a5_4 := a5_4) (a5_5 := a5_5) (a5_6 := a5_6) (c5_0 := c5_0) (c5_1 := c5_1) (f5_1 := fun _ => 0) (c5_2 := c5_2) (f5_2 := fun _ => 0) (c5_3 := c5_3) (f5_3 := fun _ => 0) (c5_4 := c5_4) (f5_4 := fun _ => 0) (c5_5 := c5_5) (f5_5 := fun _ => 0) (c5_6 := c5_6) (f5_6 := fun _ => 0) (p0 := p0) (p1 := p1) (p2 := p2) (p3 := p3) (p4 := p4)  (hp := (by first | decide | omega)) (hk := (by first | decide | omega))) (cwV 5 E.2.2.2.2 gX7_act_X5_add rfl rfl rfl (by decide +kernel) ⟨Nat.le_of_ble_eq_true rfl, Nat.le_of_ble_eq_true rfl⟩) (kPreV (q0 := 2) (ci := 5) h KSt.blind (KSt.call hX h [2, 3, 4, 5, 6, 7, 8, 9] rfl) [2, 3, 4, 5, 6, 7, 8, 9] [1, 2, 3, 4, 5, 6, 7] (by decide) rfl rfl rfl rfl) rfl rfl hl.1 rfl (lv_room (Nat.le_of_ble_eq_true rfl)) dX7_act_65 ⟨Nat.le_of_ble_eq_true rfl, Nat.le_of_ble_eq_true rfl⟩) [2, 3, 4, 5, 6, 7, 8, 9] [0, 1, 10, 11, 12] rfl rfl (by decide) (by decide) (fun u_6 H locs hw_6 h => ?_)
      have h : KS (dC, dI) A [(o7, .inr (7, [.ref o2, .ref o5, .ref o3, .ref o4, .ref o1, .ref o0, .ref a7_6, .ref a7_7, .int 0, .int 0, .int 0, .ref a7_11, .int 0, .ref a7_13, .int (-1), .ref a7_15])), (a7_15, .inl (c7_15, 8, .inl (fun _ => 0))), (o3, .inr (3, [.ref a3_0, .ref a3_1, .ref a3_2, .ref a3_3, .int 1, .ref o5, .ref o6])), (a3_0, .inl (c3_0, 12, .inl (fun _ => 0))), (o4, .inr (4, [.int 0, .int 0, .ref a4_2, .ref a4_3, .ref a4_4, .ref a4_5, .ref a4_6, .ref o5, .ref o3])), (o5, .inr (5, [.ref a5_0, .ref a5_1, .ref a5_2, .ref a5_3, .ref a5_4, .ref a5_5, .ref a5_6])), (a5_0, .inl (c5_0, 12, .inl (upd (fun _ => 0) p0.toNatClampNeg 1)))] [(c7_15, .int), (c5_0, .int), (c5_1, .int), (c5_2, .int), (c5_3, .int), (c5_4, .int), (c5_5, .int), (c5_6, .int), (c3_0, .boolean)] s H locs := h
      refine W.eq (g2 := F0 m 68 ls []) rfl ?_
      refine lv_aload_n hx hb dX7_act_68 rfl (lv_at hl 0 rfl) ?_
      refine lv_iload_n hx hb dX7_act_69 rfl (lv_at hl 1 rfl) ?_
      refine kc_v (wc := [(o7, .inr (7, [.ref o2, .ref o5, .ref o3, .ref o4, .ref o1, .ref o0, .ref a7_6, .ref a7_7, .int 0, .int 0, .int 0, .ref a7_11, .int 0, .ref a7_13, .int (-1), .ref a7_15])), (o3, .inr (3, [.ref a3_0, .ref a3_1, .ref a3_2, .ref a3_3, .int 1, .ref o5, .ref o6])), (a3_0, .inl (c3_0, 12, .inl (fun _ => 0))), (o4, .inr (4, [.int 0, .int 0, .ref a4_2, .ref a4_3, .ref a4_4, .ref a4_5, .ref a4_6, .ref o5, .ref o3]))]) (wr := [(a7_15, .inl (c7_15, 8, .inl (fun _ => 0))), (o5, .inr (5, [.ref a5_0, .ref a5_1, .ref a5_2, .ref a5_3, .ref a5_4, .ref a5_5, .ref a5_6])), (a5_0, .inl (c5_0, 12, .inl (upd (fun _ => 0) p0.toNatClampNeg 1)))]) h (va_runV (As := [.int p0]) (rest := []) E (c_X7_takeAwayPackedOf l dC dI _ (o7 := o7) (o2 := o2) (o5 := o5) (o3 := o3) (o4 := o4) (o1 := o1) (o0 := o0) (a7_6 := a7_6) (a7_7 := a7_7) (v7_8 := 0) (v7_9 := 0) (v7_10 := 0) (a7_11 := a7_11) (v7_12 := 0) (a7_13 := a7_13) (v7_14 := (-1)) (a7_15 := a7_15) (a3_0 := a3_0) (a3_1 := a3_1) (a3_2 := a3_2) (a3_3 := a3_3) (v3_4 := 1) (o6 := o6) (c3_0 := c3_0) (f3_0 := fun _ => 0) (v4_0 := 0) (v4_1 := 0) (a4_2 := a4_2) (a4_3 := a4_3) (a4_4 := a4_4) (a4_5 := a4_5) (a4_6 := a4_6) (p0 := p0)  (hp := (by first | decide | omega))) (cwV 1 E.2.2.2.2 gX7_act_X7_takeAwayPackedOf rfl rfl rfl (by decide +kernel) ⟨Nat.le_of_ble_eq_true rfl, Nat.le_of_ble_eq_true rfl⟩) (kPreV (q0 := 0) (ci := 7) h KX_true (fun _ _ _ => trivial) [0, 2, 3, 4] [8] (by decide) rfl rfl rfl rfl) rfl rfl hl.1 rfl (lv_room (Nat.le_of_ble_eq_true rfl)) dX7_act_70 ⟨Nat.le_of_ble_eq_true rfl, Nat.le_of_ble_eq_true rfl⟩) [0, 2, 3, 4] [1, 5, 6] rfl rfl (by decide) (by decide) (fun u_7 H locs hw_7 h => ?_)
      have h : KS (dC, dI) A [(a7_15, .inl (c7_15, 8, .inl (fun _ => 0))), (o5, .inr (5, [.ref a5_0, .ref a5_1, .ref a5_2, .ref a5_3, .ref a5_4, .ref a5_5, .ref a5_6])), (a5_0, .inl (c5_0, 12, .inl (upd (fun _ => 0) p0.toNatClampNeg 1))), (o7, .inr (7, [.ref o2, .ref o5, .ref o3, .ref o4, .ref o1, .ref o0, .ref a7_6, .ref a7_7, .int 0, .int 0, .int 0, .ref a7_11, .int 0, .ref a7_13, .int (-1), .ref a7_15])), (o3, .inr (3, [.ref a3_0, .ref a3_1, .ref a3_2, .ref a3_3, .int 1, .ref o5, .ref o6])), (a3_0, .inl (c3_0, 12, .inl (upd (fun _ => 0) p0.toNatClampNeg 0))), (o4, .inr (4, [.int 0, .int 0, .ref a4_2, .ref a4_3, .ref a4_4, .ref a4_5, .ref a4_6, .ref o5, .ref o3]))] [(c7_15, .int), (c5_0, .int), (c5_1, .int), (c5_2, .int), (c5_3, .int), (c5_4, .int), (c5_5, .int), (c5_6, .int), (c3_0, .boolean)] s H locs := h
      refine W.eq (g2 := F0 m 73 ls []) rfl ?_
      refine lv_aload_n hx hb dX7_act_73 rfl (lv_at hl 0 rfl) ?_
      refine k_get (v := .ref o5) E h (fun w h => List.mem_cons_of_mem _ (List.mem_append_left _ (List.mem_append_left _ (List.mem_append_left _ (List.mem_append_right _ h))))) 3 rfl rfl 1 (by decide) (List.mem_of_getElem? (i := 1) rfl) rfl dX7_act_74 ?_
      refine k_get (v := .ref a5_0) E h (fun w h => List.mem_cons_of_mem _ (List.mem_append_left _ (List.mem_append_left _ (List.mem_append_right _ h)))) 1 rfl rfl 0 (by decide) (List.mem_of_getElem? (i := 2) rfl) rfl dX7_act_77 ?_
      refine lv_iload_n hx hb dX7_act_80 rfl (lv_at hl 1 rfl) ?_
      refine k_iald (v := 1) E h 2 1 rfl rfl (vp_in_iff.mpr (by omega)) pk_us dX7_act_81 ?_
      have h9 := h
      exact W.iret (v := 1) hx hb hr (fun t ht hW => ⟨⟨1, (), rfl, (by unfold an_act; (repeat' split) <;> first | rfl | contradiction | omega), (by rw [ht]; exact h9.2.1.sub [] rfl), h9.2.2.1.sub [] (by decide) rfl⟩, h.2.2.2.1.F ht⟩) h.2.2.2.1.2.2 dX7_act_82 hlocks
    · skip
      have b_4 := kb0 hw_3 c_4
      refine lv_aload_n hx hb dX7_act_26 rfl (lv_at hl 0 rfl) ?_
      refine lv_bipush (v := -6) hx hb dX7_act_27 (by decide) ?_
      refine kc_i (wc := [(o7, .inr (7, [.ref o2, .ref o5, .ref o3, .ref o4, .ref o1, .ref o0, .ref a7_6, .ref a7_7, .int 0, .int 0, .int 0, .ref a7_11, .int 0, .ref a7_13, .int (-1), .ref a7_15])), (a7_15, .inl (c7_15, 8, .inl (fun _ => 0)))]) (wr := [(o5, .inr (5, [.ref a5_0, .ref a5_1, .ref a5_2, .ref a5_3, .ref a5_4, .ref a5_5, .ref a5_6])), (a5_0, .inl (c5_0, 12, .inl (fun _ => 0))), (a5_1, .inl (c5_1, 120, .inl (fun _ => 0))), (a5_2, .inl (c5_2, 120, .inl (fun _ => 0))), (a5_3, .inl (c5_3, 120, .inl (fun _ => 0))), (a5_4, .inl (c5_4, 120, .inl (fun _ => 0))), (a5_5, .inl (c5_5, 120, .inl (fun _ => 0))), (a5_6, .inl (c5_6, 120, .inl (fun _ => 0))), (o3, .inr (3, [.ref a3_0, .ref a3_1, .ref a3_2, .ref a3_3, .int 1, .ref o5, .ref o6])), (a3_0, .inl (c3_0, 12, .inl (fun _ => 0))), (o4, .inr (4, [.int 0, .int 0, .ref a4_2, .ref a4_3, .ref a4_4, .ref a4_5, .ref a4_6, .ref o5, .ref o3]))]) h (va_runV (As := [.int (-6)]) (rest := []) E (c_X7_refuse l dC dI _ (o7 := o7) (o2 := o2) (o5 := o5) (o3 := o3) (o4 := o4) (o1 := o1) (o0 := o0) (a7_6 := a7_6) (a7_7 := a7_7) (v7_8 := 0) (v7_9 := 0) (v7_10 := 0) (a7_11 := a7_11) (v7_12 := 0) (a7_13 := a7_13) (v7_14 := (-1)) (a7_15 := a7_15) (c7_15 := c7_15) (f7_15 := fun _ => 0) (p0 := (-6))  (hp := (by first | decide | omega))) (cwV 1 E.2.2.2.2 gX7_act_X7_refuse rfl rfl rfl (by decide +kernel) ⟨Nat.le_of_ble_eq_true rfl, Nat.le_of_ble_eq_true rfl⟩) (kPreV (q0 := 0) (ci := 7) h KX_true (fun _ _ _ => trivial) [0, 1] [0] (by decide) rfl rfl rfl rfl) rfl rfl hl.1 rfl (lv_room (Nat.le_of_ble_eq_true rfl)) dX7_act_29 ⟨Nat.le_of_ble_eq_true rfl, Nat.le_of_ble_eq_true rfl⟩) [0, 1] [2, 3, 4, 5, 6, 7, 8, 9, 10, 11, 12] rfl rfl (by decide) (by decide) (fun r_8 u_8 H locs hw_8 h => ?_)
      have h : KS (dC, dI) A [(o5, .inr (5, [.ref a5_0, .ref a5_1, .ref a5_2, .ref a5_3, .ref a5_4, .ref a5_5, .ref a5_6])), (a5_0, .inl (c5_0, 12, .inl (fun _ => 0))), (a5_1, .inl (c5_1, 120, .inl (fun _ => 0))), (a5_2, .inl (c5_2, 120, .inl (fun _ => 0))), (a5_3, .inl (c5_3, 120, .inl (fun _ => 0))), (a5_4, .inl (c5_4, 120, .inl (fun _ => 0))), (a5_5, .inl (c5_5, 120, .inl (fun _ => 0))), (a5_6, .inl (c5_6, 120, .inl (fun _ => 0))), (o3, .inr (3, [.ref a3_0, .ref a3_1, .ref a3_2, .ref a3_3, .int 1, .ref o5, .ref o6])), (a3_0, .inl (c3_0, 12, .inl (fun _ => 0))), (o4, .inr (4, [.int 0, .int 0, .ref a4_2, .ref a4_3, .ref a4_4, .ref a4_5, .ref a4_6, .ref o5, .ref o3])), (o7, .inr (7, [.ref o2, .ref o5, .ref o3, .ref o4, .ref o1, .ref o0, .ref a7_6, .ref a7_7, .int 0, .int 0, .int 0, .ref a7_11, .int 0, .ref a7_13, .int (-1), .ref a7_15])), (a7_15, .inl (c7_15, 8, .inl (upd (fun _ => 0) (-(-6 : Int32)).toNatClampNeg ((fun _ => 0) (-(-6 : Int32)).toNatClampNeg + 1))))] [(c7_15, .int), (c5_0, .int), (c5_1, .int), (c5_2, .int), (c5_3, .int), (c5_4, .int), (c5_5, .int), (c5_6, .int), (c3_0, .boolean)] s H locs := h
      have hw_8 : r_8 = (-6 : Int32) := by first | exact hw_8 | (simp only [Int32.toInt_toInt64] at hw_8; exact hw_8)
      refine k_topi (y := (-6)) (hw_8) ?_
      refine W.eq (g2 := F0 m 32 ls [.int (-6)]) rfl ?_
      have h9 := h
      exact W.iret (v := (-6)) hx hb hr (fun t ht hW => ⟨⟨(-6), (), rfl, (by unfold an_act; (repeat' split) <;> first | rfl | contradiction | omega), (by rw [ht]; exact h9.2.1.sub [] rfl), h9.2.2.1.sub [] (by decide) rfl⟩, h.2.2.2.1.F ht⟩) h.2.2.2.1.2.2 dX7_act_32 hlocks
  · skip
    have b_2 := kb0 hw_1 c_2
    refine lv_aload_n hx hb dX7_act_7 rfl (lv_at hl 0 rfl) ?_
    refine lv_bipush (v := -3) hx hb dX7_act_8 (by decide) ?_
    refine kc_i (wc := [(o7, .inr (7, [.ref o2, .ref o5, .ref o3, .ref o4, .ref o1, .ref o0, .ref a7_6, .ref a7_7, .int 0, .int 0, .int 0, .ref a7_11, .int 0, .ref a7_13, .int (-1), .ref a7_15])), (a7_15, .inl (c7_15, 8, .inl (fun _ => 0)))]) (wr := [(o5, .inr (5, [.ref a5_0, .ref a5_1, .ref a5_2, .ref a5_3, .ref a5_4, .ref a5_5, .ref a5_6])), (a5_0, .inl (c5_0, 12, .inl (fun _ => 0))), (a5_1, .inl (c5_1, 120, .inl (fun _ => 0))), (a5_2, .inl (c5_2, 120, .inl (fun _ => 0))), (a5_3, .inl (c5_3, 120, .inl (fun _ => 0))), (a5_4, .inl (c5_4, 120, .inl (fun _ => 0))), (a5_5, .inl (c5_5, 120, .inl (fun _ => 0))), (a5_6, .inl (c5_6, 120, .inl (fun _ => 0))), (o3, .inr (3, [.ref a3_0, .ref a3_1, .ref a3_2, .ref a3_3, .int 1, .ref o5, .ref o6])), (a3_0, .inl (c3_0, 12, .inl (fun _ => 0))), (o4, .inr (4, [.int 0, .int 0, .ref a4_2, .ref a4_3, .ref a4_4, .ref a4_5, .ref a4_6, .ref o5, .ref o3]))]) h (va_runV (As := [.int (-3)]) (rest := []) E (c_X7_refuse l dC dI _ (o7 := o7) (o2 := o2) (o5 := o5) (o3 := o3) (o4 := o4) (o1 := o1) (o0 := o0) (a7_6 := a7_6) (a7_7 := a7_7) (v7_8 := 0) (v7_9 := 0) (v7_10 := 0) (a7_11 := a7_11) (v7_12 := 0) (a7_13 := a7_13) (v7_14 := (-1)) (a7_15 := a7_15) (c7_15 := c7_15) (f7_15 := fun _ => 0) (p0 := (-3))  (hp := (by first | decide | omega))) (cwV 1 E.2.2.2.2 gX7_act_X7_refuse rfl rfl rfl (by decide +kernel) ⟨Nat.le_of_ble_eq_true rfl, Nat.le_of_ble_eq_true rfl⟩) (kPreV (q0 := 0) (ci := 7) h KX_true (fun _ _ _ => trivial) [0, 1] [0] (by decide) rfl rfl rfl rfl) rfl rfl hl.1 rfl (lv_room (Nat.le_of_ble_eq_true rfl)) dX7_act_10 ⟨Nat.le_of_ble_eq_true rfl, Nat.le_of_ble_eq_true rfl⟩) [0, 1] [2, 3, 4, 5, 6, 7, 8, 9, 10, 11, 12] rfl rfl (by decide) (by decide) (fun r_9 u_9 H locs hw_9 h => ?_)
    have h : KS (dC, dI) A [(o5, .inr (5, [.ref a5_0, .ref a5_1, .ref a5_2, .ref a5_3, .ref a5_4, .ref a5_5, .ref a5_6])), (a5_0, .inl (c5_0, 12, .inl (fun _ => 0))), (a5_1, .inl (c5_1, 120, .inl (fun _ => 0))), (a5_2, .inl (c5_2, 120, .inl (fun _ => 0))), (a5_3, .inl (c5_3, 120, .inl (fun _ => 0))), (a5_4, .inl (c5_4, 120, .inl (fun _ => 0))), (a5_5, .inl (c5_5, 120, .inl (fun _ => 0))), (a5_6, .inl (c5_6, 120, .inl (fun _ => 0))), (o3, .inr (3, [.ref a3_0, .ref a3_1, .ref a3_2, .ref a3_3, .int 1, .ref o5, .ref o6])), (a3_0, .inl (c3_0, 12, .inl (fun _ => 0))), (o4, .inr (4, [.int 0, .int 0, .ref a4_2, .ref a4_3, .ref a4_4, .ref a4_5, .ref a4_6, .ref o5, .ref o3])), (o7, .inr (7, [.ref o2, .ref o5, .ref o3, .ref o4, .ref o1, .ref o0, .ref a7_6, .ref a7_7, .int 0, .int 0, .int 0, .ref a7_11, .int 0, .ref a7_13, .int (-1), .ref a7_15])), (a7_15, .inl (c7_15, 8, .inl (upd (fun _ => 0) (-(-3 : Int32)).toNatClampNeg ((fun _ => 0) (-(-3 : Int32)).toNatClampNeg + 1))))] [(c7_15, .int), (c5_0, .int), (c5_1, .int), (c5_2, .int), (c5_3, .int), (c5_4, .int), (c5_5, .int), (c5_6, .int), (c3_0, .boolean)] s H locs := h
    have hw_9 : r_9 = (-3 : Int32) := by first | exact hw_9 | (simp only [Int32.toInt_toInt64] at hw_9; exact hw_9)
    refine k_topi (y := (-3)) (hw_9) ?_
    refine W.eq (g2 := F0 m 13 ls [.int (-3)]) rfl ?_
    have h9 := h
    exact W.iret (v := (-3)) hx hb hr (fun t ht hW => ⟨⟨(-3), (), rfl, (by unfold an_act; (repeat' split) <;> first | rfl | contradiction | omega), (by rw [ht]; exact h9.2.1.sub [] rfl), h9.2.2.1.sub [] (by decide) rfl⟩, h.2.2.2.1.F ht⟩) h.2.2.2.1.2.2 dX7_act_13 hlocks
set_option maxHeartbeats 4000000 in
set_option maxRecDepth 100000 in
theorem c_X8_isActs (l : Launch) (dC : Nat → ClassId) (dI : Nat → Nat → Nat) (sz : Nat) (p0 : Int32) (p1 : Int32) (p2 : Int32) (p3 : Int32)  : Met l yX8_isActs wsX8_isActs ({ frames := 1, cells := 0, slots := 0, locals := 25 } : Room) (va_Pc [.int p0, .int p1, .int p2, .int p3] (KPre (dC, dI) [] [] sz (fun _ => True))) (va_Qi (fun (r : Int32) (u : Unit) => r = if kActOK p0 p1 p2 p3 = true then 1 else 0) (KPost (dC, dI) (va_A [] sz) (fun (u : Unit) => [])) (va_A [] sz)) 0 0 (va_A [] sz) := by
  refine kMet (y := yX8_isActs) (wsM := wsX8_isActs) (cc := cX8_isActs) (maxL := 5) (ret := (some .boolean)) (rm := ({ frames := 1, cells := 0, slots := 0, locals := 25 } : Room)) (mc := 0) (ms := 0) (av := [.int p0, .int p1, .int p2, .int p3]) (D := (dC, dI)) (wc := []) (tc := []) (sz := sz) (X := fun _ => True) (Qc := fun A => va_Qi (fun (r : Int32) (u : Unit) => r = if kActOK p0 p1 p2 p3 = true then 1 else 0) (KPost (dC, dI) A (fun (u : Unit) => [])) A) (by decide) rfl (Nat.le_of_ble_eq_true rfl) ?_
  intro p e s m below meth c A ls E hr hlocks hnm hsz hAe hX h hl
  have hx := E.1
  have hb := E.2.1
  have hl : lv_has ls 5 [(0, .int p0), (1, .int p1), (2, .int p2), (3, .int p3)] := hl
  refine lv_iload_n hx hb dX8_isActs_0 rfl (lv_at hl 0 rfl) ?_
  refine lv_i2l (v := p0.toInt64) hx hb dX8_isActs_1 rfl ?_
  refine lv_lconst (v := 0) hx hb dX8_isActs_2 (by decide) ?_
  refine lv_ldc2 (v := 10) hx hb E.2.2.2.1 (E.2.2.2.2 _ (List.mem_of_getElem? (i := 1) rfl)) dX8_isActs_3 ?_
  refine kc_i (wc := []) (wr := []) h (va_runS (As := [.long p0.toInt64, .long 0, .long 10]) (rest := []) E (c_X8_isIn l dC dI _ (p0 := p0.toInt64) (p1 := 0) (p2 := 10)  ) (va_cwS 3 E.2.2.2.2 gX8_isActs_X8_isIn rfl rfl rfl (by decide +kernel) ⟨Nat.le_of_ble_eq_true rfl, Nat.le_of_ble_eq_true rfl⟩) (kPreS h KX_true (fun _ _ _ => trivial) [] [] (by decide) rfl rfl) rfl rfl hl.1 rfl (lv_room (Nat.le_of_ble_eq_true rfl)) dX8_isActs_6 ⟨Nat.le_of_ble_eq_true rfl, Nat.le_of_ble_eq_true rfl⟩) [] [] rfl rfl (by decide) (by decide) (fun r_1 u_1 H locs hw_1 h => ?_)
  have h : KS (dC, dI) A [] [] s H locs := h
  have hw_1 : r_1 = if 0 ≤ p0.toInt ∧ p0.toInt ≤ 10 then 1 else 0 := by first | exact hw_1 | (simp only [Int32.toInt_toInt64] at hw_1; exact hw_1)
  refine W.eq (g2 := F0 m 9 ls [.int r_1]) rfl ?_
  refine lv_if_eq (tgt := 26) hx hb dX8_isActs_9 (by decide) (fun c_2 => ?_) (fun c_2 => ?_)
  · skip
    have b_2 := kb0 hw_1 c_2
    refine lv_iconst (v := 0) hx hb dX8_isActs_26 (by decide) ?_
    have hP9 := h.2.1.sub [] rfl
    have hD9 := h.2.2.1.sub (ws' := []) [] (by decide) rfl
    exact W.zret (v := 0) hx hb hr (by decide) (fun t ht hW => ⟨⟨0, (), rfl, (by split <;> first | rfl | (rename_i q; exfalso; simp only [kActOK, decide_eq_true_eq] at q; omega)), (by rw [ht]; exact hP9), hD9⟩, h.2.2.2.1.F ht⟩) h.2.2.2.1.2.2 dX8_isActs_27 hlocks
  · skip
    have b_2 := kb1 hw_1 c_2
    refine lv_iload_n hx hb dX8_isActs_12 rfl (lv_at hl 0 rfl) ?_
    refine kc_i (wc := []) (wr := []) h (va_runS (As := [.int p0]) (rest := []) E (c_X8_hasD l dC dI _ (p0 := p0)  ) (va_cwS 1 E.2.2.2.2 gX8_isActs_X8_hasD rfl rfl rfl (by decide +kernel) ⟨Nat.le_of_ble_eq_true rfl, Nat.le_of_ble_eq_true rfl⟩) (kPreS h KX_true (fun _ _ _ => trivial) [] [] (by decide) rfl rfl) rfl rfl hl.1 rfl (lv_room (Nat.le_of_ble_eq_true rfl)) dX8_isActs_13 ⟨Nat.le_of_ble_eq_true rfl, Nat.le_of_ble_eq_true rfl⟩) [] [] rfl rfl (by decide) (by decide) (fun r_3 u_3 H locs hw_3 h => ?_)
    have h : KS (dC, dI) A [] [] s H locs := h
    have hw_3 : r_3 = if p0.toInt ≤ 7 then 1 else 0 := by first | exact hw_3 | (simp only [Int32.toInt_toInt64] at hw_3; exact hw_3)
    refine W.eq (g2 := F0 m 16 ls [.int r_3]) rfl ?_
    refine lv_if_eq (tgt := 28) hx hb dX8_isActs_16 (by decide) (fun c_4 => ?_) (fun c_4 => ?_)
    · skip
      have b_4 := kb0 hw_3 c_4
      refine lv_iload_n hx hb dX8_isActs_28 rfl (lv_at hl 0 rfl) ?_
      refine lv_bipush (v := 9) hx hb dX8_isActs_29 (by decide) ?_
      refine lv_icmp_lt (tgt := 38) hx hb dX8_isActs_31 (by decide) (fun c_5 => ?_) (fun c_5 => ?_)
      · skip
        have i_5 : p0.toInt < 9 := (fa_lt _ _).mp c_5
        refine lv_iconst (v := 0) hx hb dX8_isActs_38 (by decide) ?_
        refine lv_istore (lv' := [(4, .int 0), (0, .int p0), (1, .int p1), (2, .int p2), (3, .int p3)]) hx hb dX8_isActs_39 hl (by decide) rfl (fun ls hl => ?_)
        refine lv_iload_n hx hb dX8_isActs_41 rfl (lv_at hl 1 rfl) ?_
        refine lv_if_ne (tgt := 60) hx hb dX8_isActs_42 (by decide) (fun c_6 => ?_) (fun c_6 => ?_)
        · skip
          have i_6 : ¬ p0.toInt = 0 := fun h9 => c_6 ((fa_eq _ _).mpr h9)
          refine lv_iload hx hb dX8_isActs_60 (lv_at hl 0 rfl) ?_
          refine lv_if_eq (tgt := 78) hx hb dX8_isActs_62 (by decide) (fun _ => ?_) (fun c_7 => absurd (by decide) c_7)
          refine lv_iload_n hx hb dX8_isActs_78 rfl (lv_at hl 3 rfl) ?_
          refine kc_i (wc := []) (wr := []) h (va_runS (As := [.int p2]) (rest := []) E (c_X8_isRegister l dC dI _ (p0 := p2)  ) (va_cwS 1 E.2.2.2.2 gX8_isActs_X8_isRegister rfl rfl rfl (by decide +kernel) ⟨Nat.le_of_ble_eq_true rfl, Nat.le_of_ble_eq_true rfl⟩) (kPreS h KX_true (fun _ _ _ => trivial) [] [] (by decide) rfl rfl) rfl rfl hl.1 rfl (lv_room (Nat.le_of_ble_eq_true rfl)) dX8_isActs_79 ⟨Nat.le_of_ble_eq_true rfl, Nat.le_of_ble_eq_true rfl⟩) [] [] rfl rfl (by decide) (by decide) (fun r_8 u_8 H locs hw_8 h => ?_)
          have h : KS (dC, dI) A [] [] s H locs := h
          have hw_8 : r_8 = if 0 ≤ p2.toInt ∧ p2.toInt < 8 then 1 else 0 := by first | exact hw_8 | (simp only [Int32.toInt_toInt64] at hw_8; exact hw_8)
          refine W.eq (g2 := F0 m 82 ls [.int r_8]) rfl ?_
          refine lv_if_ne (tgt := 87) hx hb dX8_isActs_82 (by decide) (fun c_9 => ?_) (fun c_9 => ?_)
          · skip
            have b_9 := kb1 hw_8 c_9
            refine lv_iload_n hx hb dX8_isActs_87 rfl (lv_at hl 1 rfl) ?_
            refine kc_i (wc := []) (wr := []) h (va_runS (As := [.int p0]) (rest := []) E (c_X8_hasY l dC dI _ (p0 := p0)  ) (va_cwS 1 E.2.2.2.2 gX8_isActs_X8_hasY rfl rfl rfl (by decide +kernel) ⟨Nat.le_of_ble_eq_true rfl, Nat.le_of_ble_eq_true rfl⟩) (kPreS h KX_true (fun _ _ _ => trivial) [] [] (by decide) rfl rfl) rfl rfl hl.1 rfl (lv_room (Nat.le_of_ble_eq_true rfl)) dX8_isActs_88 ⟨Nat.le_of_ble_eq_true rfl, Nat.le_of_ble_eq_true rfl⟩) [] [] rfl rfl (by decide) (by decide) (fun r_10 u_10 H locs hw_10 h => ?_)
            have h : KS (dC, dI) A [] [] s H locs := h
            have hw_10 : r_10 = if 2 ≤ p0.toInt ∧ ¬ p0.toInt = 7 then 1 else 0 := by first | exact hw_10 | (simp only [Int32.toInt_toInt64] at hw_10; exact hw_10)
            refine W.eq (g2 := F0 m 91 ls [.int r_10]) rfl ?_
            refine lv_if_ne (tgt := 96) hx hb dX8_isActs_91 (by decide) (fun c_11 => ?_) (fun c_11 => ?_)
            · skip
              have b_11 := kb1 hw_10 c_11
              refine lv_iload_n hx hb dX8_isActs_96 rfl (lv_at hl 1 rfl) ?_
              refine lv_bipush (v := 6) hx hb dX8_isActs_97 (by decide) ?_
              refine lv_icmp_ne (tgt := 116) hx hb dX8_isActs_99 (by decide) (fun c_12 => ?_) (fun c_12 => ?_)
              · skip
                have i_12 : ¬ p0.toInt = 6 := fun h9 => c_12 ((fa_eq _ _).mpr h9)
                refine lv_iload hx hb dX8_isActs_116 (lv_at hl 0 rfl) ?_
                refine lv_if_eq (tgt := 131) hx hb dX8_isActs_118 (by decide) (fun _ => ?_) (fun c_13 => absurd (by decide) c_13)
                refine lv_iload_n hx hb dX8_isActs_131 rfl (lv_at hl 4 rfl) ?_
                refine kc_i (wc := []) (wr := []) h (va_runS (As := [.int p3]) (rest := []) E (c_X8_isRegister l dC dI _ (p0 := p3)  ) (va_cwS 1 E.2.2.2.2 gX8_isActs_X8_isRegister rfl rfl rfl (by decide +kernel) ⟨Nat.le_of_ble_eq_true rfl, Nat.le_of_ble_eq_true rfl⟩) (kPreS h KX_true (fun _ _ _ => trivial) [] [] (by decide) rfl rfl) rfl rfl hl.1 rfl (lv_room (Nat.le_of_ble_eq_true rfl)) dX8_isActs_132 ⟨Nat.le_of_ble_eq_true rfl, Nat.le_of_ble_eq_true rfl⟩) [] [] rfl rfl (by decide) (by decide) (fun r_14 u_14 H locs hw_14 h => ?_)
                have h : KS (dC, dI) A [] [] s H locs := h
                have hw_14 : r_14 = if 0 ≤ p3.toInt ∧ p3.toInt < 8 then 1 else 0 := by first | exact hw_14 | (simp only [Int32.toInt_toInt64] at hw_14; exact hw_14)
                refine W.eq (g2 := F0 m 135 ls [.int r_14]) rfl ?_
                have hP9 := h.2.1.sub [] rfl
                have hD9 := h.2.2.1.sub (ws' := []) [] (by decide) rfl
                exact W.zret (v := r_14) hx hb hr (by rw [hw_14]; split <;> rfl) (fun t ht hW => ⟨⟨r_14, (), rfl, (by rw [hw_14]; (repeat' split) <;> first | rfl | (rename_i q r; exfalso; simp only [kActOK, decide_eq_true_eq] at q r; omega) ), (by rw [ht]; exact hP9), hD9⟩, h.2.2.2.1.F ht⟩) h.2.2.2.1.2.2 dX8_isActs_135 hlocks
              · skip
                have i_12 : p0.toInt = 6 := (fa_eq _ _).mp c_12
                refine lv_iload_n hx hb dX8_isActs_102 rfl (lv_at hl 4 rfl) ?_
                refine lv_i2l (v := p3.toInt64) hx hb dX8_isActs_103 rfl ?_
                refine lv_ldc2 (v := -31) hx hb E.2.2.2.1 (E.2.2.2.2 _ (List.mem_of_getElem? (i := 3) rfl)) dX8_isActs_104 ?_
                refine lv_ldc2 (v := 31) hx hb E.2.2.2.1 (E.2.2.2.2 _ (List.mem_of_getElem? (i := 4) rfl)) dX8_isActs_107 ?_
                refine kc_i (wc := []) (wr := []) h (va_runS (As := [.long p3.toInt64, .long (-31), .long 31]) (rest := []) E (c_X8_isIn l dC dI _ (p0 := p3.toInt64) (p1 := (-31)) (p2 := 31)  ) (va_cwS 3 E.2.2.2.2 gX8_isActs_X8_isIn rfl rfl rfl (by decide +kernel) ⟨Nat.le_of_ble_eq_true rfl, Nat.le_of_ble_eq_true rfl⟩) (kPreS h KX_true (fun _ _ _ => trivial) [] [] (by decide) rfl rfl) rfl rfl hl.1 rfl (lv_room (Nat.le_of_ble_eq_true rfl)) dX8_isActs_110 ⟨Nat.le_of_ble_eq_true rfl, Nat.le_of_ble_eq_true rfl⟩) [] [] rfl rfl (by decide) (by decide) (fun r_15 u_15 H locs hw_15 h => ?_)
                have h : KS (dC, dI) A [] [] s H locs := h
                have hw_15 : r_15 = if (-31) ≤ p3.toInt ∧ p3.toInt ≤ 31 then 1 else 0 := by first | exact hw_15 | (simp only [Int32.toInt_toInt64] at hw_15; exact hw_15)
                refine W.eq (g2 := F0 m 113 ls [.int r_15]) rfl ?_
                refine lv_goto (tgt := 135) hx hb dX8_isActs_113 (by decide) ?_
                have hP9 := h.2.1.sub [] rfl
                have hD9 := h.2.2.1.sub (ws' := []) [] (by decide) rfl
                exact W.zret (v := r_15) hx hb hr (by rw [hw_15]; split <;> rfl) (fun t ht hW => ⟨⟨r_15, (), rfl, (by rw [hw_15]; (repeat' split) <;> first | rfl | (rename_i q r; exfalso; simp only [kActOK, decide_eq_true_eq] at q r; omega) ), (by rw [ht]; exact hP9), hD9⟩, h.2.2.2.1.F ht⟩) h.2.2.2.1.2.2 dX8_isActs_135 hlocks
            · skip
              have b_11 := kb0 hw_10 c_11
              refine lv_iconst (v := 1) hx hb dX8_isActs_94 (by decide) ?_
              have hP9 := h.2.1.sub [] rfl
              have hD9 := h.2.2.1.sub (ws' := []) [] (by decide) rfl
              exact W.zret (v := 1) hx hb hr (by decide) (fun t ht hW => ⟨⟨1, (), rfl, (by split <;> first | rfl | (rename_i q; exfalso; simp only [kActOK, decide_eq_true_eq] at q; omega)), (by rw [ht]; exact hP9), hD9⟩, h.2.2.2.1.F ht⟩) h.2.2.2.1.2.2 dX8_isActs_95 hlocks
          · skip
            have b_9 := kb0 hw_8 c_9
            refine lv_iconst (v := 0) hx hb dX8_isActs_85 (by decide) ?_
            have hP9 := h.2.1.sub [] rfl
            have hD9 := h.2.2.1.sub (ws' := []) [] (by decide) rfl
            exact W.zret (v := 0) hx hb hr (by decide) (fun t ht hW => ⟨⟨0, (), rfl, (by split <;> first | rfl | (rename_i q; exfalso; simp only [kActOK, decide_eq_true_eq] at q; omega)), (by rw [ht]; exact hP9), hD9⟩, h.2.2.2.1.F ht⟩) h.2.2.2.1.2.2 dX8_isActs_86 hlocks
        · skip
          have i_6 : p0.toInt = 0 := (fa_eq _ _).mp c_6
          refine lv_iload_n hx hb dX8_isActs_45 rfl (lv_at hl 3 rfl) ?_
          refine lv_i2l (v := p2.toInt64) hx hb dX8_isActs_46 rfl ?_
          refine lv_lconst (v := 0) hx hb dX8_isActs_47 (by decide) ?_
          refine lv_ldc2 (v := 255) hx hb E.2.2.2.1 (E.2.2.2.2 _ (List.mem_of_getElem? (i := 2) rfl)) dX8_isActs_48 ?_
          refine kc_i (wc := []) (wr := []) h (va_runS (As := [.long p2.toInt64, .long 0, .long 255]) (rest := []) E (c_X8_isIn l dC dI _ (p0 := p2.toInt64) (p1 := 0) (p2 := 255)  ) (va_cwS 3 E.2.2.2.2 gX8_isActs_X8_isIn rfl rfl rfl (by decide +kernel) ⟨Nat.le_of_ble_eq_true rfl, Nat.le_of_ble_eq_true rfl⟩) (kPreS h KX_true (fun _ _ _ => trivial) [] [] (by decide) rfl rfl) rfl rfl hl.1 rfl (lv_room (Nat.le_of_ble_eq_true rfl)) dX8_isActs_51 ⟨Nat.le_of_ble_eq_true rfl, Nat.le_of_ble_eq_true rfl⟩) [] [] rfl rfl (by decide) (by decide) (fun r_16 u_16 H locs hw_16 h => ?_)
          have h : KS (dC, dI) A [] [] s H locs := h
          have hw_16 : r_16 = if 0 ≤ p2.toInt ∧ p2.toInt ≤ 255 then 1 else 0 := by first | exact hw_16 | (simp only [Int32.toInt_toInt64] at hw_16; exact hw_16)
          refine W.eq (g2 := F0 m 54 ls [.int r_16]) rfl ?_
          refine lv_if_ne (tgt := 87) hx hb dX8_isActs_54 (by decide) (fun c_17 => ?_) (fun c_17 => ?_)
          · skip
            have b_17 := kb1 hw_16 c_17
            refine lv_iload_n hx hb dX8_isActs_87 rfl (lv_at hl 1 rfl) ?_
            refine kc_i (wc := []) (wr := []) h (va_runS (As := [.int p0]) (rest := []) E (c_X8_hasY l dC dI _ (p0 := p0)  ) (va_cwS 1 E.2.2.2.2 gX8_isActs_X8_hasY rfl rfl rfl (by decide +kernel) ⟨Nat.le_of_ble_eq_true rfl, Nat.le_of_ble_eq_true rfl⟩) (kPreS h KX_true (fun _ _ _ => trivial) [] [] (by decide) rfl rfl) rfl rfl hl.1 rfl (lv_room (Nat.le_of_ble_eq_true rfl)) dX8_isActs_88 ⟨Nat.le_of_ble_eq_true rfl, Nat.le_of_ble_eq_true rfl⟩) [] [] rfl rfl (by decide) (by decide) (fun r_18 u_18 H locs hw_18 h => ?_)
            have h : KS (dC, dI) A [] [] s H locs := h
            have hw_18 : r_18 = if 2 ≤ p0.toInt ∧ ¬ p0.toInt = 7 then 1 else 0 := by first | exact hw_18 | (simp only [Int32.toInt_toInt64] at hw_18; exact hw_18)
            refine W.eq (g2 := F0 m 91 ls [.int r_18]) rfl ?_
            refine lv_if_ne (tgt := 96) hx hb dX8_isActs_91 (by decide) (fun c_19 => ?_) (fun c_19 => ?_)
            · skip
              have b_19 := kb1 hw_18 c_19
              refine lv_iload_n hx hb dX8_isActs_96 rfl (lv_at hl 1 rfl) ?_
              refine lv_bipush (v := 6) hx hb dX8_isActs_97 (by decide) ?_
              refine lv_icmp_ne (tgt := 116) hx hb dX8_isActs_99 (by decide) (fun c_20 => ?_) (fun c_20 => ?_)
              · skip
                have i_20 : ¬ p0.toInt = 6 := fun h9 => c_20 ((fa_eq _ _).mpr h9)
                refine lv_iload hx hb dX8_isActs_116 (lv_at hl 0 rfl) ?_
                refine lv_if_eq (tgt := 131) hx hb dX8_isActs_118 (by decide) (fun _ => ?_) (fun c_21 => absurd (by decide) c_21)
                refine lv_iload_n hx hb dX8_isActs_131 rfl (lv_at hl 4 rfl) ?_
                refine kc_i (wc := []) (wr := []) h (va_runS (As := [.int p3]) (rest := []) E (c_X8_isRegister l dC dI _ (p0 := p3)  ) (va_cwS 1 E.2.2.2.2 gX8_isActs_X8_isRegister rfl rfl rfl (by decide +kernel) ⟨Nat.le_of_ble_eq_true rfl, Nat.le_of_ble_eq_true rfl⟩) (kPreS h KX_true (fun _ _ _ => trivial) [] [] (by decide) rfl rfl) rfl rfl hl.1 rfl (lv_room (Nat.le_of_ble_eq_true rfl)) dX8_isActs_132 ⟨Nat.le_of_ble_eq_true rfl, Nat.le_of_ble_eq_true rfl⟩) [] [] rfl rfl (by decide) (by decide) (fun r_22 u_22 H locs hw_22 h => ?_)
                have h : KS (dC, dI) A [] [] s H locs := h
                have hw_22 : r_22 = if 0 ≤ p3.toInt ∧ p3.toInt < 8 then 1 else 0 := by first | exact hw_22 | (simp only [Int32.toInt_toInt64] at hw_22; exact hw_22)
                refine W.eq (g2 := F0 m 135 ls [.int r_22]) rfl ?_
                have hP9 := h.2.1.sub [] rfl
                have hD9 := h.2.2.1.sub (ws' := []) [] (by decide) rfl
                exact W.zret (v := r_22) hx hb hr (by rw [hw_22]; split <;> rfl) (fun t ht hW => ⟨⟨r_22, (), rfl, (by rw [hw_22]; (repeat' split) <;> first | rfl | (rename_i q r; exfalso; simp only [kActOK, decide_eq_true_eq] at q r; omega) ), (by rw [ht]; exact hP9), hD9⟩, h.2.2.2.1.F ht⟩) h.2.2.2.1.2.2 dX8_isActs_135 hlocks
              · skip
                have i_20 : p0.toInt = 6 := (fa_eq _ _).mp c_20
                refine lv_iload_n hx hb dX8_isActs_102 rfl (lv_at hl 4 rfl) ?_
                refine lv_i2l (v := p3.toInt64) hx hb dX8_isActs_103 rfl ?_
                refine lv_ldc2 (v := -31) hx hb E.2.2.2.1 (E.2.2.2.2 _ (List.mem_of_getElem? (i := 3) rfl)) dX8_isActs_104 ?_
                refine lv_ldc2 (v := 31) hx hb E.2.2.2.1 (E.2.2.2.2 _ (List.mem_of_getElem? (i := 4) rfl)) dX8_isActs_107 ?_
                refine kc_i (wc := []) (wr := []) h (va_runS (As := [.long p3.toInt64, .long (-31), .long 31]) (rest := []) E (c_X8_isIn l dC dI _ (p0 := p3.toInt64) (p1 := (-31)) (p2 := 31)  ) (va_cwS 3 E.2.2.2.2 gX8_isActs_X8_isIn rfl rfl rfl (by decide +kernel) ⟨Nat.le_of_ble_eq_true rfl, Nat.le_of_ble_eq_true rfl⟩) (kPreS h KX_true (fun _ _ _ => trivial) [] [] (by decide) rfl rfl) rfl rfl hl.1 rfl (lv_room (Nat.le_of_ble_eq_true rfl)) dX8_isActs_110 ⟨Nat.le_of_ble_eq_true rfl, Nat.le_of_ble_eq_true rfl⟩) [] [] rfl rfl (by decide) (by decide) (fun r_23 u_23 H locs hw_23 h => ?_)
                have h : KS (dC, dI) A [] [] s H locs := h
                have hw_23 : r_23 = if (-31) ≤ p3.toInt ∧ p3.toInt ≤ 31 then 1 else 0 := by first | exact hw_23 | (simp only [Int32.toInt_toInt64] at hw_23; exact hw_23)
                refine W.eq (g2 := F0 m 113 ls [.int r_23]) rfl ?_
                refine lv_goto (tgt := 135) hx hb dX8_isActs_113 (by decide) ?_
                have hP9 := h.2.1.sub [] rfl
                have hD9 := h.2.2.1.sub (ws' := []) [] (by decide) rfl
                exact W.zret (v := r_23) hx hb hr (by rw [hw_23]; split <;> rfl) (fun t ht hW => ⟨⟨r_23, (), rfl, (by rw [hw_23]; (repeat' split) <;> first | rfl | (rename_i q r; exfalso; simp only [kActOK, decide_eq_true_eq] at q r; omega) ), (by rw [ht]; exact hP9), hD9⟩, h.2.2.2.1.F ht⟩) h.2.2.2.1.2.2 dX8_isActs_135 hlocks
            · skip
              have b_19 := kb0 hw_18 c_19
              refine lv_iconst (v := 1) hx hb dX8_isActs_94 (by decide) ?_
              have hP9 := h.2.1.sub [] rfl
              have hD9 := h.2.2.1.sub (ws' := []) [] (by decide) rfl
              exact W.zret (v := 1) hx hb hr (by decide) (fun t ht hW => ⟨⟨1, (), rfl, (by split <;> first | rfl | (rename_i q; exfalso; simp only [kActOK, decide_eq_true_eq] at q; omega)), (by rw [ht]; exact hP9), hD9⟩, h.2.2.2.1.F ht⟩) h.2.2.2.1.2.2 dX8_isActs_95 hlocks
          · skip
            have b_17 := kb0 hw_16 c_17
            refine lv_goto (tgt := 85) hx hb dX8_isActs_57 (by decide) ?_
            refine lv_iconst (v := 0) hx hb dX8_isActs_85 (by decide) ?_
            have hP9 := h.2.1.sub [] rfl
            have hD9 := h.2.2.1.sub (ws' := []) [] (by decide) rfl
            exact W.zret (v := 0) hx hb hr (by decide) (fun t ht hW => ⟨⟨0, (), rfl, (by split <;> first | rfl | (rename_i q; exfalso; simp only [kActOK, decide_eq_true_eq] at q; omega)), (by rw [ht]; exact hP9), hD9⟩, h.2.2.2.1.F ht⟩) h.2.2.2.1.2.2 dX8_isActs_86 hlocks
      · skip
        have i_5 : ¬ p0.toInt < 9 := fun h9 => c_5 ((fa_lt _ _).mpr h9)
        refine lv_iconst (v := 1) hx hb dX8_isActs_34 (by decide) ?_
        refine lv_goto (tgt := 39) hx hb dX8_isActs_35 (by decide) ?_
        refine lv_istore (lv' := [(4, .int 1), (0, .int p0), (1, .int p1), (2, .int p2), (3, .int p3)]) hx hb dX8_isActs_39 hl (by decide) rfl (fun ls hl => ?_)
        refine lv_iload_n hx hb dX8_isActs_41 rfl (lv_at hl 1 rfl) ?_
        refine lv_if_ne (tgt := 60) hx hb dX8_isActs_42 (by decide) (fun c_24 => ?_) (fun c_24 => ?_)
        · skip
          have i_24 : ¬ p0.toInt = 0 := fun h9 => c_24 ((fa_eq _ _).mpr h9)
          refine lv_iload hx hb dX8_isActs_60 (lv_at hl 0 rfl) ?_
          refine lv_if_eq (tgt := 78) hx hb dX8_isActs_62 (by decide) (fun c_25 => absurd c_25 (by decide)) (fun _ => ?_)
          refine lv_iload_n hx hb dX8_isActs_65 rfl (lv_at hl 3 rfl) ?_
          refine lv_i2l (v := p2.toInt64) hx hb dX8_isActs_66 rfl ?_
          refine lv_lconst (v := 0) hx hb dX8_isActs_67 (by decide) ?_
          refine lv_lconst (v := 1) hx hb dX8_isActs_68 (by decide) ?_
          refine kc_i (wc := []) (wr := []) h (va_runS (As := [.long p2.toInt64, .long 0, .long 1]) (rest := []) E (c_X8_isIn l dC dI _ (p0 := p2.toInt64) (p1 := 0) (p2 := 1)  ) (va_cwS 3 E.2.2.2.2 gX8_isActs_X8_isIn rfl rfl rfl (by decide +kernel) ⟨Nat.le_of_ble_eq_true rfl, Nat.le_of_ble_eq_true rfl⟩) (kPreS h KX_true (fun _ _ _ => trivial) [] [] (by decide) rfl rfl) rfl rfl hl.1 rfl (lv_room (Nat.le_of_ble_eq_true rfl)) dX8_isActs_69 ⟨Nat.le_of_ble_eq_true rfl, Nat.le_of_ble_eq_true rfl⟩) [] [] rfl rfl (by decide) (by decide) (fun r_26 u_26 H locs hw_26 h => ?_)
          have h : KS (dC, dI) A [] [] s H locs := h
          have hw_26 : r_26 = if 0 ≤ p2.toInt ∧ p2.toInt ≤ 1 then 1 else 0 := by first | exact hw_26 | (simp only [Int32.toInt_toInt64] at hw_26; exact hw_26)
          refine W.eq (g2 := F0 m 72 ls [.int r_26]) rfl ?_
          refine lv_if_ne (tgt := 87) hx hb dX8_isActs_72 (by decide) (fun c_27 => ?_) (fun c_27 => ?_)
          · skip
            have b_27 := kb1 hw_26 c_27
            refine lv_iload_n hx hb dX8_isActs_87 rfl (lv_at hl 1 rfl) ?_
            refine kc_i (wc := []) (wr := []) h (va_runS (As := [.int p0]) (rest := []) E (c_X8_hasY l dC dI _ (p0 := p0)  ) (va_cwS 1 E.2.2.2.2 gX8_isActs_X8_hasY rfl rfl rfl (by decide +kernel) ⟨Nat.le_of_ble_eq_true rfl, Nat.le_of_ble_eq_true rfl⟩) (kPreS h KX_true (fun _ _ _ => trivial) [] [] (by decide) rfl rfl) rfl rfl hl.1 rfl (lv_room (Nat.le_of_ble_eq_true rfl)) dX8_isActs_88 ⟨Nat.le_of_ble_eq_true rfl, Nat.le_of_ble_eq_true rfl⟩) [] [] rfl rfl (by decide) (by decide) (fun r_28 u_28 H locs hw_28 h => ?_)
            have h : KS (dC, dI) A [] [] s H locs := h
            have hw_28 : r_28 = if 2 ≤ p0.toInt ∧ ¬ p0.toInt = 7 then 1 else 0 := by first | exact hw_28 | (simp only [Int32.toInt_toInt64] at hw_28; exact hw_28)
            refine W.eq (g2 := F0 m 91 ls [.int r_28]) rfl ?_
            refine lv_if_ne (tgt := 96) hx hb dX8_isActs_91 (by decide) (fun c_29 => ?_) (fun c_29 => ?_)
            · skip
              have b_29 := kb1 hw_28 c_29
              refine lv_iload_n hx hb dX8_isActs_96 rfl (lv_at hl 1 rfl) ?_
              refine lv_bipush (v := 6) hx hb dX8_isActs_97 (by decide) ?_
              refine lv_icmp_ne (tgt := 116) hx hb dX8_isActs_99 (by decide) (fun c_30 => ?_) (fun c_30 => ?_)
              · skip
                have i_30 : ¬ p0.toInt = 6 := fun h9 => c_30 ((fa_eq _ _).mpr h9)
                refine lv_iload hx hb dX8_isActs_116 (lv_at hl 0 rfl) ?_
                refine lv_if_eq (tgt := 131) hx hb dX8_isActs_118 (by decide) (fun c_31 => absurd c_31 (by decide)) (fun _ => ?_)
                refine lv_iload_n hx hb dX8_isActs_121 rfl (lv_at hl 4 rfl) ?_
                refine lv_i2l (v := p3.toInt64) hx hb dX8_isActs_122 rfl ?_
                refine lv_lconst (v := 0) hx hb dX8_isActs_123 (by decide) ?_
                refine lv_lconst (v := 1) hx hb dX8_isActs_124 (by decide) ?_
                refine kc_i (wc := []) (wr := []) h (va_runS (As := [.long p3.toInt64, .long 0, .long 1]) (rest := []) E (c_X8_isIn l dC dI _ (p0 := p3.toInt64) (p1 := 0) (p2 := 1)  ) (va_cwS 3 E.2.2.2.2 gX8_isActs_X8_isIn rfl rfl rfl (by decide +kernel) ⟨Nat.le_of_ble_eq_true rfl, Nat.le_of_ble_eq_true rfl⟩) (kPreS h KX_true (fun _ _ _ => trivial) [] [] (by decide) rfl rfl) rfl rfl hl.1 rfl (lv_room (Nat.le_of_ble_eq_true rfl)) dX8_isActs_125 ⟨Nat.le_of_ble_eq_true rfl, Nat.le_of_ble_eq_true rfl⟩) [] [] rfl rfl (by decide) (by decide) (fun r_32 u_32 H locs hw_32 h => ?_)
                have h : KS (dC, dI) A [] [] s H locs := h
                have hw_32 : r_32 = if 0 ≤ p3.toInt ∧ p3.toInt ≤ 1 then 1 else 0 := by first | exact hw_32 | (simp only [Int32.toInt_toInt64] at hw_32; exact hw_32)
                refine W.eq (g2 := F0 m 128 ls [.int r_32]) rfl ?_
                refine lv_goto (tgt := 135) hx hb dX8_isActs_128 (by decide) ?_
                have hP9 := h.2.1.sub [] rfl
                have hD9 := h.2.2.1.sub (ws' := []) [] (by decide) rfl
                exact W.zret (v := r_32) hx hb hr (by rw [hw_32]; split <;> rfl) (fun t ht hW => ⟨⟨r_32, (), rfl, (by rw [hw_32]; (repeat' split) <;> first | rfl | (rename_i q r; exfalso; simp only [kActOK, decide_eq_true_eq] at q r; omega) ), (by rw [ht]; exact hP9), hD9⟩, h.2.2.2.1.F ht⟩) h.2.2.2.1.2.2 dX8_isActs_135 hlocks
              · skip
                have i_30 : p0.toInt = 6 := (fa_eq _ _).mp c_30
                refine lv_iload_n hx hb dX8_isActs_102 rfl (lv_at hl 4 rfl) ?_
                refine lv_i2l (v := p3.toInt64) hx hb dX8_isActs_103 rfl ?_
                refine lv_ldc2 (v := -31) hx hb E.2.2.2.1 (E.2.2.2.2 _ (List.mem_of_getElem? (i := 3) rfl)) dX8_isActs_104 ?_
                refine lv_ldc2 (v := 31) hx hb E.2.2.2.1 (E.2.2.2.2 _ (List.mem_of_getElem? (i := 4) rfl)) dX8_isActs_107 ?_
                refine kc_i (wc := []) (wr := []) h (va_runS (As := [.long p3.toInt64, .long (-31), .long 31]) (rest := []) E (c_X8_isIn l dC dI _ (p0 := p3.toInt64) (p1 := (-31)) (p2 := 31)  ) (va_cwS 3 E.2.2.2.2 gX8_isActs_X8_isIn rfl rfl rfl (by decide +kernel) ⟨Nat.le_of_ble_eq_true rfl, Nat.le_of_ble_eq_true rfl⟩) (kPreS h KX_true (fun _ _ _ => trivial) [] [] (by decide) rfl rfl) rfl rfl hl.1 rfl (lv_room (Nat.le_of_ble_eq_true rfl)) dX8_isActs_110 ⟨Nat.le_of_ble_eq_true rfl, Nat.le_of_ble_eq_true rfl⟩) [] [] rfl rfl (by decide) (by decide) (fun r_33 u_33 H locs hw_33 h => ?_)
                have h : KS (dC, dI) A [] [] s H locs := h
                have hw_33 : r_33 = if (-31) ≤ p3.toInt ∧ p3.toInt ≤ 31 then 1 else 0 := by first | exact hw_33 | (simp only [Int32.toInt_toInt64] at hw_33; exact hw_33)
                refine W.eq (g2 := F0 m 113 ls [.int r_33]) rfl ?_
                refine lv_goto (tgt := 135) hx hb dX8_isActs_113 (by decide) ?_
                have hP9 := h.2.1.sub [] rfl
                have hD9 := h.2.2.1.sub (ws' := []) [] (by decide) rfl
                exact W.zret (v := r_33) hx hb hr (by rw [hw_33]; split <;> rfl) (fun t ht hW => ⟨⟨r_33, (), rfl, (by rw [hw_33]; (repeat' split) <;> first | rfl | (rename_i q r; exfalso; simp only [kActOK, decide_eq_true_eq] at q r; omega) ), (by rw [ht]; exact hP9), hD9⟩, h.2.2.2.1.F ht⟩) h.2.2.2.1.2.2 dX8_isActs_135 hlocks
            · skip
              have b_29 := kb0 hw_28 c_29
              refine lv_iconst (v := 1) hx hb dX8_isActs_94 (by decide) ?_
              have hP9 := h.2.1.sub [] rfl
              have hD9 := h.2.2.1.sub (ws' := []) [] (by decide) rfl
              exact W.zret (v := 1) hx hb hr (by decide) (fun t ht hW => ⟨⟨1, (), rfl, (by split <;> first | rfl | (rename_i q; exfalso; simp only [kActOK, decide_eq_true_eq] at q; omega)), (by rw [ht]; exact hP9), hD9⟩, h.2.2.2.1.F ht⟩) h.2.2.2.1.2.2 dX8_isActs_95 hlocks
          · skip
            have b_27 := kb0 hw_26 c_27
            refine lv_goto (tgt := 85) hx hb dX8_isActs_75 (by decide) ?_
            refine lv_iconst (v := 0) hx hb dX8_isActs_85 (by decide) ?_
            have hP9 := h.2.1.sub [] rfl
            have hD9 := h.2.2.1.sub (ws' := []) [] (by decide) rfl
            exact W.zret (v := 0) hx hb hr (by decide) (fun t ht hW => ⟨⟨0, (), rfl, (by split <;> first | rfl | (rename_i q; exfalso; simp only [kActOK, decide_eq_true_eq] at q; omega)), (by rw [ht]; exact hP9), hD9⟩, h.2.2.2.1.F ht⟩) h.2.2.2.1.2.2 dX8_isActs_86 hlocks
        · skip
          have i_24 : p0.toInt = 0 := (fa_eq _ _).mp c_24
          refine lv_iload_n hx hb dX8_isActs_45 rfl (lv_at hl 3 rfl) ?_
          refine lv_i2l (v := p2.toInt64) hx hb dX8_isActs_46 rfl ?_
          refine lv_lconst (v := 0) hx hb dX8_isActs_47 (by decide) ?_
          refine lv_ldc2 (v := 255) hx hb E.2.2.2.1 (E.2.2.2.2 _ (List.mem_of_getElem? (i := 2) rfl)) dX8_isActs_48 ?_
          refine kc_i (wc := []) (wr := []) h (va_runS (As := [.long p2.toInt64, .long 0, .long 255]) (rest := []) E (c_X8_isIn l dC dI _ (p0 := p2.toInt64) (p1 := 0) (p2 := 255)  ) (va_cwS 3 E.2.2.2.2 gX8_isActs_X8_isIn rfl rfl rfl (by decide +kernel) ⟨Nat.le_of_ble_eq_true rfl, Nat.le_of_ble_eq_true rfl⟩) (kPreS h KX_true (fun _ _ _ => trivial) [] [] (by decide) rfl rfl) rfl rfl hl.1 rfl (lv_room (Nat.le_of_ble_eq_true rfl)) dX8_isActs_51 ⟨Nat.le_of_ble_eq_true rfl, Nat.le_of_ble_eq_true rfl⟩) [] [] rfl rfl (by decide) (by decide) (fun r_34 u_34 H locs hw_34 h => ?_)
          have h : KS (dC, dI) A [] [] s H locs := h
          have hw_34 : r_34 = if 0 ≤ p2.toInt ∧ p2.toInt ≤ 255 then 1 else 0 := by first | exact hw_34 | (simp only [Int32.toInt_toInt64] at hw_34; exact hw_34)
          refine W.eq (g2 := F0 m 54 ls [.int r_34]) rfl ?_
          refine lv_if_ne (tgt := 87) hx hb dX8_isActs_54 (by decide) (fun c_35 => ?_) (fun c_35 => ?_)
          · skip
            have b_35 := kb1 hw_34 c_35
            refine lv_iload_n hx hb dX8_isActs_87 rfl (lv_at hl 1 rfl) ?_
            refine kc_i (wc := []) (wr := []) h (va_runS (As := [.int p0]) (rest := []) E (c_X8_hasY l dC dI _ (p0 := p0)  ) (va_cwS 1 E.2.2.2.2 gX8_isActs_X8_hasY rfl rfl rfl (by decide +kernel) ⟨Nat.le_of_ble_eq_true rfl, Nat.le_of_ble_eq_true rfl⟩) (kPreS h KX_true (fun _ _ _ => trivial) [] [] (by decide) rfl rfl) rfl rfl hl.1 rfl (lv_room (Nat.le_of_ble_eq_true rfl)) dX8_isActs_88 ⟨Nat.le_of_ble_eq_true rfl, Nat.le_of_ble_eq_true rfl⟩) [] [] rfl rfl (by decide) (by decide) (fun r_36 u_36 H locs hw_36 h => ?_)
            have h : KS (dC, dI) A [] [] s H locs := h
            have hw_36 : r_36 = if 2 ≤ p0.toInt ∧ ¬ p0.toInt = 7 then 1 else 0 := by first | exact hw_36 | (simp only [Int32.toInt_toInt64] at hw_36; exact hw_36)
            refine W.eq (g2 := F0 m 91 ls [.int r_36]) rfl ?_
            refine lv_if_ne (tgt := 96) hx hb dX8_isActs_91 (by decide) (fun c_37 => ?_) (fun c_37 => ?_)
            · skip
              have b_37 := kb1 hw_36 c_37
              refine lv_iload_n hx hb dX8_isActs_96 rfl (lv_at hl 1 rfl) ?_
              refine lv_bipush (v := 6) hx hb dX8_isActs_97 (by decide) ?_
              refine lv_icmp_ne (tgt := 116) hx hb dX8_isActs_99 (by decide) (fun c_38 => ?_) (fun c_38 => ?_)
              · skip
                have i_38 : ¬ p0.toInt = 6 := fun h9 => c_38 ((fa_eq _ _).mpr h9)
                refine lv_iload hx hb dX8_isActs_116 (lv_at hl 0 rfl) ?_
                refine lv_if_eq (tgt := 131) hx hb dX8_isActs_118 (by decide) (fun c_39 => absurd c_39 (by decide)) (fun _ => ?_)
                refine lv_iload_n hx hb dX8_isActs_121 rfl (lv_at hl 4 rfl) ?_
                refine lv_i2l (v := p3.toInt64) hx hb dX8_isActs_122 rfl ?_
                refine lv_lconst (v := 0) hx hb dX8_isActs_123 (by decide) ?_
                refine lv_lconst (v := 1) hx hb dX8_isActs_124 (by decide) ?_
                refine kc_i (wc := []) (wr := []) h (va_runS (As := [.long p3.toInt64, .long 0, .long 1]) (rest := []) E (c_X8_isIn l dC dI _ (p0 := p3.toInt64) (p1 := 0) (p2 := 1)  ) (va_cwS 3 E.2.2.2.2 gX8_isActs_X8_isIn rfl rfl rfl (by decide +kernel) ⟨Nat.le_of_ble_eq_true rfl, Nat.le_of_ble_eq_true rfl⟩) (kPreS h KX_true (fun _ _ _ => trivial) [] [] (by decide) rfl rfl) rfl rfl hl.1 rfl (lv_room (Nat.le_of_ble_eq_true rfl)) dX8_isActs_125 ⟨Nat.le_of_ble_eq_true rfl, Nat.le_of_ble_eq_true rfl⟩) [] [] rfl rfl (by decide) (by decide) (fun r_40 u_40 H locs hw_40 h => ?_)
                have h : KS (dC, dI) A [] [] s H locs := h
                have hw_40 : r_40 = if 0 ≤ p3.toInt ∧ p3.toInt ≤ 1 then 1 else 0 := by first | exact hw_40 | (simp only [Int32.toInt_toInt64] at hw_40; exact hw_40)
                refine W.eq (g2 := F0 m 128 ls [.int r_40]) rfl ?_
                refine lv_goto (tgt := 135) hx hb dX8_isActs_128 (by decide) ?_
                have hP9 := h.2.1.sub [] rfl
                have hD9 := h.2.2.1.sub (ws' := []) [] (by decide) rfl
                exact W.zret (v := r_40) hx hb hr (by rw [hw_40]; split <;> rfl) (fun t ht hW => ⟨⟨r_40, (), rfl, (by rw [hw_40]; (repeat' split) <;> first | rfl | (rename_i q r; exfalso; simp only [kActOK, decide_eq_true_eq] at q r; omega) ), (by rw [ht]; exact hP9), hD9⟩, h.2.2.2.1.F ht⟩) h.2.2.2.1.2.2 dX8_isActs_135 hlocks
              · skip
                have i_38 : p0.toInt = 6 := (fa_eq _ _).mp c_38
                refine lv_iload_n hx hb dX8_isActs_102 rfl (lv_at hl 4 rfl) ?_
                refine lv_i2l (v := p3.toInt64) hx hb dX8_isActs_103 rfl ?_
                refine lv_ldc2 (v := -31) hx hb E.2.2.2.1 (E.2.2.2.2 _ (List.mem_of_getElem? (i := 3) rfl)) dX8_isActs_104 ?_
                refine lv_ldc2 (v := 31) hx hb E.2.2.2.1 (E.2.2.2.2 _ (List.mem_of_getElem? (i := 4) rfl)) dX8_isActs_107 ?_
                refine kc_i (wc := []) (wr := []) h (va_runS (As := [.long p3.toInt64, .long (-31), .long 31]) (rest := []) E (c_X8_isIn l dC dI _ (p0 := p3.toInt64) (p1 := (-31)) (p2 := 31)  ) (va_cwS 3 E.2.2.2.2 gX8_isActs_X8_isIn rfl rfl rfl (by decide +kernel) ⟨Nat.le_of_ble_eq_true rfl, Nat.le_of_ble_eq_true rfl⟩) (kPreS h KX_true (fun _ _ _ => trivial) [] [] (by decide) rfl rfl) rfl rfl hl.1 rfl (lv_room (Nat.le_of_ble_eq_true rfl)) dX8_isActs_110 ⟨Nat.le_of_ble_eq_true rfl, Nat.le_of_ble_eq_true rfl⟩) [] [] rfl rfl (by decide) (by decide) (fun r_41 u_41 H locs hw_41 h => ?_)
                have h : KS (dC, dI) A [] [] s H locs := h
                have hw_41 : r_41 = if (-31) ≤ p3.toInt ∧ p3.toInt ≤ 31 then 1 else 0 := by first | exact hw_41 | (simp only [Int32.toInt_toInt64] at hw_41; exact hw_41)
                refine W.eq (g2 := F0 m 113 ls [.int r_41]) rfl ?_
                refine lv_goto (tgt := 135) hx hb dX8_isActs_113 (by decide) ?_
                have hP9 := h.2.1.sub [] rfl
                have hD9 := h.2.2.1.sub (ws' := []) [] (by decide) rfl
                exact W.zret (v := r_41) hx hb hr (by rw [hw_41]; split <;> rfl) (fun t ht hW => ⟨⟨r_41, (), rfl, (by rw [hw_41]; (repeat' split) <;> first | rfl | (rename_i q r; exfalso; simp only [kActOK, decide_eq_true_eq] at q r; omega) ), (by rw [ht]; exact hP9), hD9⟩, h.2.2.2.1.F ht⟩) h.2.2.2.1.2.2 dX8_isActs_135 hlocks
            · skip
              have b_37 := kb0 hw_36 c_37
              refine lv_iconst (v := 1) hx hb dX8_isActs_94 (by decide) ?_
              have hP9 := h.2.1.sub [] rfl
              have hD9 := h.2.2.1.sub (ws' := []) [] (by decide) rfl
              exact W.zret (v := 1) hx hb hr (by decide) (fun t ht hW => ⟨⟨1, (), rfl, (by split <;> first | rfl | (rename_i q; exfalso; simp only [kActOK, decide_eq_true_eq] at q; omega)), (by rw [ht]; exact hP9), hD9⟩, h.2.2.2.1.F ht⟩) h.2.2.2.1.2.2 dX8_isActs_95 hlocks
          · skip
            have b_35 := kb0 hw_34 c_35
            refine lv_goto (tgt := 85) hx hb dX8_isActs_57 (by decide) ?_
            refine lv_iconst (v := 0) hx hb dX8_isActs_85 (by decide) ?_
            have hP9 := h.2.1.sub [] rfl
            have hD9 := h.2.2.1.sub (ws' := []) [] (by decide) rfl
            exact W.zret (v := 0) hx hb hr (by decide) (fun t ht hW => ⟨⟨0, (), rfl, (by split <;> first | rfl | (rename_i q; exfalso; simp only [kActOK, decide_eq_true_eq] at q; omega)), (by rw [ht]; exact hP9), hD9⟩, h.2.2.2.1.F ht⟩) h.2.2.2.1.2.2 dX8_isActs_86 hlocks
    · skip
      have b_4 := kb1 hw_3 c_4
      refine lv_iload_n hx hb dX8_isActs_19 rfl (lv_at hl 1 rfl) ?_
      refine kc_i (wc := []) (wr := []) h (va_runS (As := [.int p1]) (rest := []) E (c_X8_isRegister l dC dI _ (p0 := p1)  ) (va_cwS 1 E.2.2.2.2 gX8_isActs_X8_isRegister rfl rfl rfl (by decide +kernel) ⟨Nat.le_of_ble_eq_true rfl, Nat.le_of_ble_eq_true rfl⟩) (kPreS h KX_true (fun _ _ _ => trivial) [] [] (by decide) rfl rfl) rfl rfl hl.1 rfl (lv_room (Nat.le_of_ble_eq_true rfl)) dX8_isActs_20 ⟨Nat.le_of_ble_eq_true rfl, Nat.le_of_ble_eq_true rfl⟩) [] [] rfl rfl (by decide) (by decide) (fun r_42 u_42 H locs hw_42 h => ?_)
      have h : KS (dC, dI) A [] [] s H locs := h
      have hw_42 : r_42 = if 0 ≤ p1.toInt ∧ p1.toInt < 8 then 1 else 0 := by first | exact hw_42 | (simp only [Int32.toInt_toInt64] at hw_42; exact hw_42)
      refine W.eq (g2 := F0 m 23 ls [.int r_42]) rfl ?_
      refine lv_if_ne (tgt := 28) hx hb dX8_isActs_23 (by decide) (fun c_43 => ?_) (fun c_43 => ?_)
      · skip
        have b_43 := kb1 hw_42 c_43
        refine lv_iload_n hx hb dX8_isActs_28 rfl (lv_at hl 0 rfl) ?_
        refine lv_bipush (v := 9) hx hb dX8_isActs_29 (by decide) ?_
        refine lv_icmp_lt (tgt := 38) hx hb dX8_isActs_31 (by decide) (fun c_44 => ?_) (fun c_44 => ?_)
        · skip
          have i_44 : p0.toInt < 9 := (fa_lt _ _).mp c_44
          refine lv_iconst (v := 0) hx hb dX8_isActs_38 (by decide) ?_
          refine lv_istore (lv' := [(4, .int 0), (0, .int p0), (1, .int p1), (2, .int p2), (3, .int p3)]) hx hb dX8_isActs_39 hl (by decide) rfl (fun ls hl => ?_)
          refine lv_iload_n hx hb dX8_isActs_41 rfl (lv_at hl 1 rfl) ?_
          refine lv_if_ne (tgt := 60) hx hb dX8_isActs_42 (by decide) (fun c_45 => ?_) (fun c_45 => ?_)
          · skip
            have i_45 : ¬ p0.toInt = 0 := fun h9 => c_45 ((fa_eq _ _).mpr h9)
            refine lv_iload hx hb dX8_isActs_60 (lv_at hl 0 rfl) ?_
            refine lv_if_eq (tgt := 78) hx hb dX8_isActs_62 (by decide) (fun _ => ?_) (fun c_46 => absurd (by decide) c_46)
            refine lv_iload_n hx hb dX8_isActs_78 rfl (lv_at hl 3 rfl) ?_
            refine kc_i (wc := []) (wr := []) h (va_runS (As := [.int p2]) (rest := []) E (c_X8_isRegister l dC dI _ (p0 := p2)  ) (va_cwS 1 E.2.2.2.2 gX8_isActs_X8_isRegister rfl rfl rfl (by decide +kernel) ⟨Nat.le_of_ble_eq_true rfl, Nat.le_of_ble_eq_true rfl⟩) (kPreS h KX_true (fun _ _ _ => trivial) [] [] (by decide) rfl rfl) rfl rfl hl.1 rfl (lv_room (Nat.le_of_ble_eq_true rfl)) dX8_isActs_79 ⟨Nat.le_of_ble_eq_true rfl, Nat.le_of_ble_eq_true rfl⟩) [] [] rfl rfl (by decide) (by decide) (fun r_47 u_47 H locs hw_47 h => ?_)
            have h : KS (dC, dI) A [] [] s H locs := h
            have hw_47 : r_47 = if 0 ≤ p2.toInt ∧ p2.toInt < 8 then 1 else 0 := by first | exact hw_47 | (simp only [Int32.toInt_toInt64] at hw_47; exact hw_47)
            refine W.eq (g2 := F0 m 82 ls [.int r_47]) rfl ?_
            refine lv_if_ne (tgt := 87) hx hb dX8_isActs_82 (by decide) (fun c_48 => ?_) (fun c_48 => ?_)
            · skip
              have b_48 := kb1 hw_47 c_48
              refine lv_iload_n hx hb dX8_isActs_87 rfl (lv_at hl 1 rfl) ?_
              refine kc_i (wc := []) (wr := []) h (va_runS (As := [.int p0]) (rest := []) E (c_X8_hasY l dC dI _ (p0 := p0)  ) (va_cwS 1 E.2.2.2.2 gX8_isActs_X8_hasY rfl rfl rfl (by decide +kernel) ⟨Nat.le_of_ble_eq_true rfl, Nat.le_of_ble_eq_true rfl⟩) (kPreS h KX_true (fun _ _ _ => trivial) [] [] (by decide) rfl rfl) rfl rfl hl.1 rfl (lv_room (Nat.le_of_ble_eq_true rfl)) dX8_isActs_88 ⟨Nat.le_of_ble_eq_true rfl, Nat.le_of_ble_eq_true rfl⟩) [] [] rfl rfl (by decide) (by decide) (fun r_49 u_49 H locs hw_49 h => ?_)
              have h : KS (dC, dI) A [] [] s H locs := h
              have hw_49 : r_49 = if 2 ≤ p0.toInt ∧ ¬ p0.toInt = 7 then 1 else 0 := by first | exact hw_49 | (simp only [Int32.toInt_toInt64] at hw_49; exact hw_49)
              refine W.eq (g2 := F0 m 91 ls [.int r_49]) rfl ?_
              refine lv_if_ne (tgt := 96) hx hb dX8_isActs_91 (by decide) (fun c_50 => ?_) (fun c_50 => ?_)
              · skip
                have b_50 := kb1 hw_49 c_50
                refine lv_iload_n hx hb dX8_isActs_96 rfl (lv_at hl 1 rfl) ?_
                refine lv_bipush (v := 6) hx hb dX8_isActs_97 (by decide) ?_
                refine lv_icmp_ne (tgt := 116) hx hb dX8_isActs_99 (by decide) (fun c_51 => ?_) (fun c_51 => ?_)
                · skip
                  have i_51 : ¬ p0.toInt = 6 := fun h9 => c_51 ((fa_eq _ _).mpr h9)
                  refine lv_iload hx hb dX8_isActs_116 (lv_at hl 0 rfl) ?_
                  refine lv_if_eq (tgt := 131) hx hb dX8_isActs_118 (by decide) (fun _ => ?_) (fun c_52 => absurd (by decide) c_52)
                  refine lv_iload_n hx hb dX8_isActs_131 rfl (lv_at hl 4 rfl) ?_
                  refine kc_i (wc := []) (wr := []) h (va_runS (As := [.int p3]) (rest := []) E (c_X8_isRegister l dC dI _ (p0 := p3)  ) (va_cwS 1 E.2.2.2.2 gX8_isActs_X8_isRegister rfl rfl rfl (by decide +kernel) ⟨Nat.le_of_ble_eq_true rfl, Nat.le_of_ble_eq_true rfl⟩) (kPreS h KX_true (fun _ _ _ => trivial) [] [] (by decide) rfl rfl) rfl rfl hl.1 rfl (lv_room (Nat.le_of_ble_eq_true rfl)) dX8_isActs_132 ⟨Nat.le_of_ble_eq_true rfl, Nat.le_of_ble_eq_true rfl⟩) [] [] rfl rfl (by decide) (by decide) (fun r_53 u_53 H locs hw_53 h => ?_)
                  have h : KS (dC, dI) A [] [] s H locs := h
                  have hw_53 : r_53 = if 0 ≤ p3.toInt ∧ p3.toInt < 8 then 1 else 0 := by first | exact hw_53 | (simp only [Int32.toInt_toInt64] at hw_53; exact hw_53)
                  refine W.eq (g2 := F0 m 135 ls [.int r_53]) rfl ?_
                  have hP9 := h.2.1.sub [] rfl
                  have hD9 := h.2.2.1.sub (ws' := []) [] (by decide) rfl
                  exact W.zret (v := r_53) hx hb hr (by rw [hw_53]; split <;> rfl) (fun t ht hW => ⟨⟨r_53, (), rfl, (by rw [hw_53]; (repeat' split) <;> first | rfl | (rename_i q r; exfalso; simp only [kActOK, decide_eq_true_eq] at q r; omega) ), (by rw [ht]; exact hP9), hD9⟩, h.2.2.2.1.F ht⟩) h.2.2.2.1.2.2 dX8_isActs_135 hlocks
                · skip
                  have i_51 : p0.toInt = 6 := (fa_eq _ _).mp c_51
                  refine lv_iload_n hx hb dX8_isActs_102 rfl (lv_at hl 4 rfl) ?_
                  refine lv_i2l (v := p3.toInt64) hx hb dX8_isActs_103 rfl ?_
                  refine lv_ldc2 (v := -31) hx hb E.2.2.2.1 (E.2.2.2.2 _ (List.mem_of_getElem? (i := 3) rfl)) dX8_isActs_104 ?_
                  refine lv_ldc2 (v := 31) hx hb E.2.2.2.1 (E.2.2.2.2 _ (List.mem_of_getElem? (i := 4) rfl)) dX8_isActs_107 ?_
                  refine kc_i (wc := []) (wr := []) h (va_runS (As := [.long p3.toInt64, .long (-31), .long 31]) (rest := []) E (c_X8_isIn l dC dI _ (p0 := p3.toInt64) (p1 := (-31)) (p2 := 31)  ) (va_cwS 3 E.2.2.2.2 gX8_isActs_X8_isIn rfl rfl rfl (by decide +kernel) ⟨Nat.le_of_ble_eq_true rfl, Nat.le_of_ble_eq_true rfl⟩) (kPreS h KX_true (fun _ _ _ => trivial) [] [] (by decide) rfl rfl) rfl rfl hl.1 rfl (lv_room (Nat.le_of_ble_eq_true rfl)) dX8_isActs_110 ⟨Nat.le_of_ble_eq_true rfl, Nat.le_of_ble_eq_true rfl⟩) [] [] rfl rfl (by decide) (by decide) (fun r_54 u_54 H locs hw_54 h => ?_)
                  have h : KS (dC, dI) A [] [] s H locs := h
                  have hw_54 : r_54 = if (-31) ≤ p3.toInt ∧ p3.toInt ≤ 31 then 1 else 0 := by first | exact hw_54 | (simp only [Int32.toInt_toInt64] at hw_54; exact hw_54)
                  refine W.eq (g2 := F0 m 113 ls [.int r_54]) rfl ?_
                  refine lv_goto (tgt := 135) hx hb dX8_isActs_113 (by decide) ?_
                  have hP9 := h.2.1.sub [] rfl
                  have hD9 := h.2.2.1.sub (ws' := []) [] (by decide) rfl
                  exact W.zret (v := r_54) hx hb hr (by rw [hw_54]; split <;> rfl) (fun t ht hW => ⟨⟨r_54, (), rfl, (by rw [hw_54]; (repeat' split) <;> first | rfl | (rename_i q r; exfalso; simp only [kActOK, decide_eq_true_eq] at q r; omega) ), (by rw [ht]; exact hP9), hD9⟩, h.2.2.2.1.F ht⟩) h.2.2.2.1.2.2 dX8_isActs_135 hlocks
              · skip
                have b_50 := kb0 hw_49 c_50
                refine lv_iconst (v := 1) hx hb dX8_isActs_94 (by decide) ?_
                have hP9 := h.2.1.sub [] rfl
                have hD9 := h.2.2.1.sub (ws' := []) [] (by decide) rfl
                exact W.zret (v := 1) hx hb hr (by decide) (fun t ht hW => ⟨⟨1, (), rfl, (by split <;> first | rfl | (rename_i q; exfalso; simp only [kActOK, decide_eq_true_eq] at q; omega)), (by rw [ht]; exact hP9), hD9⟩, h.2.2.2.1.F ht⟩) h.2.2.2.1.2.2 dX8_isActs_95 hlocks
            · skip
              have b_48 := kb0 hw_47 c_48
              refine lv_iconst (v := 0) hx hb dX8_isActs_85 (by decide) ?_
              have hP9 := h.2.1.sub [] rfl
              have hD9 := h.2.2.1.sub (ws' := []) [] (by decide) rfl
              exact W.zret (v := 0) hx hb hr (by decide) (fun t ht hW => ⟨⟨0, (), rfl, (by split <;> first | rfl | (rename_i q; exfalso; simp only [kActOK, decide_eq_true_eq] at q; omega)), (by rw [ht]; exact hP9), hD9⟩, h.2.2.2.1.F ht⟩) h.2.2.2.1.2.2 dX8_isActs_86 hlocks
          · skip
            have i_45 : p0.toInt = 0 := (fa_eq _ _).mp c_45
            refine lv_iload_n hx hb dX8_isActs_45 rfl (lv_at hl 3 rfl) ?_
            refine lv_i2l (v := p2.toInt64) hx hb dX8_isActs_46 rfl ?_
            refine lv_lconst (v := 0) hx hb dX8_isActs_47 (by decide) ?_
            refine lv_ldc2 (v := 255) hx hb E.2.2.2.1 (E.2.2.2.2 _ (List.mem_of_getElem? (i := 2) rfl)) dX8_isActs_48 ?_
            refine kc_i (wc := []) (wr := []) h (va_runS (As := [.long p2.toInt64, .long 0, .long 255]) (rest := []) E (c_X8_isIn l dC dI _ (p0 := p2.toInt64) (p1 := 0) (p2 := 255)  ) (va_cwS 3 E.2.2.2.2 gX8_isActs_X8_isIn rfl rfl rfl (by decide +kernel) ⟨Nat.le_of_ble_eq_true rfl, Nat.le_of_ble_eq_true rfl⟩) (kPreS h KX_true (fun _ _ _ => trivial) [] [] (by decide) rfl rfl) rfl rfl hl.1 rfl (lv_room (Nat.le_of_ble_eq_true rfl)) dX8_isActs_51 ⟨Nat.le_of_ble_eq_true rfl, Nat.le_of_ble_eq_true rfl⟩) [] [] rfl rfl (by decide) (by decide) (fun r_55 u_55 H locs hw_55 h => ?_)
            have h : KS (dC, dI) A [] [] s H locs := h
            have hw_55 : r_55 = if 0 ≤ p2.toInt ∧ p2.toInt ≤ 255 then 1 else 0 := by first | exact hw_55 | (simp only [Int32.toInt_toInt64] at hw_55; exact hw_55)
            refine W.eq (g2 := F0 m 54 ls [.int r_55]) rfl ?_
            refine lv_if_ne (tgt := 87) hx hb dX8_isActs_54 (by decide) (fun c_56 => ?_) (fun c_56 => ?_)
            · skip
              have b_56 := kb1 hw_55 c_56
              refine lv_iload_n hx hb dX8_isActs_87 rfl (lv_at hl 1 rfl) ?_
              refine kc_i (wc := []) (wr := []) h (va_runS (As := [.int p0]) (rest := []) E (c_X8_hasY l dC dI _ (p0 := p0)  ) (va_cwS 1 E.2.2.2.2 gX8_isActs_X8_hasY rfl rfl rfl (by decide +kernel) ⟨Nat.le_of_ble_eq_true rfl, Nat.le_of_ble_eq_true rfl⟩) (kPreS h KX_true (fun _ _ _ => trivial) [] [] (by decide) rfl rfl) rfl rfl hl.1 rfl (lv_room (Nat.le_of_ble_eq_true rfl)) dX8_isActs_88 ⟨Nat.le_of_ble_eq_true rfl, Nat.le_of_ble_eq_true rfl⟩) [] [] rfl rfl (by decide) (by decide) (fun r_57 u_57 H locs hw_57 h => ?_)
              have h : KS (dC, dI) A [] [] s H locs := h
              have hw_57 : r_57 = if 2 ≤ p0.toInt ∧ ¬ p0.toInt = 7 then 1 else 0 := by first | exact hw_57 | (simp only [Int32.toInt_toInt64] at hw_57; exact hw_57)
              refine W.eq (g2 := F0 m 91 ls [.int r_57]) rfl ?_
              refine lv_if_ne (tgt := 96) hx hb dX8_isActs_91 (by decide) (fun c_58 => ?_) (fun c_58 => ?_)
              · skip
                have b_58 := kb1 hw_57 c_58
                refine lv_iload_n hx hb dX8_isActs_96 rfl (lv_at hl 1 rfl) ?_
                refine lv_bipush (v := 6) hx hb dX8_isActs_97 (by decide) ?_
                refine lv_icmp_ne (tgt := 116) hx hb dX8_isActs_99 (by decide) (fun c_59 => ?_) (fun c_59 => ?_)
                · skip
                  have i_59 : ¬ p0.toInt = 6 := fun h9 => c_59 ((fa_eq _ _).mpr h9)
                  refine lv_iload hx hb dX8_isActs_116 (lv_at hl 0 rfl) ?_
                  refine lv_if_eq (tgt := 131) hx hb dX8_isActs_118 (by decide) (fun _ => ?_) (fun c_60 => absurd (by decide) c_60)
                  refine lv_iload_n hx hb dX8_isActs_131 rfl (lv_at hl 4 rfl) ?_
                  refine kc_i (wc := []) (wr := []) h (va_runS (As := [.int p3]) (rest := []) E (c_X8_isRegister l dC dI _ (p0 := p3)  ) (va_cwS 1 E.2.2.2.2 gX8_isActs_X8_isRegister rfl rfl rfl (by decide +kernel) ⟨Nat.le_of_ble_eq_true rfl, Nat.le_of_ble_eq_true rfl⟩) (kPreS h KX_true (fun _ _ _ => trivial) [] [] (by decide) rfl rfl) rfl rfl hl.1 rfl (lv_room (Nat.le_of_ble_eq_true rfl)) dX8_isActs_132 ⟨Nat.le_of_ble_eq_true rfl, Nat.le_of_ble_eq_true rfl⟩) [] [] rfl rfl (by decide) (by decide) (fun r_61 u_61 H locs hw_61 h => ?_)
                  have h : KS (dC, dI) A [] [] s H locs := h
                  have hw_61 : r_61 = if 0 ≤ p3.toInt ∧ p3.toInt < 8 then 1 else 0 := by first | exact hw_61 | (simp only [Int32.toInt_toInt64] at hw_61; exact hw_61)
                  refine W.eq (g2 := F0 m 135 ls [.int r_61]) rfl ?_
                  have hP9 := h.2.1.sub [] rfl
                  have hD9 := h.2.2.1.sub (ws' := []) [] (by decide) rfl
                  exact W.zret (v := r_61) hx hb hr (by rw [hw_61]; split <;> rfl) (fun t ht hW => ⟨⟨r_61, (), rfl, (by rw [hw_61]; (repeat' split) <;> first | rfl | (rename_i q r; exfalso; simp only [kActOK, decide_eq_true_eq] at q r; omega) ), (by rw [ht]; exact hP9), hD9⟩, h.2.2.2.1.F ht⟩) h.2.2.2.1.2.2 dX8_isActs_135 hlocks
                · skip
                  have i_59 : p0.toInt = 6 := (fa_eq _ _).mp c_59
                  refine lv_iload_n hx hb dX8_isActs_102 rfl (lv_at hl 4 rfl) ?_
                  refine lv_i2l (v := p3.toInt64) hx hb dX8_isActs_103 rfl ?_
                  refine lv_ldc2 (v := -31) hx hb E.2.2.2.1 (E.2.2.2.2 _ (List.mem_of_getElem? (i := 3) rfl)) dX8_isActs_104 ?_
                  refine lv_ldc2 (v := 31) hx hb E.2.2.2.1 (E.2.2.2.2 _ (List.mem_of_getElem? (i := 4) rfl)) dX8_isActs_107 ?_
                  refine kc_i (wc := []) (wr := []) h (va_runS (As := [.long p3.toInt64, .long (-31), .long 31]) (rest := []) E (c_X8_isIn l dC dI _ (p0 := p3.toInt64) (p1 := (-31)) (p2 := 31)  ) (va_cwS 3 E.2.2.2.2 gX8_isActs_X8_isIn rfl rfl rfl (by decide +kernel) ⟨Nat.le_of_ble_eq_true rfl, Nat.le_of_ble_eq_true rfl⟩) (kPreS h KX_true (fun _ _ _ => trivial) [] [] (by decide) rfl rfl) rfl rfl hl.1 rfl (lv_room (Nat.le_of_ble_eq_true rfl)) dX8_isActs_110 ⟨Nat.le_of_ble_eq_true rfl, Nat.le_of_ble_eq_true rfl⟩) [] [] rfl rfl (by decide) (by decide) (fun r_62 u_62 H locs hw_62 h => ?_)
                  have h : KS (dC, dI) A [] [] s H locs := h
                  have hw_62 : r_62 = if (-31) ≤ p3.toInt ∧ p3.toInt ≤ 31 then 1 else 0 := by first | exact hw_62 | (simp only [Int32.toInt_toInt64] at hw_62; exact hw_62)
                  refine W.eq (g2 := F0 m 113 ls [.int r_62]) rfl ?_
                  refine lv_goto (tgt := 135) hx hb dX8_isActs_113 (by decide) ?_
                  have hP9 := h.2.1.sub [] rfl
                  have hD9 := h.2.2.1.sub (ws' := []) [] (by decide) rfl
                  exact W.zret (v := r_62) hx hb hr (by rw [hw_62]; split <;> rfl) (fun t ht hW => ⟨⟨r_62, (), rfl, (by rw [hw_62]; (repeat' split) <;> first | rfl | (rename_i q r; exfalso; simp only [kActOK, decide_eq_true_eq] at q r; omega) ), (by rw [ht]; exact hP9), hD9⟩, h.2.2.2.1.F ht⟩) h.2.2.2.1.2.2 dX8_isActs_135 hlocks
              · skip
                have b_58 := kb0 hw_57 c_58
                refine lv_iconst (v := 1) hx hb dX8_isActs_94 (by decide) ?_
                have hP9 := h.2.1.sub [] rfl
                have hD9 := h.2.2.1.sub (ws' := []) [] (by decide) rfl
                exact W.zret (v := 1) hx hb hr (by decide) (fun t ht hW => ⟨⟨1, (), rfl, (by split <;> first | rfl | (rename_i q; exfalso; simp only [kActOK, decide_eq_true_eq] at q; omega)), (by rw [ht]; exact hP9), hD9⟩, h.2.2.2.1.F ht⟩) h.2.2.2.1.2.2 dX8_isActs_95 hlocks
            · skip
              have b_56 := kb0 hw_55 c_56
              refine lv_goto (tgt := 85) hx hb dX8_isActs_57 (by decide) ?_
              refine lv_iconst (v := 0) hx hb dX8_isActs_85 (by decide) ?_
              have hP9 := h.2.1.sub [] rfl
              have hD9 := h.2.2.1.sub (ws' := []) [] (by decide) rfl
              exact W.zret (v := 0) hx hb hr (by decide) (fun t ht hW => ⟨⟨0, (), rfl, (by split <;> first | rfl | (rename_i q; exfalso; simp only [kActOK, decide_eq_true_eq] at q; omega)), (by rw [ht]; exact hP9), hD9⟩, h.2.2.2.1.F ht⟩) h.2.2.2.1.2.2 dX8_isActs_86 hlocks
        · skip
          have i_44 : ¬ p0.toInt < 9 := fun h9 => c_44 ((fa_lt _ _).mpr h9)
          refine lv_iconst (v := 1) hx hb dX8_isActs_34 (by decide) ?_
          refine lv_goto (tgt := 39) hx hb dX8_isActs_35 (by decide) ?_
          refine lv_istore (lv' := [(4, .int 1), (0, .int p0), (1, .int p1), (2, .int p2), (3, .int p3)]) hx hb dX8_isActs_39 hl (by decide) rfl (fun ls hl => ?_)
          refine lv_iload_n hx hb dX8_isActs_41 rfl (lv_at hl 1 rfl) ?_
          refine lv_if_ne (tgt := 60) hx hb dX8_isActs_42 (by decide) (fun c_63 => ?_) (fun c_63 => ?_)
          · skip
            have i_63 : ¬ p0.toInt = 0 := fun h9 => c_63 ((fa_eq _ _).mpr h9)
            refine lv_iload hx hb dX8_isActs_60 (lv_at hl 0 rfl) ?_
            refine lv_if_eq (tgt := 78) hx hb dX8_isActs_62 (by decide) (fun c_64 => absurd c_64 (by decide)) (fun _ => ?_)
            refine lv_iload_n hx hb dX8_isActs_65 rfl (lv_at hl 3 rfl) ?_
            refine lv_i2l (v := p2.toInt64) hx hb dX8_isActs_66 rfl ?_
            refine lv_lconst (v := 0) hx hb dX8_isActs_67 (by decide) ?_
            refine lv_lconst (v := 1) hx hb dX8_isActs_68 (by decide) ?_
            refine kc_i (wc := []) (wr := []) h (va_runS (As := [.long p2.toInt64, .long 0, .long 1]) (rest := []) E (c_X8_isIn l dC dI _ (p0 := p2.toInt64) (p1 := 0) (p2 := 1)  ) (va_cwS 3 E.2.2.2.2 gX8_isActs_X8_isIn rfl rfl rfl (by decide +kernel) ⟨Nat.le_of_ble_eq_true rfl, Nat.le_of_ble_eq_true rfl⟩) (kPreS h KX_true (fun _ _ _ => trivial) [] [] (by decide) rfl rfl) rfl rfl hl.1 rfl (lv_room (Nat.le_of_ble_eq_true rfl)) dX8_isActs_69 ⟨Nat.le_of_ble_eq_true rfl, Nat.le_of_ble_eq_true rfl⟩) [] [] rfl rfl (by decide) (by decide) (fun r_65 u_65 H locs hw_65 h => ?_)
            have h : KS (dC, dI) A [] [] s H locs := h
            have hw_65 : r_65 = if 0 ≤ p2.toInt ∧ p2.toInt ≤ 1 then 1 else 0 := by first | exact hw_65 | (simp only [Int32.toInt_toInt64] at hw_65; exact hw_65)
            refine W.eq (g2 := F0 m 72 ls [.int r_65]) rfl ?_
            refine lv_if_ne (tgt := 87) hx hb dX8_isActs_72 (by decide) (fun c_66 => ?_) (fun c_66 => ?_)
            · skip
              have b_66 := kb1 hw_65 c_66
              refine lv_iload_n hx hb dX8_isActs_87 rfl (lv_at hl 1 rfl) ?_
              refine kc_i (wc := []) (wr := []) h (va_runS (As := [.int p0]) (rest := []) E (c_X8_hasY l dC dI _ (p0 := p0)  ) (va_cwS 1 E.2.2.2.2 gX8_isActs_X8_hasY rfl rfl rfl (by decide +kernel) ⟨Nat.le_of_ble_eq_true rfl, Nat.le_of_ble_eq_true rfl⟩) (kPreS h KX_true (fun _ _ _ => trivial) [] [] (by decide) rfl rfl) rfl rfl hl.1 rfl (lv_room (Nat.le_of_ble_eq_true rfl)) dX8_isActs_88 ⟨Nat.le_of_ble_eq_true rfl, Nat.le_of_ble_eq_true rfl⟩) [] [] rfl rfl (by decide) (by decide) (fun r_67 u_67 H locs hw_67 h => ?_)
              have h : KS (dC, dI) A [] [] s H locs := h
              have hw_67 : r_67 = if 2 ≤ p0.toInt ∧ ¬ p0.toInt = 7 then 1 else 0 := by first | exact hw_67 | (simp only [Int32.toInt_toInt64] at hw_67; exact hw_67)
              refine W.eq (g2 := F0 m 91 ls [.int r_67]) rfl ?_
              refine lv_if_ne (tgt := 96) hx hb dX8_isActs_91 (by decide) (fun c_68 => ?_) (fun c_68 => ?_)
              · skip
                have b_68 := kb1 hw_67 c_68
                refine lv_iload_n hx hb dX8_isActs_96 rfl (lv_at hl 1 rfl) ?_
                refine lv_bipush (v := 6) hx hb dX8_isActs_97 (by decide) ?_
                refine lv_icmp_ne (tgt := 116) hx hb dX8_isActs_99 (by decide) (fun c_69 => ?_) (fun c_69 => ?_)
                · skip
                  have i_69 : ¬ p0.toInt = 6 := fun h9 => c_69 ((fa_eq _ _).mpr h9)
                  refine lv_iload hx hb dX8_isActs_116 (lv_at hl 0 rfl) ?_
                  refine lv_if_eq (tgt := 131) hx hb dX8_isActs_118 (by decide) (fun c_70 => absurd c_70 (by decide)) (fun _ => ?_)
                  refine lv_iload_n hx hb dX8_isActs_121 rfl (lv_at hl 4 rfl) ?_
                  refine lv_i2l (v := p3.toInt64) hx hb dX8_isActs_122 rfl ?_
                  refine lv_lconst (v := 0) hx hb dX8_isActs_123 (by decide) ?_
                  refine lv_lconst (v := 1) hx hb dX8_isActs_124 (by decide) ?_
                  refine kc_i (wc := []) (wr := []) h (va_runS (As := [.long p3.toInt64, .long 0, .long 1]) (rest := []) E (c_X8_isIn l dC dI _ (p0 := p3.toInt64) (p1 := 0) (p2 := 1)  ) (va_cwS 3 E.2.2.2.2 gX8_isActs_X8_isIn rfl rfl rfl (by decide +kernel) ⟨Nat.le_of_ble_eq_true rfl, Nat.le_of_ble_eq_true rfl⟩) (kPreS h KX_true (fun _ _ _ => trivial) [] [] (by decide) rfl rfl) rfl rfl hl.1 rfl (lv_room (Nat.le_of_ble_eq_true rfl)) dX8_isActs_125 ⟨Nat.le_of_ble_eq_true rfl, Nat.le_of_ble_eq_true rfl⟩) [] [] rfl rfl (by decide) (by decide) (fun r_71 u_71 H locs hw_71 h => ?_)
                  have h : KS (dC, dI) A [] [] s H locs := h
                  have hw_71 : r_71 = if 0 ≤ p3.toInt ∧ p3.toInt ≤ 1 then 1 else 0 := by first | exact hw_71 | (simp only [Int32.toInt_toInt64] at hw_71; exact hw_71)
                  refine W.eq (g2 := F0 m 128 ls [.int r_71]) rfl ?_
                  refine lv_goto (tgt := 135) hx hb dX8_isActs_128 (by decide) ?_
                  have hP9 := h.2.1.sub [] rfl
                  have hD9 := h.2.2.1.sub (ws' := []) [] (by decide) rfl
                  exact W.zret (v := r_71) hx hb hr (by rw [hw_71]; split <;> rfl) (fun t ht hW => ⟨⟨r_71, (), rfl, (by rw [hw_71]; (repeat' split) <;> first | rfl | (rename_i q r; exfalso; simp only [kActOK, decide_eq_true_eq] at q r; omega) ), (by rw [ht]; exact hP9), hD9⟩, h.2.2.2.1.F ht⟩) h.2.2.2.1.2.2 dX8_isActs_135 hlocks
                · skip
                  have i_69 : p0.toInt = 6 := (fa_eq _ _).mp c_69
                  refine lv_iload_n hx hb dX8_isActs_102 rfl (lv_at hl 4 rfl) ?_
                  refine lv_i2l (v := p3.toInt64) hx hb dX8_isActs_103 rfl ?_
                  refine lv_ldc2 (v := -31) hx hb E.2.2.2.1 (E.2.2.2.2 _ (List.mem_of_getElem? (i := 3) rfl)) dX8_isActs_104 ?_
                  refine lv_ldc2 (v := 31) hx hb E.2.2.2.1 (E.2.2.2.2 _ (List.mem_of_getElem? (i := 4) rfl)) dX8_isActs_107 ?_
                  refine kc_i (wc := []) (wr := []) h (va_runS (As := [.long p3.toInt64, .long (-31), .long 31]) (rest := []) E (c_X8_isIn l dC dI _ (p0 := p3.toInt64) (p1 := (-31)) (p2 := 31)  ) (va_cwS 3 E.2.2.2.2 gX8_isActs_X8_isIn rfl rfl rfl (by decide +kernel) ⟨Nat.le_of_ble_eq_true rfl, Nat.le_of_ble_eq_true rfl⟩) (kPreS h KX_true (fun _ _ _ => trivial) [] [] (by decide) rfl rfl) rfl rfl hl.1 rfl (lv_room (Nat.le_of_ble_eq_true rfl)) dX8_isActs_110 ⟨Nat.le_of_ble_eq_true rfl, Nat.le_of_ble_eq_true rfl⟩) [] [] rfl rfl (by decide) (by decide) (fun r_72 u_72 H locs hw_72 h => ?_)
                  have h : KS (dC, dI) A [] [] s H locs := h
                  have hw_72 : r_72 = if (-31) ≤ p3.toInt ∧ p3.toInt ≤ 31 then 1 else 0 := by first | exact hw_72 | (simp only [Int32.toInt_toInt64] at hw_72; exact hw_72)
                  refine W.eq (g2 := F0 m 113 ls [.int r_72]) rfl ?_
                  refine lv_goto (tgt := 135) hx hb dX8_isActs_113 (by decide) ?_
                  have hP9 := h.2.1.sub [] rfl
                  have hD9 := h.2.2.1.sub (ws' := []) [] (by decide) rfl
                  exact W.zret (v := r_72) hx hb hr (by rw [hw_72]; split <;> rfl) (fun t ht hW => ⟨⟨r_72, (), rfl, (by rw [hw_72]; (repeat' split) <;> first | rfl | (rename_i q r; exfalso; simp only [kActOK, decide_eq_true_eq] at q r; omega) ), (by rw [ht]; exact hP9), hD9⟩, h.2.2.2.1.F ht⟩) h.2.2.2.1.2.2 dX8_isActs_135 hlocks
              · skip
                have b_68 := kb0 hw_67 c_68
                refine lv_iconst (v := 1) hx hb dX8_isActs_94 (by decide) ?_
                have hP9 := h.2.1.sub [] rfl
                have hD9 := h.2.2.1.sub (ws' := []) [] (by decide) rfl
                exact W.zret (v := 1) hx hb hr (by decide) (fun t ht hW => ⟨⟨1, (), rfl, (by split <;> first | rfl | (rename_i q; exfalso; simp only [kActOK, decide_eq_true_eq] at q; omega)), (by rw [ht]; exact hP9), hD9⟩, h.2.2.2.1.F ht⟩) h.2.2.2.1.2.2 dX8_isActs_95 hlocks
            · skip
              have b_66 := kb0 hw_65 c_66
              refine lv_goto (tgt := 85) hx hb dX8_isActs_75 (by decide) ?_
              refine lv_iconst (v := 0) hx hb dX8_isActs_85 (by decide) ?_
              have hP9 := h.2.1.sub [] rfl
              have hD9 := h.2.2.1.sub (ws' := []) [] (by decide) rfl
              exact W.zret (v := 0) hx hb hr (by decide) (fun t ht hW => ⟨⟨0, (), rfl, (by split <;> first | rfl | (rename_i q; exfalso; simp only [kActOK, decide_eq_true_eq] at q; omega)), (by rw [ht]; exact hP9), hD9⟩, h.2.2.2.1.F ht⟩) h.2.2.2.1.2.2 dX8_isActs_86 hlocks
          · skip
            have i_63 : p0.toInt = 0 := (fa_eq _ _).mp c_63
            refine lv_iload_n hx hb dX8_isActs_45 rfl (lv_at hl 3 rfl) ?_
            refine lv_i2l (v := p2.toInt64) hx hb dX8_isActs_46 rfl ?_
            refine lv_lconst (v := 0) hx hb dX8_isActs_47 (by decide) ?_
            refine lv_ldc2 (v := 255) hx hb E.2.2.2.1 (E.2.2.2.2 _ (List.mem_of_getElem? (i := 2) rfl)) dX8_isActs_48 ?_
            refine kc_i (wc := []) (wr := []) h (va_runS (As := [.long p2.toInt64, .long 0, .long 255]) (rest := []) E (c_X8_isIn l dC dI _ (p0 := p2.toInt64) (p1 := 0) (p2 := 255)  ) (va_cwS 3 E.2.2.2.2 gX8_isActs_X8_isIn rfl rfl rfl (by decide +kernel) ⟨Nat.le_of_ble_eq_true rfl, Nat.le_of_ble_eq_true rfl⟩) (kPreS h KX_true (fun _ _ _ => trivial) [] [] (by decide) rfl rfl) rfl rfl hl.1 rfl (lv_room (Nat.le_of_ble_eq_true rfl)) dX8_isActs_51 ⟨Nat.le_of_ble_eq_true rfl, Nat.le_of_ble_eq_true rfl⟩) [] [] rfl rfl (by decide) (by decide) (fun r_73 u_73 H locs hw_73 h => ?_)
            have h : KS (dC, dI) A [] [] s H locs := h
            have hw_73 : r_73 = if 0 ≤ p2.toInt ∧ p2.toInt ≤ 255 then 1 else 0 := by first | exact hw_73 | (simp only [Int32.toInt_toInt64] at hw_73; exact hw_73)
            refine W.eq (g2 := F0 m 54 ls [.int r_73]) rfl ?_
            refine lv_if_ne (tgt := 87) hx hb dX8_isActs_54 (by decide) (fun c_74 => ?_) (fun c_74 => ?_)
            · skip
              have b_74 := kb1 hw_73 c_74
              refine lv_iload_n hx hb dX8_isActs_87 rfl (lv_at hl 1 rfl) ?_
              refine kc_i (wc := []) (wr := []) h (va_runS (As := [.int p0]) (rest := []) E (c_X8_hasY l dC dI _ (p0 := p0)  ) (va_cwS 1 E.2.2.2.2 gX8_isActs_X8_hasY rfl rfl rfl (by decide +kernel) ⟨Nat.le_of_ble_eq_true rfl, Nat.le_of_ble_eq_true rfl⟩) (kPreS h KX_true (fun _ _ _ => trivial) [] [] (by decide) rfl rfl) rfl rfl hl.1 rfl (lv_room (Nat.le_of_ble_eq_true rfl)) dX8_isActs_88 ⟨Nat.le_of_ble_eq_true rfl, Nat.le_of_ble_eq_true rfl⟩) [] [] rfl rfl (by decide) (by decide) (fun r_75 u_75 H locs hw_75 h => ?_)
              have h : KS (dC, dI) A [] [] s H locs := h
              have hw_75 : r_75 = if 2 ≤ p0.toInt ∧ ¬ p0.toInt = 7 then 1 else 0 := by first | exact hw_75 | (simp only [Int32.toInt_toInt64] at hw_75; exact hw_75)
              refine W.eq (g2 := F0 m 91 ls [.int r_75]) rfl ?_
              refine lv_if_ne (tgt := 96) hx hb dX8_isActs_91 (by decide) (fun c_76 => ?_) (fun c_76 => ?_)
              · skip
                have b_76 := kb1 hw_75 c_76
                refine lv_iload_n hx hb dX8_isActs_96 rfl (lv_at hl 1 rfl) ?_
                refine lv_bipush (v := 6) hx hb dX8_isActs_97 (by decide) ?_
                refine lv_icmp_ne (tgt := 116) hx hb dX8_isActs_99 (by decide) (fun c_77 => ?_) (fun c_77 => ?_)
                · skip
                  have i_77 : ¬ p0.toInt = 6 := fun h9 => c_77 ((fa_eq _ _).mpr h9)
                  refine lv_iload hx hb dX8_isActs_116 (lv_at hl 0 rfl) ?_
                  refine lv_if_eq (tgt := 131) hx hb dX8_isActs_118 (by decide) (fun c_78 => absurd c_78 (by decide)) (fun _ => ?_)
                  refine lv_iload_n hx hb dX8_isActs_121 rfl (lv_at hl 4 rfl) ?_
                  refine lv_i2l (v := p3.toInt64) hx hb dX8_isActs_122 rfl ?_
                  refine lv_lconst (v := 0) hx hb dX8_isActs_123 (by decide) ?_
                  refine lv_lconst (v := 1) hx hb dX8_isActs_124 (by decide) ?_
                  refine kc_i (wc := []) (wr := []) h (va_runS (As := [.long p3.toInt64, .long 0, .long 1]) (rest := []) E (c_X8_isIn l dC dI _ (p0 := p3.toInt64) (p1 := 0) (p2 := 1)  ) (va_cwS 3 E.2.2.2.2 gX8_isActs_X8_isIn rfl rfl rfl (by decide +kernel) ⟨Nat.le_of_ble_eq_true rfl, Nat.le_of_ble_eq_true rfl⟩) (kPreS h KX_true (fun _ _ _ => trivial) [] [] (by decide) rfl rfl) rfl rfl hl.1 rfl (lv_room (Nat.le_of_ble_eq_true rfl)) dX8_isActs_125 ⟨Nat.le_of_ble_eq_true rfl, Nat.le_of_ble_eq_true rfl⟩) [] [] rfl rfl (by decide) (by decide) (fun r_79 u_79 H locs hw_79 h => ?_)
                  have h : KS (dC, dI) A [] [] s H locs := h
                  have hw_79 : r_79 = if 0 ≤ p3.toInt ∧ p3.toInt ≤ 1 then 1 else 0 := by first | exact hw_79 | (simp only [Int32.toInt_toInt64] at hw_79; exact hw_79)
                  refine W.eq (g2 := F0 m 128 ls [.int r_79]) rfl ?_
                  refine lv_goto (tgt := 135) hx hb dX8_isActs_128 (by decide) ?_
                  have hP9 := h.2.1.sub [] rfl
                  have hD9 := h.2.2.1.sub (ws' := []) [] (by decide) rfl
                  exact W.zret (v := r_79) hx hb hr (by rw [hw_79]; split <;> rfl) (fun t ht hW => ⟨⟨r_79, (), rfl, (by rw [hw_79]; (repeat' split) <;> first | rfl | (rename_i q r; exfalso; simp only [kActOK, decide_eq_true_eq] at q r; omega) ), (by rw [ht]; exact hP9), hD9⟩, h.2.2.2.1.F ht⟩) h.2.2.2.1.2.2 dX8_isActs_135 hlocks
                · skip
                  have i_77 : p0.toInt = 6 := (fa_eq _ _).mp c_77
                  refine lv_iload_n hx hb dX8_isActs_102 rfl (lv_at hl 4 rfl) ?_
                  refine lv_i2l (v := p3.toInt64) hx hb dX8_isActs_103 rfl ?_
                  refine lv_ldc2 (v := -31) hx hb E.2.2.2.1 (E.2.2.2.2 _ (List.mem_of_getElem? (i := 3) rfl)) dX8_isActs_104 ?_
                  refine lv_ldc2 (v := 31) hx hb E.2.2.2.1 (E.2.2.2.2 _ (List.mem_of_getElem? (i := 4) rfl)) dX8_isActs_107 ?_
                  refine kc_i (wc := []) (wr := []) h (va_runS (As := [.long p3.toInt64, .long (-31), .long 31]) (rest := []) E (c_X8_isIn l dC dI _ (p0 := p3.toInt64) (p1 := (-31)) (p2 := 31)  ) (va_cwS 3 E.2.2.2.2 gX8_isActs_X8_isIn rfl rfl rfl (by decide +kernel) ⟨Nat.le_of_ble_eq_true rfl, Nat.le_of_ble_eq_true rfl⟩) (kPreS h KX_true (fun _ _ _ => trivial) [] [] (by decide) rfl rfl) rfl rfl hl.1 rfl (lv_room (Nat.le_of_ble_eq_true rfl)) dX8_isActs_110 ⟨Nat.le_of_ble_eq_true rfl, Nat.le_of_ble_eq_true rfl⟩) [] [] rfl rfl (by decide) (by decide) (fun r_80 u_80 H locs hw_80 h => ?_)
                  have h : KS (dC, dI) A [] [] s H locs := h
                  have hw_80 : r_80 = if (-31) ≤ p3.toInt ∧ p3.toInt ≤ 31 then 1 else 0 := by first | exact hw_80 | (simp only [Int32.toInt_toInt64] at hw_80; exact hw_80)
                  refine W.eq (g2 := F0 m 113 ls [.int r_80]) rfl ?_
                  refine lv_goto (tgt := 135) hx hb dX8_isActs_113 (by decide) ?_
                  have hP9 := h.2.1.sub [] rfl
                  have hD9 := h.2.2.1.sub (ws' := []) [] (by decide) rfl
                  exact W.zret (v := r_80) hx hb hr (by rw [hw_80]; split <;> rfl) (fun t ht hW => ⟨⟨r_80, (), rfl, (by rw [hw_80]; (repeat' split) <;> first | rfl | (rename_i q r; exfalso; simp only [kActOK, decide_eq_true_eq] at q r; omega) ), (by rw [ht]; exact hP9), hD9⟩, h.2.2.2.1.F ht⟩) h.2.2.2.1.2.2 dX8_isActs_135 hlocks
              · skip
                have b_76 := kb0 hw_75 c_76
                refine lv_iconst (v := 1) hx hb dX8_isActs_94 (by decide) ?_
                have hP9 := h.2.1.sub [] rfl
                have hD9 := h.2.2.1.sub (ws' := []) [] (by decide) rfl
                exact W.zret (v := 1) hx hb hr (by decide) (fun t ht hW => ⟨⟨1, (), rfl, (by split <;> first | rfl | (rename_i q; exfalso; simp only [kActOK, decide_eq_true_eq] at q; omega)), (by rw [ht]; exact hP9), hD9⟩, h.2.2.2.1.F ht⟩) h.2.2.2.1.2.2 dX8_isActs_95 hlocks
            · skip
              have b_74 := kb0 hw_73 c_74
              refine lv_goto (tgt := 85) hx hb dX8_isActs_57 (by decide) ?_
              refine lv_iconst (v := 0) hx hb dX8_isActs_85 (by decide) ?_
              have hP9 := h.2.1.sub [] rfl
              have hD9 := h.2.2.1.sub (ws' := []) [] (by decide) rfl
              exact W.zret (v := 0) hx hb hr (by decide) (fun t ht hW => ⟨⟨0, (), rfl, (by split <;> first | rfl | (rename_i q; exfalso; simp only [kActOK, decide_eq_true_eq] at q; omega)), (by rw [ht]; exact hP9), hD9⟩, h.2.2.2.1.F ht⟩) h.2.2.2.1.2.2 dX8_isActs_86 hlocks
      · skip
        have b_43 := kb0 hw_42 c_43
        refine lv_iconst (v := 0) hx hb dX8_isActs_26 (by decide) ?_
        have hP9 := h.2.1.sub [] rfl
        have hD9 := h.2.2.1.sub (ws' := []) [] (by decide) rfl
        exact W.zret (v := 0) hx hb hr (by decide) (fun t ht hW => ⟨⟨0, (), rfl, (by split <;> first | rfl | (rename_i q; exfalso; simp only [kActOK, decide_eq_true_eq] at q; omega)), (by rw [ht]; exact hP9), hD9⟩, h.2.2.2.1.F ht⟩) h.2.2.2.1.2.2 dX8_isActs_27 hlocks
set_option maxHeartbeats 4000000 in
set_option maxRecDepth 100000 in
theorem c_X8_act (l : Launch) (dC : Nat → ClassId) (dI : Nat → Nat → Nat) (sz : Nat) (o8 : Nat) (a8_0 : Nat) (a8_1 : Nat) (a8_2 : Nat) (a8_3 : Nat) (a8_4 : Nat) (a8_5 : Nat) (a8_7 : Nat) (a8_8 : Nat) (a8_9 : Nat) (a8_10 : Nat) (a8_11 : Nat) (a8_13 : Nat) (a8_14 : Nat) (a8_15 : Nat) (a8_16 : Nat) (a8_17 : Nat) (a8_18 : Nat) (a8_19 : Nat) (a8_20 : Nat) (a8_21 : Nat) (a8_22 : Nat) (a8_23 : Nat) (a8_24 : Nat) (a8_27 : Nat) (a8_28 : Nat) (a8_29 : Nat) (a8_30 : Nat) (a8_31 : Nat) (a8_36 : Nat) (a8_37 : Nat) (a8_41 : Nat) (a8_42 : Nat) (c8_13 : ClassId) (c8_11 : ClassId) (c8_7 : ClassId) (c8_8 : ClassId) (c8_9 : ClassId) (c8_10 : ClassId) (c8_19 : ClassId) (p0 : Int32) (p1 : Int32) (p2 : Int32) (p3 : Int32) (p4 : Int32)  : Met l yX8_act wsX8_act ({ frames := 2, cells := 0, slots := 0, locals := 49 } : Room) (va_Pc [.ref o8, .int p0, .int p1, .int p2, .int p3, .int p4] (KPre (dC, dI) [(o8, .inr (8, [.ref a8_0, .ref a8_1, .ref a8_2, .ref a8_3, .ref a8_4, .ref a8_5, .int 0, .ref a8_7, .ref a8_8, .ref a8_9, .ref a8_10, .ref a8_11, .int 1, .ref a8_13, .ref a8_14, .ref a8_15, .ref a8_16, .ref a8_17, .ref a8_18, .ref a8_19, .ref a8_20, .ref a8_21, .ref a8_22, .ref a8_23, .ref a8_24, .int 0, .int 0, .ref a8_27, .ref a8_28, .ref a8_29, .ref a8_30, .ref a8_31, .int 0, .int 0, .int 0, .int (-1), .ref a8_36, .ref a8_37, .int 0, .int 0, .int 0, .ref a8_41, .ref a8_42, .int (-1)])), (a8_13, .inl (c8_13, 8, .inl (fun _ => 0))), (a8_11, .inl (c8_11, 12, .inl (fun _ => 0))), (a8_7, .inl (c8_7, 120, .inl (fun _ => 0))), (a8_8, .inl (c8_8, 120, .inl (fun _ => 0))), (a8_9, .inl (c8_9, 120, .inl (fun _ => 0))), (a8_10, .inl (c8_10, 120, .inl (fun _ => 0))), (a8_19, .inl (c8_19, 12, .inl (fun _ => 0)))] [(c8_13, .int), (c8_11, .int), (c8_7, .int), (c8_8, .int), (c8_9, .int), (c8_10, .int), (c8_19, .boolean)] sz (fun _ => True))) (va_Qi (fun (r : Int32) (u : Unit) => r = an_act p0 p1 p2 p3 p4) (KPost (dC, dI) (va_A [(o8, .inr (8, [.ref a8_0, .ref a8_1, .ref a8_2, .ref a8_3, .ref a8_4, .ref a8_5, .int 0, .ref a8_7, .ref a8_8, .ref a8_9, .ref a8_10, .ref a8_11, .int 1, .ref a8_13, .ref a8_14, .ref a8_15, .ref a8_16, .ref a8_17, .ref a8_18, .ref a8_19, .ref a8_20, .ref a8_21, .ref a8_22, .ref a8_23, .ref a8_24, .int 0, .int 0, .ref a8_27, .ref a8_28, .ref a8_29, .ref a8_30, .ref a8_31, .int 0, .int 0, .int 0, .int (-1), .ref a8_36, .ref a8_37, .int 0, .int 0, .int 0, .ref a8_41, .ref a8_42, .int (-1)])), (a8_13, .inl (c8_13, 8, .inl (fun _ => 0))), (a8_11, .inl (c8_11, 12, .inl (fun _ => 0))), (a8_7, .inl (c8_7, 120, .inl (fun _ => 0))), (a8_8, .inl (c8_8, 120, .inl (fun _ => 0))), (a8_9, .inl (c8_9, 120, .inl (fun _ => 0))), (a8_10, .inl (c8_10, 120, .inl (fun _ => 0))), (a8_19, .inl (c8_19, 12, .inl (fun _ => 0)))] sz) (fun (u : Unit) => [])) (va_A [(o8, .inr (8, [.ref a8_0, .ref a8_1, .ref a8_2, .ref a8_3, .ref a8_4, .ref a8_5, .int 0, .ref a8_7, .ref a8_8, .ref a8_9, .ref a8_10, .ref a8_11, .int 1, .ref a8_13, .ref a8_14, .ref a8_15, .ref a8_16, .ref a8_17, .ref a8_18, .ref a8_19, .ref a8_20, .ref a8_21, .ref a8_22, .ref a8_23, .ref a8_24, .int 0, .int 0, .ref a8_27, .ref a8_28, .ref a8_29, .ref a8_30, .ref a8_31, .int 0, .int 0, .int 0, .int (-1), .ref a8_36, .ref a8_37, .int 0, .int 0, .int 0, .ref a8_41, .ref a8_42, .int (-1)])), (a8_13, .inl (c8_13, 8, .inl (fun _ => 0))), (a8_11, .inl (c8_11, 12, .inl (fun _ => 0))), (a8_7, .inl (c8_7, 120, .inl (fun _ => 0))), (a8_8, .inl (c8_8, 120, .inl (fun _ => 0))), (a8_9, .inl (c8_9, 120, .inl (fun _ => 0))), (a8_10, .inl (c8_10, 120, .inl (fun _ => 0))), (a8_19, .inl (c8_19, 12, .inl (fun _ => 0)))] sz)) 0 0 (va_A [(o8, .inr (8, [.ref a8_0, .ref a8_1, .ref a8_2, .ref a8_3, .ref a8_4, .ref a8_5, .int 0, .ref a8_7, .ref a8_8, .ref a8_9, .ref a8_10, .ref a8_11, .int 1, .ref a8_13, .ref a8_14, .ref a8_15, .ref a8_16, .ref a8_17, .ref a8_18, .ref a8_19, .ref a8_20, .ref a8_21, .ref a8_22, .ref a8_23, .ref a8_24, .int 0, .int 0, .ref a8_27, .ref a8_28, .ref a8_29, .ref a8_30, .ref a8_31, .int 0, .int 0, .int 0, .int (-1), .ref a8_36, .ref a8_37, .int 0, .int 0, .int 0, .ref a8_41, .ref a8_42, .int (-1)])), (a8_13, .inl (c8_13, 8, .inl (fun _ => 0))), (a8_11, .inl (c8_11, 12, .inl (fun _ => 0))), (a8_7, .inl (c8_7, 120, .inl (fun _ => 0))), (a8_8, .inl (c8_8, 120, .inl (fun _ => 0))), (a8_9, .inl (c8_9, 120, .inl (fun _ => 0))), (a8_10, .inl (c8_10, 120, .inl (fun _ => 0))), (a8_19, .inl (c8_19, 12, .inl (fun _ => 0)))] sz) := by
  refine kMet (y := yX8_act) (wsM := wsX8_act) (cc := cX8_act) (maxL := 7) (ret := (some .int)) (rm := ({ frames := 2, cells := 0, slots := 0, locals := 49 } : Room)) (mc := 0) (ms := 0) (av := [.ref o8, .int p0, .int p1, .int p2, .int p3, .int p4]) (D := (dC, dI)) (wc := [(o8, .inr (8, [.ref a8_0, .ref a8_1, .ref a8_2, .ref a8_3, .ref a8_4, .ref a8_5, .int 0, .ref a8_7, .ref a8_8, .ref a8_9, .ref a8_10, .ref a8_11, .int 1, .ref a8_13, .ref a8_14, .ref a8_15, .ref a8_16, .ref a8_17, .ref a8_18, .ref a8_19, .ref a8_20, .ref a8_21, .ref a8_22, .ref a8_23, .ref a8_24, .int 0, .int 0, .ref a8_27, .ref a8_28, .ref a8_29, .ref a8_30, .ref a8_31, .int 0, .int 0, .int 0, .int (-1), .ref a8_36, .ref a8_37, .int 0, .int 0, .int 0, .ref a8_41, .ref a8_42, .int (-1)])), (a8_13, .inl (c8_13, 8, .inl (fun _ => 0))), (a8_11, .inl (c8_11, 12, .inl (fun _ => 0))), (a8_7, .inl (c8_7, 120, .inl (fun _ => 0))), (a8_8, .inl (c8_8, 120, .inl (fun _ => 0))), (a8_9, .inl (c8_9, 120, .inl (fun _ => 0))), (a8_10, .inl (c8_10, 120, .inl (fun _ => 0))), (a8_19, .inl (c8_19, 12, .inl (fun _ => 0)))]) (tc := [(c8_13, .int), (c8_11, .int), (c8_7, .int), (c8_8, .int), (c8_9, .int), (c8_10, .int), (c8_19, .boolean)]) (sz := sz) (X := fun _ => True) (Qc := fun A => va_Qi (fun (r : Int32) (u : Unit) => r = an_act p0 p1 p2 p3 p4) (KPost (dC, dI) A (fun (u : Unit) => [])) A) (by decide) rfl (Nat.le_of_ble_eq_true rfl) ?_
  intro p e s m below meth c A ls E hr hlocks hnm hsz hAe hX h hl
  have hx := E.1
  have hb := E.2.1
  have hl : lv_has ls 7 [(0, .ref o8), (1, .int p0), (2, .int p1), (3, .int p2), (4, .int p3), (5, .int p4)] := hl
  refine lv_iload_n hx hb dX8_act_0 rfl (lv_at hl 1 rfl) ?_
  refine kc_i (wc := []) (wr := [(o8, .inr (8, [.ref a8_0, .ref a8_1, .ref a8_2, .ref a8_3, .ref a8_4, .ref a8_5, .int 0, .ref a8_7, .ref a8_8, .ref a8_9, .ref a8_10, .ref a8_11, .int 1, .ref a8_13, .ref a8_14, .ref a8_15, .ref a8_16, .ref a8_17, .ref a8_18, .ref a8_19, .ref a8_20, .ref a8_21, .ref a8_22, .ref a8_23, .ref a8_24, .int 0, .int 0, .ref a8_27, .ref a8_28, .ref a8_29, .ref a8_30, .ref a8_31, .int 0, .int 0, .int 0, .int (-1), .ref a8_36, .ref a8_37, .int 0, .int 0, .int 0, .ref a8_41, .ref a8_42, .int (-1)])), (a8_13, .inl (c8_13, 8, .inl (fun _ => 0))), (a8_11, .inl (c8_11, 12, .inl (fun _ => 0))), (a8_7, .inl (c8_7, 120, .inl (fun _ => 0))), (a8_8, .inl (c8_8, 120, .inl (fun _ => 0))), (a8_9, .inl (c8_9, 120, .inl (fun _ => 0))), (a8_10, .inl (c8_10, 120, .inl (fun _ => 0))), (a8_19, .inl (c8_19, 12, .inl (fun _ => 0)))]) h (va_runS (As := [.int p0]) (rest := []) E (c_X8_isInstruction l dC dI _ (p0 := p0)  ) (va_cwS 1 E.2.2.2.2 gX8_act_X8_isInstruction rfl rfl rfl (by decide +kernel) ⟨Nat.le_of_ble_eq_true rfl, Nat.le_of_ble_eq_true rfl⟩) (kPreS h KX_true (fun _ _ _ => trivial) [] [] (by decide) rfl rfl) rfl rfl hl.1 rfl (lv_room (Nat.le_of_ble_eq_true rfl)) dX8_act_1 ⟨Nat.le_of_ble_eq_true rfl, Nat.le_of_ble_eq_true rfl⟩) [] [0, 1, 2, 3, 4, 5, 6, 7] rfl rfl (by decide) (by decide) (fun r_1 u_1 H locs hw_1 h => ?_)
  have h : KS (dC, dI) A [(o8, .inr (8, [.ref a8_0, .ref a8_1, .ref a8_2, .ref a8_3, .ref a8_4, .ref a8_5, .int 0, .ref a8_7, .ref a8_8, .ref a8_9, .ref a8_10, .ref a8_11, .int 1, .ref a8_13, .ref a8_14, .ref a8_15, .ref a8_16, .ref a8_17, .ref a8_18, .ref a8_19, .ref a8_20, .ref a8_21, .ref a8_22, .ref a8_23, .ref a8_24, .int 0, .int 0, .ref a8_27, .ref a8_28, .ref a8_29, .ref a8_30, .ref a8_31, .int 0, .int 0, .int 0, .int (-1), .ref a8_36, .ref a8_37, .int 0, .int 0, .int 0, .ref a8_41, .ref a8_42, .int (-1)])), (a8_13, .inl (c8_13, 8, .inl (fun _ => 0))), (a8_11, .inl (c8_11, 12, .inl (fun _ => 0))), (a8_7, .inl (c8_7, 120, .inl (fun _ => 0))), (a8_8, .inl (c8_8, 120, .inl (fun _ => 0))), (a8_9, .inl (c8_9, 120, .inl (fun _ => 0))), (a8_10, .inl (c8_10, 120, .inl (fun _ => 0))), (a8_19, .inl (c8_19, 12, .inl (fun _ => 0)))] [(c8_13, .int), (c8_11, .int), (c8_7, .int), (c8_8, .int), (c8_9, .int), (c8_10, .int), (c8_19, .boolean)] s H locs := h
  have hw_1 : r_1 = if 0 ≤ p0.toInt ∧ p0.toInt < 12 then 1 else 0 := by first | exact hw_1 | (simp only [Int32.toInt_toInt64] at hw_1; exact hw_1)
  refine W.eq (g2 := F0 m 4 ls [.int r_1]) rfl ?_
  refine lv_if_ne (tgt := 14) hx hb dX8_act_4 (by decide) (fun c_2 => ?_) (fun c_2 => ?_)
  · skip
    have b_2 := kb1 hw_1 c_2
    refine lv_iload_n hx hb dX8_act_14 rfl (lv_at hl 2 rfl) ?_
    refine lv_iload_n hx hb dX8_act_15 rfl (lv_at hl 3 rfl) ?_
    refine lv_iload hx hb dX8_act_16 (lv_at hl 4 rfl) ?_
    refine lv_iload hx hb dX8_act_18 (lv_at hl 5 rfl) ?_
    refine kc_i (wc := []) (wr := [(o8, .inr (8, [.ref a8_0, .ref a8_1, .ref a8_2, .ref a8_3, .ref a8_4, .ref a8_5, .int 0, .ref a8_7, .ref a8_8, .ref a8_9, .ref a8_10, .ref a8_11, .int 1, .ref a8_13, .ref a8_14, .ref a8_15, .ref a8_16, .ref a8_17, .ref a8_18, .ref a8_19, .ref a8_20, .ref a8_21, .ref a8_22, .ref a8_23, .ref a8_24, .int 0, .int 0, .ref a8_27, .ref a8_28, .ref a8_29, .ref a8_30, .ref a8_31, .int 0, .int 0, .int 0, .int (-1), .ref a8_36, .ref a8_37, .int 0, .int 0, .int 0, .ref a8_41, .ref a8_42, .int (-1)])), (a8_13, .inl (c8_13, 8, .inl (fun _ => 0))), (a8_11, .inl (c8_11, 12, .inl (fun _ => 0))), (a8_7, .inl (c8_7, 120, .inl (fun _ => 0))), (a8_8, .inl (c8_8, 120, .inl (fun _ => 0))), (a8_9, .inl (c8_9, 120, .inl (fun _ => 0))), (a8_10, .inl (c8_10, 120, .inl (fun _ => 0))), (a8_19, .inl (c8_19, 12, .inl (fun _ => 0)))]) h (va_runS (As := [.int p1, .int p2, .int p3, .int p4]) (rest := []) E (c_X8_isActs l dC dI _ (p0 := p1) (p1 := p2) (p2 := p3) (p3 := p4)  ) (va_cwS 4 E.2.2.2.2 gX8_act_X8_isActs rfl rfl rfl (by decide +kernel) ⟨Nat.le_of_ble_eq_true rfl, Nat.le_of_ble_eq_true rfl⟩) (kPreS h KX_true (fun _ _ _ => trivial) [] [] (by decide) rfl rfl) rfl rfl hl.1 rfl (lv_room (Nat.le_of_ble_eq_true rfl)) dX8_act_20 ⟨Nat.le_of_ble_eq_true rfl, Nat.le_of_ble_eq_true rfl⟩) [] [0, 1, 2, 3, 4, 5, 6, 7] rfl rfl (by decide) (by decide) (fun r_3 u_3 H locs hw_3 h => ?_)
    have h : KS (dC, dI) A [(o8, .inr (8, [.ref a8_0, .ref a8_1, .ref a8_2, .ref a8_3, .ref a8_4, .ref a8_5, .int 0, .ref a8_7, .ref a8_8, .ref a8_9, .ref a8_10, .ref a8_11, .int 1, .ref a8_13, .ref a8_14, .ref a8_15, .ref a8_16, .ref a8_17, .ref a8_18, .ref a8_19, .ref a8_20, .ref a8_21, .ref a8_22, .ref a8_23, .ref a8_24, .int 0, .int 0, .ref a8_27, .ref a8_28, .ref a8_29, .ref a8_30, .ref a8_31, .int 0, .int 0, .int 0, .int (-1), .ref a8_36, .ref a8_37, .int 0, .int 0, .int 0, .ref a8_41, .ref a8_42, .int (-1)])), (a8_13, .inl (c8_13, 8, .inl (fun _ => 0))), (a8_11, .inl (c8_11, 12, .inl (fun _ => 0))), (a8_7, .inl (c8_7, 120, .inl (fun _ => 0))), (a8_8, .inl (c8_8, 120, .inl (fun _ => 0))), (a8_9, .inl (c8_9, 120, .inl (fun _ => 0))), (a8_10, .inl (c8_10, 120, .inl (fun _ => 0))), (a8_19, .inl (c8_19, 12, .inl (fun _ => 0)))] [(c8_13, .int), (c8_11, .int), (c8_7, .int), (c8_8, .int), (c8_9, .int), (c8_10, .int), (c8_19, .boolean)] s H locs := h
    have hw_3 : r_3 = if kActOK p1 p2 p3 p4 = true then 1 else 0 := by first | exact hw_3 | (simp only [Int32.toInt_toInt64] at hw_3; exact hw_3)
    refine W.eq (g2 := F0 m 23 ls [.int r_3]) rfl ?_
    refine lv_if_ne (tgt := 33) hx hb dX8_act_23 (by decide) (fun c_4 => ?_) (fun c_4 => ?_)
    · skip
      have b_4 := kb1 hw_3 c_4
      refine lv_aload_n hx hb dX8_act_33 rfl (lv_at hl 0 rfl) ?_
      refine k_get (v := .ref a8_11) E h (fun w h => List.mem_cons_of_mem _ (List.mem_append_right _ h)) 0 rfl rfl 11 (by decide) (List.mem_of_getElem? (i := 1) rfl) rfl dX8_act_34 ?_
      refine lv_iload_n hx hb dX8_act_37 rfl (lv_at hl 1 rfl) ?_
      refine k_iald (v := 0) E h 2 1 rfl rfl (vp_in_iff.mpr (by omega)) rfl dX8_act_38 ?_
      refine lv_bipush (v := 10) hx hb dX8_act_39 (by decide) ?_
      refine lv_icmp_ne (tgt := 51) hx hb dX8_act_41 (by decide) (fun _ => ?_) (fun c_5 => absurd c_5 (by decide))
      refine lv_bipush (v := 10) hx hb dX8_act_51 (by decide) ?_
      refine lv_iload_n hx hb dX8_act_53 rfl (lv_at hl 1 rfl) ?_
      refine lv_imul hx hb dX8_act_54 ?_
      have e_6 : ((10 : Int32) * p0).toInt = 10 * p0.toInt := by rw [Int32.toInt_mul]; exact fb_bmod (z := 10 * p0.toInt) (by omega) (by omega)
      refine lv_aload_n hx hb dX8_act_55 rfl (lv_at hl 0 rfl) ?_
      refine k_get (v := .ref a8_11) E h (fun w h => List.mem_cons_of_mem _ (List.mem_append_right _ h)) 0 rfl rfl 11 (by decide) (List.mem_of_getElem? (i := 1) rfl) rfl dX8_act_56 ?_
      refine lv_iload_n hx hb dX8_act_59 rfl (lv_at hl 1 rfl) ?_
      refine k_iald (v := 0) E h 2 1 rfl rfl (vp_in_iff.mpr (by omega)) rfl dX8_act_60 ?_
      refine lv_iadd hx hb dX8_act_61 ?_
      have e_7 : ((10 * p0) + (0 : Int32)).toInt = (10 * p0).toInt + 0 := by rw [Int32.toInt_add]; exact fb_bmod (z := (10 * p0).toInt + 0) (by omega) (by omega)
      refine lv_istore (lv' := [(6, .int ((10 * p0) + 0)), (0, .ref o8), (1, .int p0), (2, .int p1), (3, .int p2), (4, .int p3), (5, .int p4)]) hx hb dX8_act_62 hl (by decide) rfl (fun ls hl => ?_)
      refine lv_aload_n hx hb dX8_act_64 rfl (lv_at hl 1 rfl) ?_
      refine k_get (v := .ref a8_7) E h (fun w h => List.mem_cons_of_mem _ (List.mem_append_right _ h)) 0 rfl rfl 7 (by decide) (List.mem_of_getElem? (i := 2) rfl) rfl dX8_act_65 ?_
      refine W.eq (g2 := F0 m 68 ls [.ref a8_7]) rfl ?_
      refine lv_iload hx hb dX8_act_68 (lv_at hl 0 rfl) ?_
      refine lv_iload_n hx hb dX8_act_70 rfl (lv_at hl 3 rfl) ?_
      refine k_iast (j := ((10 * p0) + 0).toNatClampNeg) (ws' := [(o8, .inr (8, [.ref a8_0, .ref a8_1, .ref a8_2, .ref a8_3, .ref a8_4, .ref a8_5, .int 0, .ref a8_7, .ref a8_8, .ref a8_9, .ref a8_10, .ref a8_11, .int 1, .ref a8_13, .ref a8_14, .ref a8_15, .ref a8_16, .ref a8_17, .ref a8_18, .ref a8_19, .ref a8_20, .ref a8_21, .ref a8_22, .ref a8_23, .ref a8_24, .int 0, .int 0, .ref a8_27, .ref a8_28, .ref a8_29, .ref a8_30, .ref a8_31, .int 0, .int 0, .int 0, .int (-1), .ref a8_36, .ref a8_37, .int 0, .int 0, .int 0, .ref a8_41, .ref a8_42, .int (-1)])), (a8_13, .inl (c8_13, 8, .inl (fun _ => 0))), (a8_11, .inl (c8_11, 12, .inl (fun _ => 0))), (a8_7, .inl (c8_7, 120, .inl (upd (fun _ => 0) (((10 * p0) + 0).toNatClampNeg) p1))), (a8_8, .inl (c8_8, 120, .inl (fun _ => 0))), (a8_9, .inl (c8_9, 120, .inl (fun _ => 0))), (a8_10, .inl (c8_10, 120, .inl (fun _ => 0))), (a8_19, .inl (c8_19, 12, .inl (fun _ => 0)))]) E h 3 2 rfl rfl (vp_in_iff.mpr (by omega)) rfl rfl dX8_act_71 (fun H locs h => ?_)
      refine lv_aload_n hx hb dX8_act_72 rfl (lv_at hl 1 rfl) ?_
      refine k_get (v := .ref a8_8) E h (fun w h => List.mem_cons_of_mem _ (List.mem_append_right _ h)) 0 rfl rfl 8 (by decide) (List.mem_of_getElem? (i := 3) rfl) rfl dX8_act_73 ?_
      refine lv_iload hx hb dX8_act_76 (lv_at hl 0 rfl) ?_
      refine lv_iload_n hx hb dX8_act_78 rfl (lv_at hl 3 rfl) ?_
      refine kc_i (wc := []) (wr := [(o8, .inr (8, [.ref a8_0, .ref a8_1, .ref a8_2, .ref a8_3, .ref a8_4, .ref a8_5, .int 0, .ref a8_7, .ref a8_8, .ref a8_9, .ref a8_10, .ref a8_11, .int 1, .ref a8_13, .ref a8_14, .ref a8_15, .ref a8_16, .ref a8_17, .ref a8_18, .ref a8_19, .ref a8_20, .ref a8_21, .ref a8_22, .ref a8_23, .ref a8_24, .int 0, .int 0, .ref a8_27, .ref a8_28, .ref a8_29, .ref a8_30, .ref a8_31, .int 0, .int 0, .int 0, .int (-1), .ref a8_36, .ref a8_37, .int 0, .int 0, .int 0, .ref a8_41, .ref a8_42, .int (-1)])), (a8_13, .inl (c8_13, 8, .inl (fun _ => 0))), (a8_11, .inl (c8_11, 12, .inl (fun _ => 0))), (a8_7, .inl (c8_7, 120, .inl (upd (fun _ => 0) (((10 * p0) + 0).toNatClampNeg) p1))), (a8_8, .inl (c8_8, 120, .inl (fun _ => 0))), (a8_9, .inl (c8_9, 120, .inl (fun _ => 0))), (a8_10, .inl (c8_10, 120, .inl (fun _ => 0))), (a8_19, .inl (c8_19, 12, .inl (fun _ => 0)))]) h (va_runS (As := [.int p1]) (rest := [.int ((10 * p0) + 0), .ref a8_8]) E (c_X8_hasD l dC dI _ (p0 := p1)  ) (va_cwS 1 E.2.2.2.2 gX8_act_X8_hasD rfl rfl rfl (by decide +kernel) ⟨Nat.le_of_ble_eq_true rfl, Nat.le_of_ble_eq_true rfl⟩) (kPreS h KX_true (fun _ _ _ => trivial) [] [] (by decide) rfl rfl) rfl rfl hl.1 rfl (lv_room (Nat.le_of_ble_eq_true rfl)) dX8_act_79 ⟨Nat.le_of_ble_eq_true rfl, Nat.le_of_ble_eq_true rfl⟩) [] [0, 1, 2, 3, 4, 5, 6, 7] rfl rfl (by decide) (by decide) (fun r_8 u_8 H locs hw_8 h => ?_)
      have h : KS (dC, dI) A [(o8, .inr (8, [.ref a8_0, .ref a8_1, .ref a8_2, .ref a8_3, .ref a8_4, .ref a8_5, .int 0, .ref a8_7, .ref a8_8, .ref a8_9, .ref a8_10, .ref a8_11, .int 1, .ref a8_13, .ref a8_14, .ref a8_15, .ref a8_16, .ref a8_17, .ref a8_18, .ref a8_19, .ref a8_20, .ref a8_21, .ref a8_22, .ref a8_23, .ref a8_24, .int 0, .int 0, .ref a8_27, .ref a8_28, .ref a8_29, .ref a8_30, .ref a8_31, .int 0, .int 0, .int 0, .int (-1), .ref a8_36, .ref a8_37, .int 0, .int 0, .int 0, .ref a8_41, .ref a8_42, .int (-1)])), (a8_13, .inl (c8_13, 8, .inl (fun _ => 0))), (a8_11, .inl (c8_11, 12, .inl (fun _ => 0))), (a8_7, .inl (c8_7, 120, .inl (upd (fun _ => 0) (((10 * p0) + 0).toNatClampNeg) p1))), (a8_8, .inl (c8_8, 120, .inl (fun _ => 0))), (a8_9, .inl (c8_9, 120, .inl (fun _ => 0))), (a8_10, .inl (c8_10, 120, .inl (fun _ => 0))), (a8_19, .inl (c8_19, 12, .inl (fun _ => 0)))] [(c8_13, .int), (c8_11, .int), (c8_7, .int), (c8_8, .int), (c8_9, .int), (c8_10, .int), (c8_19, .boolean)] s H locs := h
      have hw_8 : r_8 = if p1.toInt ≤ 7 then 1 else 0 := by first | exact hw_8 | (simp only [Int32.toInt_toInt64] at hw_8; exact hw_8)
      refine W.eq (g2 := F0 m 82 ls [.int r_8, .int ((10 * p0) + 0), .ref a8_8]) rfl ?_
      refine lv_if_eq (tgt := 89) hx hb dX8_act_82 (by decide) (fun c_9 => ?_) (fun c_9 => ?_)
      · skip
        have b_9 := kb0 hw_8 c_9
        refine lv_iconst (v := -1) hx hb dX8_act_89 (by decide) ?_
        refine k_iast (j := ((10 * p0) + 0).toNatClampNeg) (ws' := [(o8, .inr (8, [.ref a8_0, .ref a8_1, .ref a8_2, .ref a8_3, .ref a8_4, .ref a8_5, .int 0, .ref a8_7, .ref a8_8, .ref a8_9, .ref a8_10, .ref a8_11, .int 1, .ref a8_13, .ref a8_14, .ref a8_15, .ref a8_16, .ref a8_17, .ref a8_18, .ref a8_19, .ref a8_20, .ref a8_21, .ref a8_22, .ref a8_23, .ref a8_24, .int 0, .int 0, .ref a8_27, .ref a8_28, .ref a8_29, .ref a8_30, .ref a8_31, .int 0, .int 0, .int 0, .int (-1), .ref a8_36, .ref a8_37, .int 0, .int 0, .int 0, .ref a8_41, .ref a8_42, .int (-1)])), (a8_13, .inl (c8_13, 8, .inl (fun _ => 0))), (a8_11, .inl (c8_11, 12, .inl (fun _ => 0))), (a8_7, .inl (c8_7, 120, .inl (upd (fun _ => 0) (((10 * p0) + 0).toNatClampNeg) p1))), (a8_8, .inl (c8_8, 120, .inl (upd (fun _ => 0) (((10 * p0) + 0).toNatClampNeg) (-1)))), (a8_9, .inl (c8_9, 120, .inl (fun _ => 0))), (a8_10, .inl (c8_10, 120, .inl (fun _ => 0))), (a8_19, .inl (c8_19, 12, .inl (fun _ => 0)))]) E h 4 3 rfl rfl (vp_in_iff.mpr (by omega)) rfl rfl dX8_act_90 (fun H locs h => ?_)
        refine lv_aload_n hx hb dX8_act_91 rfl (lv_at hl 1 rfl) ?_
        refine k_get (v := .ref a8_9) E h (fun w h => List.mem_cons_of_mem _ (List.mem_append_right _ h)) 0 rfl rfl 9 (by decide) (List.mem_of_getElem? (i := 4) rfl) rfl dX8_act_92 ?_
        refine lv_iload hx hb dX8_act_95 (lv_at hl 0 rfl) ?_
        refine lv_iload hx hb dX8_act_97 (lv_at hl 5 rfl) ?_
        refine k_iast (j := ((10 * p0) + 0).toNatClampNeg) (ws' := [(o8, .inr (8, [.ref a8_0, .ref a8_1, .ref a8_2, .ref a8_3, .ref a8_4, .ref a8_5, .int 0, .ref a8_7, .ref a8_8, .ref a8_9, .ref a8_10, .ref a8_11, .int 1, .ref a8_13, .ref a8_14, .ref a8_15, .ref a8_16, .ref a8_17, .ref a8_18, .ref a8_19, .ref a8_20, .ref a8_21, .ref a8_22, .ref a8_23, .ref a8_24, .int 0, .int 0, .ref a8_27, .ref a8_28, .ref a8_29, .ref a8_30, .ref a8_31, .int 0, .int 0, .int 0, .int (-1), .ref a8_36, .ref a8_37, .int 0, .int 0, .int 0, .ref a8_41, .ref a8_42, .int (-1)])), (a8_13, .inl (c8_13, 8, .inl (fun _ => 0))), (a8_11, .inl (c8_11, 12, .inl (fun _ => 0))), (a8_7, .inl (c8_7, 120, .inl (upd (fun _ => 0) (((10 * p0) + 0).toNatClampNeg) p1))), (a8_8, .inl (c8_8, 120, .inl (upd (fun _ => 0) (((10 * p0) + 0).toNatClampNeg) (-1)))), (a8_9, .inl (c8_9, 120, .inl (upd (fun _ => 0) (((10 * p0) + 0).toNatClampNeg) p3))), (a8_10, .inl (c8_10, 120, .inl (fun _ => 0))), (a8_19, .inl (c8_19, 12, .inl (fun _ => 0)))]) E h 5 4 rfl rfl (vp_in_iff.mpr (by omega)) rfl rfl dX8_act_99 (fun H locs h => ?_)
        refine lv_aload_n hx hb dX8_act_100 rfl (lv_at hl 1 rfl) ?_
        refine k_get (v := .ref a8_10) E h (fun w h => List.mem_cons_of_mem _ (List.mem_append_right _ h)) 0 rfl rfl 10 (by decide) (List.mem_of_getElem? (i := 5) rfl) rfl dX8_act_101 ?_
        refine lv_iload hx hb dX8_act_104 (lv_at hl 0 rfl) ?_
        refine lv_iload_n hx hb dX8_act_106 rfl (lv_at hl 3 rfl) ?_
        refine W.eq (g2 := F0 m 107 ls [.int p1, .int ((10 * p0) + 0), .ref a8_10]) rfl ?_
        refine kc_i (wc := []) (wr := [(o8, .inr (8, [.ref a8_0, .ref a8_1, .ref a8_2, .ref a8_3, .ref a8_4, .ref a8_5, .int 0, .ref a8_7, .ref a8_8, .ref a8_9, .ref a8_10, .ref a8_11, .int 1, .ref a8_13, .ref a8_14, .ref a8_15, .ref a8_16, .ref a8_17, .ref a8_18, .ref a8_19, .ref a8_20, .ref a8_21, .ref a8_22, .ref a8_23, .ref a8_24, .int 0, .int 0, .ref a8_27, .ref a8_28, .ref a8_29, .ref a8_30, .ref a8_31, .int 0, .int 0, .int 0, .int (-1), .ref a8_36, .ref a8_37, .int 0, .int 0, .int 0, .ref a8_41, .ref a8_42, .int (-1)])), (a8_13, .inl (c8_13, 8, .inl (fun _ => 0))), (a8_11, .inl (c8_11, 12, .inl (fun _ => 0))), (a8_7, .inl (c8_7, 120, .inl (upd (fun _ => 0) (((10 * p0) + 0).toNatClampNeg) p1))), (a8_8, .inl (c8_8, 120, .inl (upd (fun _ => 0) (((10 * p0) + 0).toNatClampNeg) (-1)))), (a8_9, .inl (c8_9, 120, .inl (upd (fun _ => 0) (((10 * p0) + 0).toNatClampNeg) p3))), (a8_10, .inl (c8_10, 120, .inl (fun _ => 0))), (a8_19, .inl (c8_19, 12, .inl (fun _ => 0)))]) h (va_runS (As := [.int p1]) (rest := [.int ((10 * p0) + 0), .ref a8_10]) E (c_X8_hasY l dC dI _ (p0 := p1)  ) (va_cwS 1 E.2.2.2.2 gX8_act_X8_hasY rfl rfl rfl (by decide +kernel) ⟨Nat.le_of_ble_eq_true rfl, Nat.le_of_ble_eq_true rfl⟩) (kPreS h KX_true (fun _ _ _ => trivial) [] [] (by decide) rfl rfl) rfl rfl hl.1 rfl (lv_room (Nat.le_of_ble_eq_true rfl)) dX8_act_107 ⟨Nat.le_of_ble_eq_true rfl, Nat.le_of_ble_eq_true rfl⟩) [] [0, 1, 2, 3, 4, 5, 6, 7] rfl rfl (by decide) (by decide) (fun r_10 u_10 H locs hw_10 h => ?_)
        have h : KS (dC, dI) A [(o8, .inr (8, [.ref a8_0, .ref a8_1, .ref a8_2, .ref a8_3, .ref a8_4, .ref a8_5, .int 0, .ref a8_7, .ref a8_8, .ref a8_9, .ref a8_10, .ref a8_11, .int 1, .ref a8_13, .ref a8_14, .ref a8_15, .ref a8_16, .ref a8_17, .ref a8_18, .ref a8_19, .ref a8_20, .ref a8_21, .ref a8_22, .ref a8_23, .ref a8_24, .int 0, .int 0, .ref a8_27, .ref a8_28, .ref a8_29, .ref a8_30, .ref a8_31, .int 0, .int 0, .int 0, .int (-1), .ref a8_36, .ref a8_37, .int 0, .int 0, .int 0, .ref a8_41, .ref a8_42, .int (-1)])), (a8_13, .inl (c8_13, 8, .inl (fun _ => 0))), (a8_11, .inl (c8_11, 12, .inl (fun _ => 0))), (a8_7, .inl (c8_7, 120, .inl (upd (fun _ => 0) (((10 * p0) + 0).toNatClampNeg) p1))), (a8_8, .inl (c8_8, 120, .inl (upd (fun _ => 0) (((10 * p0) + 0).toNatClampNeg) (-1)))), (a8_9, .inl (c8_9, 120, .inl (upd (fun _ => 0) (((10 * p0) + 0).toNatClampNeg) p3))), (a8_10, .inl (c8_10, 120, .inl (fun _ => 0))), (a8_19, .inl (c8_19, 12, .inl (fun _ => 0)))] [(c8_13, .int), (c8_11, .int), (c8_7, .int), (c8_8, .int), (c8_9, .int), (c8_10, .int), (c8_19, .boolean)] s H locs := h
        have hw_10 : r_10 = if 2 ≤ p1.toInt ∧ ¬ p1.toInt = 7 then 1 else 0 := by first | exact hw_10 | (simp only [Int32.toInt_toInt64] at hw_10; exact hw_10)
        refine W.eq (g2 := F0 m 110 ls [.int r_10, .int ((10 * p0) + 0), .ref a8_10]) rfl ?_
        refine lv_if_eq (tgt := 118) hx hb dX8_act_110 (by decide) (fun c_11 => ?_) (fun c_11 => ?_)
        · skip
          have b_11 := kb0 hw_10 c_11
          refine lv_iconst (v := -1) hx hb dX8_act_118 (by decide) ?_
          refine k_iast (j := ((10 * p0) + 0).toNatClampNeg) (ws' := [(o8, .inr (8, [.ref a8_0, .ref a8_1, .ref a8_2, .ref a8_3, .ref a8_4, .ref a8_5, .int 0, .ref a8_7, .ref a8_8, .ref a8_9, .ref a8_10, .ref a8_11, .int 1, .ref a8_13, .ref a8_14, .ref a8_15, .ref a8_16, .ref a8_17, .ref a8_18, .ref a8_19, .ref a8_20, .ref a8_21, .ref a8_22, .ref a8_23, .ref a8_24, .int 0, .int 0, .ref a8_27, .ref a8_28, .ref a8_29, .ref a8_30, .ref a8_31, .int 0, .int 0, .int 0, .int (-1), .ref a8_36, .ref a8_37, .int 0, .int 0, .int 0, .ref a8_41, .ref a8_42, .int (-1)])), (a8_13, .inl (c8_13, 8, .inl (fun _ => 0))), (a8_11, .inl (c8_11, 12, .inl (fun _ => 0))), (a8_7, .inl (c8_7, 120, .inl (upd (fun _ => 0) (((10 * p0) + 0).toNatClampNeg) p1))), (a8_8, .inl (c8_8, 120, .inl (upd (fun _ => 0) (((10 * p0) + 0).toNatClampNeg) (-1)))), (a8_9, .inl (c8_9, 120, .inl (upd (fun _ => 0) (((10 * p0) + 0).toNatClampNeg) p3))), (a8_10, .inl (c8_10, 120, .inl (upd (fun _ => 0) (((10 * p0) + 0).toNatClampNeg) (-1)))), (a8_19, .inl (c8_19, 12, .inl (fun _ => 0)))]) E h 6 5 rfl rfl (vp_in_iff.mpr (by omega)) rfl rfl dX8_act_119 (fun H locs h => ?_)
          refine lv_aload_n hx hb dX8_act_120 rfl (lv_at hl 1 rfl) ?_
          refine k_get (v := .ref a8_11) E h (fun w h => List.mem_cons_of_mem _ (List.mem_append_right _ h)) 0 rfl rfl 11 (by decide) (List.mem_of_getElem? (i := 1) rfl) rfl dX8_act_121 ?_
          refine lv_iload_n hx hb dX8_act_124 rfl (lv_at hl 2 rfl) ?_
          refine lv_dup2_11 hx hb dX8_act_125 rfl rfl ?_
          refine k_iald (v := 0) E h 2 1 rfl rfl (vp_in_iff.mpr (by omega)) rfl dX8_act_126 ?_
          refine lv_iconst (v := 1) hx hb dX8_act_127 (by decide) ?_
          refine lv_iadd hx hb dX8_act_128 ?_
          refine k_topi (y := 1) (by decide) ?_
          refine k_iast (j := p0.toNatClampNeg) (ws' := [(o8, .inr (8, [.ref a8_0, .ref a8_1, .ref a8_2, .ref a8_3, .ref a8_4, .ref a8_5, .int 0, .ref a8_7, .ref a8_8, .ref a8_9, .ref a8_10, .ref a8_11, .int 1, .ref a8_13, .ref a8_14, .ref a8_15, .ref a8_16, .ref a8_17, .ref a8_18, .ref a8_19, .ref a8_20, .ref a8_21, .ref a8_22, .ref a8_23, .ref a8_24, .int 0, .int 0, .ref a8_27, .ref a8_28, .ref a8_29, .ref a8_30, .ref a8_31, .int 0, .int 0, .int 0, .int (-1), .ref a8_36, .ref a8_37, .int 0, .int 0, .int 0, .ref a8_41, .ref a8_42, .int (-1)])), (a8_13, .inl (c8_13, 8, .inl (fun _ => 0))), (a8_11, .inl (c8_11, 12, .inl (upd (fun _ => 0) p0.toNatClampNeg 1))), (a8_7, .inl (c8_7, 120, .inl (upd (fun _ => 0) (((10 * p0) + 0).toNatClampNeg) p1))), (a8_8, .inl (c8_8, 120, .inl (upd (fun _ => 0) (((10 * p0) + 0).toNatClampNeg) (-1)))), (a8_9, .inl (c8_9, 120, .inl (upd (fun _ => 0) (((10 * p0) + 0).toNatClampNeg) p3))), (a8_10, .inl (c8_10, 120, .inl (upd (fun _ => 0) (((10 * p0) + 0).toNatClampNeg) (-1)))), (a8_19, .inl (c8_19, 12, .inl (fun _ => 0)))]) E h 2 1 rfl rfl (vp_in_iff.mpr (by omega)) rfl rfl dX8_act_129 (fun H locs h => ?_)
          refine lv_aload_n hx hb dX8_act_130 rfl (lv_at hl 1 rfl) ?_
          refine W.eq (g2 := F0 m 131 ls [.ref o8]) rfl ?_
          refine k_get (v := .ref a8_19) E h (fun w h => List.mem_cons_of_mem _ (List.mem_append_right _ h)) 0 rfl rfl 19 (by decide) (List.mem_of_getElem? (i := 6) rfl) rfl dX8_act_131 ?_
          refine lv_iload_n hx hb dX8_act_134 rfl (lv_at hl 2 rfl) ?_
          refine lv_iconst (v := 0) hx hb dX8_act_135 (by decide) ?_
          refine k_zast (j := p0.toNatClampNeg) (y := 0) (ws' := [(o8, .inr (8, [.ref a8_0, .ref a8_1, .ref a8_2, .ref a8_3, .ref a8_4, .ref a8_5, .int 0, .ref a8_7, .ref a8_8, .ref a8_9, .ref a8_10, .ref a8_11, .int 1, .ref a8_13, .ref a8_14, .ref a8_15, .ref a8_16, .ref a8_17, .ref a8_18, .ref a8_19, .ref a8_20, .ref a8_21, .ref a8_22, .ref a8_23, .ref a8_24, .int 0, .int 0, .ref a8_27, .ref a8_28, .ref a8_29, .ref a8_30, .ref a8_31, .int 0, .int 0, .int 0, .int (-1), .ref a8_36, .ref a8_37, .int 0, .int 0, .int 0, .ref a8_41, .ref a8_42, .int (-1)])), (a8_13, .inl (c8_13, 8, .inl (fun _ => 0))), (a8_11, .inl (c8_11, 12, .inl (upd (fun _ => 0) p0.toNatClampNeg 1))), (a8_7, .inl (c8_7, 120, .inl (upd (fun _ => 0) (((10 * p0) + 0).toNatClampNeg) p1))), (a8_8, .inl (c8_8, 120, .inl (upd (fun _ => 0) (((10 * p0) + 0).toNatClampNeg) (-1)))), (a8_9, .inl (c8_9, 120, .inl (upd (fun _ => 0) (((10 * p0) + 0).toNatClampNeg) p3))), (a8_10, .inl (c8_10, 120, .inl (upd (fun _ => 0) (((10 * p0) + 0).toNatClampNeg) (-1)))), (a8_19, .inl (c8_19, 12, .inl (upd (fun _ => 0) p0.toNatClampNeg 0)))]) E h 7 6 rfl rfl (vp_in_iff.mpr (by omega)) rfl (by decide) rfl dX8_act_136 (fun H locs h => ?_)
          refine lv_aload_n hx hb dX8_act_137 rfl (lv_at hl 1 rfl) ?_
          refine lv_iconst (v := 0) hx hb dX8_act_138 (by decide) ?_
          refine k_put (v := .int 0) (ty := .boolean) (ws' := [(o8, .inr (8, [.ref a8_0, .ref a8_1, .ref a8_2, .ref a8_3, .ref a8_4, .ref a8_5, .int 0, .ref a8_7, .ref a8_8, .ref a8_9, .ref a8_10, .ref a8_11, .int 1, .ref a8_13, .ref a8_14, .ref a8_15, .ref a8_16, .ref a8_17, .ref a8_18, .ref a8_19, .ref a8_20, .ref a8_21, .ref a8_22, .ref a8_23, .ref a8_24, .int 0, .int 0, .ref a8_27, .ref a8_28, .ref a8_29, .ref a8_30, .ref a8_31, .int 0, .int 0, .int 0, .int (-1), .ref a8_36, .ref a8_37, .int 0, .int 0, .int 0, .ref a8_41, .ref a8_42, .int (-1)])), (a8_13, .inl (c8_13, 8, .inl (fun _ => 0))), (a8_11, .inl (c8_11, 12, .inl (upd (fun _ => 0) p0.toNatClampNeg 1))), (a8_7, .inl (c8_7, 120, .inl (upd (fun _ => 0) (((10 * p0) + 0).toNatClampNeg) p1))), (a8_8, .inl (c8_8, 120, .inl (upd (fun _ => 0) (((10 * p0) + 0).toNatClampNeg) (-1)))), (a8_9, .inl (c8_9, 120, .inl (upd (fun _ => 0) (((10 * p0) + 0).toNatClampNeg) p3))), (a8_10, .inl (c8_10, 120, .inl (upd (fun _ => 0) (((10 * p0) + 0).toNatClampNeg) (-1)))), (a8_19, .inl (c8_19, 12, .inl (upd (fun _ => 0) p0.toNatClampNeg 0)))]) E h (fun w h => List.mem_cons_of_mem _ (List.mem_append_right _ h)) tyX8_ok nmX8 0 rfl rfl 26 (by decide) (List.mem_of_getElem? (i := 7) rfl) rfl (by decide +kernel) (by decide) rfl (Nat.le_of_ble_eq_true rfl) rfl dX8_act_139 (fun H locs h => ?_)
          refine lv_aload_n hx hb dX8_act_142 rfl (lv_at hl 1 rfl) ?_
          refine k_get (v := .ref a8_11) E h (fun w h => List.mem_cons_of_mem _ (List.mem_append_right _ h)) 0 rfl rfl 11 (by decide) (List.mem_of_getElem? (i := 1) rfl) rfl dX8_act_143 ?_
          refine lv_iload_n hx hb dX8_act_146 rfl (lv_at hl 2 rfl) ?_
          refine k_iald (v := 1) E h 2 1 rfl rfl (vp_in_iff.mpr (by omega)) pk_us dX8_act_147 ?_
          have h9 := h
          exact W.iret (v := 1) hx hb hr (fun t ht hW => ⟨⟨1, (), rfl, (by unfold an_act; (repeat' split) <;> first | rfl | contradiction | omega), (by rw [ht]; exact h9.2.1.sub [] rfl), h9.2.2.1.sub [] (by decide) rfl⟩, h.2.2.2.1.F ht⟩) h.2.2.2.1.2.2 dX8_act_148 hlocks
        · skip
          have b_11 := kb1 hw_10 c_11
          refine lv_iload hx hb dX8_act_113 (lv_at hl 6 rfl) ?_
          refine lv_goto (tgt := 119) hx hb dX8_act_115 (by decide) ?_
          refine k_iast (j := ((10 * p0) + 0).toNatClampNeg) (ws' := [(o8, .inr (8, [.ref a8_0, .ref a8_1, .ref a8_2, .ref a8_3, .ref a8_4, .ref a8_5, .int 0, .ref a8_7, .ref a8_8, .ref a8_9, .ref a8_10, .ref a8_11, .int 1, .ref a8_13, .ref a8_14, .ref a8_15, .ref a8_16, .ref a8_17, .ref a8_18, .ref a8_19, .ref a8_20, .ref a8_21, .ref a8_22, .ref a8_23, .ref a8_24, .int 0, .int 0, .ref a8_27, .ref a8_28, .ref a8_29, .ref a8_30, .ref a8_31, .int 0, .int 0, .int 0, .int (-1), .ref a8_36, .ref a8_37, .int 0, .int 0, .int 0, .ref a8_41, .ref a8_42, .int (-1)])), (a8_13, .inl (c8_13, 8, .inl (fun _ => 0))), (a8_11, .inl (c8_11, 12, .inl (fun _ => 0))), (a8_7, .inl (c8_7, 120, .inl (upd (fun _ => 0) (((10 * p0) + 0).toNatClampNeg) p1))), (a8_8, .inl (c8_8, 120, .inl (upd (fun _ => 0) (((10 * p0) + 0).toNatClampNeg) (-1)))), (a8_9, .inl (c8_9, 120, .inl (upd (fun _ => 0) (((10 * p0) + 0).toNatClampNeg) p3))), (a8_10, .inl (c8_10, 120, .inl (upd (fun _ => 0) (((10 * p0) + 0).toNatClampNeg) p4))), (a8_19, .inl (c8_19, 12, .inl (fun _ => 0)))]) E h 6 5 rfl rfl (vp_in_iff.mpr (by omega)) rfl rfl dX8_act_119 (fun H locs h => ?_)
          refine lv_aload_n hx hb dX8_act_120 rfl (lv_at hl 1 rfl) ?_
          refine k_get (v := .ref a8_11) E h (fun w h => List.mem_cons_of_mem _ (List.mem_append_right _ h)) 0 rfl rfl 11 (by decide) (List.mem_of_getElem? (i := 1) rfl) rfl dX8_act_121 ?_
          refine lv_iload_n hx hb dX8_act_124 rfl (lv_at hl 2 rfl) ?_
          refine lv_dup2_11 hx hb dX8_act_125 rfl rfl ?_
          refine k_iald (v := 0) E h 2 1 rfl rfl (vp_in_iff.mpr (by omega)) rfl dX8_act_126 ?_
          refine lv_iconst (v := 1) hx hb dX8_act_127 (by decide) ?_
          refine lv_iadd hx hb dX8_act_128 ?_
          refine k_topi (y := 1) (by decide) ?_
          refine k_iast (j := p0.toNatClampNeg) (ws' := [(o8, .inr (8, [.ref a8_0, .ref a8_1, .ref a8_2, .ref a8_3, .ref a8_4, .ref a8_5, .int 0, .ref a8_7, .ref a8_8, .ref a8_9, .ref a8_10, .ref a8_11, .int 1, .ref a8_13, .ref a8_14, .ref a8_15, .ref a8_16, .ref a8_17, .ref a8_18, .ref a8_19, .ref a8_20, .ref a8_21, .ref a8_22, .ref a8_23, .ref a8_24, .int 0, .int 0, .ref a8_27, .ref a8_28, .ref a8_29, .ref a8_30, .ref a8_31, .int 0, .int 0, .int 0, .int (-1), .ref a8_36, .ref a8_37, .int 0, .int 0, .int 0, .ref a8_41, .ref a8_42, .int (-1)])), (a8_13, .inl (c8_13, 8, .inl (fun _ => 0))), (a8_11, .inl (c8_11, 12, .inl (upd (fun _ => 0) p0.toNatClampNeg 1))), (a8_7, .inl (c8_7, 120, .inl (upd (fun _ => 0) (((10 * p0) + 0).toNatClampNeg) p1))), (a8_8, .inl (c8_8, 120, .inl (upd (fun _ => 0) (((10 * p0) + 0).toNatClampNeg) (-1)))), (a8_9, .inl (c8_9, 120, .inl (upd (fun _ => 0) (((10 * p0) + 0).toNatClampNeg) p3))), (a8_10, .inl (c8_10, 120, .inl (upd (fun _ => 0) (((10 * p0) + 0).toNatClampNeg) p4))), (a8_19, .inl (c8_19, 12, .inl (fun _ => 0)))]) E h 2 1 rfl rfl (vp_in_iff.mpr (by omega)) rfl rfl dX8_act_129 (fun H locs h => ?_)
          refine lv_aload_n hx hb dX8_act_130 rfl (lv_at hl 1 rfl) ?_
          refine k_get (v := .ref a8_19) E h (fun w h => List.mem_cons_of_mem _ (List.mem_append_right _ h)) 0 rfl rfl 19 (by decide) (List.mem_of_getElem? (i := 6) rfl) rfl dX8_act_131 ?_
          refine W.eq (g2 := F0 m 134 ls [.ref a8_19]) rfl ?_
          refine lv_iload_n hx hb dX8_act_134 rfl (lv_at hl 2 rfl) ?_
          refine lv_iconst (v := 0) hx hb dX8_act_135 (by decide) ?_
          refine k_zast (j := p0.toNatClampNeg) (y := 0) (ws' := [(o8, .inr (8, [.ref a8_0, .ref a8_1, .ref a8_2, .ref a8_3, .ref a8_4, .ref a8_5, .int 0, .ref a8_7, .ref a8_8, .ref a8_9, .ref a8_10, .ref a8_11, .int 1, .ref a8_13, .ref a8_14, .ref a8_15, .ref a8_16, .ref a8_17, .ref a8_18, .ref a8_19, .ref a8_20, .ref a8_21, .ref a8_22, .ref a8_23, .ref a8_24, .int 0, .int 0, .ref a8_27, .ref a8_28, .ref a8_29, .ref a8_30, .ref a8_31, .int 0, .int 0, .int 0, .int (-1), .ref a8_36, .ref a8_37, .int 0, .int 0, .int 0, .ref a8_41, .ref a8_42, .int (-1)])), (a8_13, .inl (c8_13, 8, .inl (fun _ => 0))), (a8_11, .inl (c8_11, 12, .inl (upd (fun _ => 0) p0.toNatClampNeg 1))), (a8_7, .inl (c8_7, 120, .inl (upd (fun _ => 0) (((10 * p0) + 0).toNatClampNeg) p1))), (a8_8, .inl (c8_8, 120, .inl (upd (fun _ => 0) (((10 * p0) + 0).toNatClampNeg) (-1)))), (a8_9, .inl (c8_9, 120, .inl (upd (fun _ => 0) (((10 * p0) + 0).toNatClampNeg) p3))), (a8_10, .inl (c8_10, 120, .inl (upd (fun _ => 0) (((10 * p0) + 0).toNatClampNeg) p4))), (a8_19, .inl (c8_19, 12, .inl (upd (fun _ => 0) p0.toNatClampNeg 0)))]) E h 7 6 rfl rfl (vp_in_iff.mpr (by omega)) rfl (by decide) rfl dX8_act_136 (fun H locs h => ?_)
          refine lv_aload_n hx hb dX8_act_137 rfl (lv_at hl 1 rfl) ?_
          refine lv_iconst (v := 0) hx hb dX8_act_138 (by decide) ?_
          refine k_put (v := .int 0) (ty := .boolean) (ws' := [(o8, .inr (8, [.ref a8_0, .ref a8_1, .ref a8_2, .ref a8_3, .ref a8_4, .ref a8_5, .int 0, .ref a8_7, .ref a8_8, .ref a8_9, .ref a8_10, .ref a8_11, .int 1, .ref a8_13, .ref a8_14, .ref a8_15, .ref a8_16, .ref a8_17, .ref a8_18, .ref a8_19, .ref a8_20, .ref a8_21, .ref a8_22, .ref a8_23, .ref a8_24, .int 0, .int 0, .ref a8_27, .ref a8_28, .ref a8_29, .ref a8_30, .ref a8_31, .int 0, .int 0, .int 0, .int (-1), .ref a8_36, .ref a8_37, .int 0, .int 0, .int 0, .ref a8_41, .ref a8_42, .int (-1)])), (a8_13, .inl (c8_13, 8, .inl (fun _ => 0))), (a8_11, .inl (c8_11, 12, .inl (upd (fun _ => 0) p0.toNatClampNeg 1))), (a8_7, .inl (c8_7, 120, .inl (upd (fun _ => 0) (((10 * p0) + 0).toNatClampNeg) p1))), (a8_8, .inl (c8_8, 120, .inl (upd (fun _ => 0) (((10 * p0) + 0).toNatClampNeg) (-1)))), (a8_9, .inl (c8_9, 120, .inl (upd (fun _ => 0) (((10 * p0) + 0).toNatClampNeg) p3))), (a8_10, .inl (c8_10, 120, .inl (upd (fun _ => 0) (((10 * p0) + 0).toNatClampNeg) p4))), (a8_19, .inl (c8_19, 12, .inl (upd (fun _ => 0) p0.toNatClampNeg 0)))]) E h (fun w h => List.mem_cons_of_mem _ (List.mem_append_right _ h)) tyX8_ok nmX8 0 rfl rfl 26 (by decide) (List.mem_of_getElem? (i := 7) rfl) rfl (by decide +kernel) (by decide) rfl (Nat.le_of_ble_eq_true rfl) rfl dX8_act_139 (fun H locs h => ?_)
          refine lv_aload_n hx hb dX8_act_142 rfl (lv_at hl 1 rfl) ?_
          refine k_get (v := .ref a8_11) E h (fun w h => List.mem_cons_of_mem _ (List.mem_append_right _ h)) 0 rfl rfl 11 (by decide) (List.mem_of_getElem? (i := 1) rfl) rfl dX8_act_143 ?_
          refine lv_iload_n hx hb dX8_act_146 rfl (lv_at hl 2 rfl) ?_
          refine k_iald (v := 1) E h 2 1 rfl rfl (vp_in_iff.mpr (by omega)) pk_us dX8_act_147 ?_
          have h9 := h
          exact W.iret (v := 1) hx hb hr (fun t ht hW => ⟨⟨1, (), rfl, (by unfold an_act; (repeat' split) <;> first | rfl | contradiction | omega), (by rw [ht]; exact h9.2.1.sub [] rfl), h9.2.2.1.sub [] (by decide) rfl⟩, h.2.2.2.1.F ht⟩) h.2.2.2.1.2.2 dX8_act_148 hlocks
      · skip
        have b_9 := kb1 hw_8 c_9
        refine lv_iload_n hx hb dX8_act_85 rfl (lv_at hl 4 rfl) ?_
        refine lv_goto (tgt := 90) hx hb dX8_act_86 (by decide) ?_
        refine k_iast (j := ((10 * p0) + 0).toNatClampNeg) (ws' := [(o8, .inr (8, [.ref a8_0, .ref a8_1, .ref a8_2, .ref a8_3, .ref a8_4, .ref a8_5, .int 0, .ref a8_7, .ref a8_8, .ref a8_9, .ref a8_10, .ref a8_11, .int 1, .ref a8_13, .ref a8_14, .ref a8_15, .ref a8_16, .ref a8_17, .ref a8_18, .ref a8_19, .ref a8_20, .ref a8_21, .ref a8_22, .ref a8_23, .ref a8_24, .int 0, .int 0, .ref a8_27, .ref a8_28, .ref a8_29, .ref a8_30, .ref a8_31, .int 0, .int 0, .int 0, .int (-1), .ref a8_36, .ref a8_37, .int 0, .int 0, .int 0, .ref a8_41, .ref a8_42, .int (-1)])), (a8_13, .inl (c8_13, 8, .inl (fun _ => 0))), (a8_11, .inl (c8_11, 12, .inl (fun _ => 0))), (a8_7, .inl (c8_7, 120, .inl (upd (fun _ => 0) (((10 * p0) + 0).toNatClampNeg) p1))), (a8_8, .inl (c8_8, 120, .inl (upd (fun _ => 0) (((10 * p0) + 0).toNatClampNeg) p2))), (a8_9, .inl (c8_9, 120, .inl (fun _ => 0))), (a8_10, .inl (c8_10, 120, .inl (fun _ => 0))), (a8_19, .inl (c8_19, 12, .inl (fun _ => 0)))]) E h 4 3 rfl rfl (vp_in_iff.mpr (by omega)) rfl rfl dX8_act_90 (fun H locs h => ?_)
        refine lv_aload_n hx hb dX8_act_91 rfl (lv_at hl 1 rfl) ?_
        refine k_get (v := .ref a8_9) E h (fun w h => List.mem_cons_of_mem _ (List.mem_append_right _ h)) 0 rfl rfl 9 (by decide) (List.mem_of_getElem? (i := 4) rfl) rfl dX8_act_92 ?_
        refine lv_iload hx hb dX8_act_95 (lv_at hl 0 rfl) ?_
        refine lv_iload hx hb dX8_act_97 (lv_at hl 5 rfl) ?_
        refine k_iast (j := ((10 * p0) + 0).toNatClampNeg) (ws' := [(o8, .inr (8, [.ref a8_0, .ref a8_1, .ref a8_2, .ref a8_3, .ref a8_4, .ref a8_5, .int 0, .ref a8_7, .ref a8_8, .ref a8_9, .ref a8_10, .ref a8_11, .int 1, .ref a8_13, .ref a8_14, .ref a8_15, .ref a8_16, .ref a8_17, .ref a8_18, .ref a8_19, .ref a8_20, .ref a8_21, .ref a8_22, .ref a8_23, .ref a8_24, .int 0, .int 0, .ref a8_27, .ref a8_28, .ref a8_29, .ref a8_30, .ref a8_31, .int 0, .int 0, .int 0, .int (-1), .ref a8_36, .ref a8_37, .int 0, .int 0, .int 0, .ref a8_41, .ref a8_42, .int (-1)])), (a8_13, .inl (c8_13, 8, .inl (fun _ => 0))), (a8_11, .inl (c8_11, 12, .inl (fun _ => 0))), (a8_7, .inl (c8_7, 120, .inl (upd (fun _ => 0) (((10 * p0) + 0).toNatClampNeg) p1))), (a8_8, .inl (c8_8, 120, .inl (upd (fun _ => 0) (((10 * p0) + 0).toNatClampNeg) p2))), (a8_9, .inl (c8_9, 120, .inl (upd (fun _ => 0) (((10 * p0) + 0).toNatClampNeg) p3))), (a8_10, .inl (c8_10, 120, .inl (fun _ => 0))), (a8_19, .inl (c8_19, 12, .inl (fun _ => 0)))]) E h 5 4 rfl rfl (vp_in_iff.mpr (by omega)) rfl rfl dX8_act_99 (fun H locs h => ?_)
        refine lv_aload_n hx hb dX8_act_100 rfl (lv_at hl 1 rfl) ?_
        refine k_get (v := .ref a8_10) E h (fun w h => List.mem_cons_of_mem _ (List.mem_append_right _ h)) 0 rfl rfl 10 (by decide) (List.mem_of_getElem? (i := 5) rfl) rfl dX8_act_101 ?_
        refine lv_iload hx hb dX8_act_104 (lv_at hl 0 rfl) ?_
        refine lv_iload_n hx hb dX8_act_106 rfl (lv_at hl 3 rfl) ?_
        refine kc_i (wc := []) (wr := [(o8, .inr (8, [.ref a8_0, .ref a8_1, .ref a8_2, .ref a8_3, .ref a8_4, .ref a8_5, .int 0, .ref a8_7, .ref a8_8, .ref a8_9, .ref a8_10, .ref a8_11, .int 1, .ref a8_13, .ref a8_14, .ref a8_15, .ref a8_16, .ref a8_17, .ref a8_18, .ref a8_19, .ref a8_20, .ref a8_21, .ref a8_22, .ref a8_23, .ref a8_24, .int 0, .int 0, .ref a8_27, .ref a8_28, .ref a8_29, .ref a8_30, .ref a8_31, .int 0, .int 0, .int 0, .int (-1), .ref a8_36, .ref a8_37, .int 0, .int 0, .int 0, .ref a8_41, .ref a8_42, .int (-1)])), (a8_13, .inl (c8_13, 8, .inl (fun _ => 0))), (a8_11, .inl (c8_11, 12, .inl (fun _ => 0))), (a8_7, .inl (c8_7, 120, .inl (upd (fun _ => 0) (((10 * p0) + 0).toNatClampNeg) p1))), (a8_8, .inl (c8_8, 120, .inl (upd (fun _ => 0) (((10 * p0) + 0).toNatClampNeg) p2))), (a8_9, .inl (c8_9, 120, .inl (upd (fun _ => 0) (((10 * p0) + 0).toNatClampNeg) p3))), (a8_10, .inl (c8_10, 120, .inl (fun _ => 0))), (a8_19, .inl (c8_19, 12, .inl (fun _ => 0)))]) h (va_runS (As := [.int p1]) (rest := [.int ((10 * p0) + 0), .ref a8_10]) E (c_X8_hasY l dC dI _ (p0 := p1)  ) (va_cwS 1 E.2.2.2.2 gX8_act_X8_hasY rfl rfl rfl (by decide +kernel) ⟨Nat.le_of_ble_eq_true rfl, Nat.le_of_ble_eq_true rfl⟩) (kPreS h KX_true (fun _ _ _ => trivial) [] [] (by decide) rfl rfl) rfl rfl hl.1 rfl (lv_room (Nat.le_of_ble_eq_true rfl)) dX8_act_107 ⟨Nat.le_of_ble_eq_true rfl, Nat.le_of_ble_eq_true rfl⟩) [] [0, 1, 2, 3, 4, 5, 6, 7] rfl rfl (by decide) (by decide) (fun r_12 u_12 H locs hw_12 h => ?_)
        have h : KS (dC, dI) A [(o8, .inr (8, [.ref a8_0, .ref a8_1, .ref a8_2, .ref a8_3, .ref a8_4, .ref a8_5, .int 0, .ref a8_7, .ref a8_8, .ref a8_9, .ref a8_10, .ref a8_11, .int 1, .ref a8_13, .ref a8_14, .ref a8_15, .ref a8_16, .ref a8_17, .ref a8_18, .ref a8_19, .ref a8_20, .ref a8_21, .ref a8_22, .ref a8_23, .ref a8_24, .int 0, .int 0, .ref a8_27, .ref a8_28, .ref a8_29, .ref a8_30, .ref a8_31, .int 0, .int 0, .int 0, .int (-1), .ref a8_36, .ref a8_37, .int 0, .int 0, .int 0, .ref a8_41, .ref a8_42, .int (-1)])), (a8_13, .inl (c8_13, 8, .inl (fun _ => 0))), (a8_11, .inl (c8_11, 12, .inl (fun _ => 0))), (a8_7, .inl (c8_7, 120, .inl (upd (fun _ => 0) (((10 * p0) + 0).toNatClampNeg) p1))), (a8_8, .inl (c8_8, 120, .inl (upd (fun _ => 0) (((10 * p0) + 0).toNatClampNeg) p2))), (a8_9, .inl (c8_9, 120, .inl (upd (fun _ => 0) (((10 * p0) + 0).toNatClampNeg) p3))), (a8_10, .inl (c8_10, 120, .inl (fun _ => 0))), (a8_19, .inl (c8_19, 12, .inl (fun _ => 0)))] [(c8_13, .int), (c8_11, .int), (c8_7, .int), (c8_8, .int), (c8_9, .int), (c8_10, .int), (c8_19, .boolean)] s H locs := h
        have hw_12 : r_12 = if 2 ≤ p1.toInt ∧ ¬ p1.toInt = 7 then 1 else 0 := by first | exact hw_12 | (simp only [Int32.toInt_toInt64] at hw_12; exact hw_12)
        refine W.eq (g2 := F0 m 110 ls [.int r_12, .int ((10 * p0) + 0), .ref a8_10]) rfl ?_
        refine lv_if_eq (tgt := 118) hx hb dX8_act_110 (by decide) (fun c_13 => ?_) (fun c_13 => ?_)
        · skip
          have b_13 := kb0 hw_12 c_13
          refine lv_iconst (v := -1) hx hb dX8_act_118 (by decide) ?_
          refine k_iast (j := ((10 * p0) + 0).toNatClampNeg) (ws' := [(o8, .inr (8, [.ref a8_0, .ref a8_1, .ref a8_2, .ref a8_3, .ref a8_4, .ref a8_5, .int 0, .ref a8_7, .ref a8_8, .ref a8_9, .ref a8_10, .ref a8_11, .int 1, .ref a8_13, .ref a8_14, .ref a8_15, .ref a8_16, .ref a8_17, .ref a8_18, .ref a8_19, .ref a8_20, .ref a8_21, .ref a8_22, .ref a8_23, .ref a8_24, .int 0, .int 0, .ref a8_27, .ref a8_28, .ref a8_29, .ref a8_30, .ref a8_31, .int 0, .int 0, .int 0, .int (-1), .ref a8_36, .ref a8_37, .int 0, .int 0, .int 0, .ref a8_41, .ref a8_42, .int (-1)])), (a8_13, .inl (c8_13, 8, .inl (fun _ => 0))), (a8_11, .inl (c8_11, 12, .inl (fun _ => 0))), (a8_7, .inl (c8_7, 120, .inl (upd (fun _ => 0) (((10 * p0) + 0).toNatClampNeg) p1))), (a8_8, .inl (c8_8, 120, .inl (upd (fun _ => 0) (((10 * p0) + 0).toNatClampNeg) p2))), (a8_9, .inl (c8_9, 120, .inl (upd (fun _ => 0) (((10 * p0) + 0).toNatClampNeg) p3))), (a8_10, .inl (c8_10, 120, .inl (upd (fun _ => 0) (((10 * p0) + 0).toNatClampNeg) (-1)))), (a8_19, .inl (c8_19, 12, .inl (fun _ => 0)))]) E h 6 5 rfl rfl (vp_in_iff.mpr (by omega)) rfl rfl dX8_act_119 (fun H locs h => ?_)
          refine lv_aload_n hx hb dX8_act_120 rfl (lv_at hl 1 rfl) ?_
          refine k_get (v := .ref a8_11) E h (fun w h => List.mem_cons_of_mem _ (List.mem_append_right _ h)) 0 rfl rfl 11 (by decide) (List.mem_of_getElem? (i := 1) rfl) rfl dX8_act_121 ?_
          refine lv_iload_n hx hb dX8_act_124 rfl (lv_at hl 2 rfl) ?_
          refine lv_dup2_11 hx hb dX8_act_125 rfl rfl ?_
          refine k_iald (v := 0) E h 2 1 rfl rfl (vp_in_iff.mpr (by omega)) rfl dX8_act_126 ?_
          refine lv_iconst (v := 1) hx hb dX8_act_127 (by decide) ?_
          refine lv_iadd hx hb dX8_act_128 ?_
          refine k_topi (y := 1) (by decide) ?_
          refine k_iast (j := p0.toNatClampNeg) (ws' := [(o8, .inr (8, [.ref a8_0, .ref a8_1, .ref a8_2, .ref a8_3, .ref a8_4, .ref a8_5, .int 0, .ref a8_7, .ref a8_8, .ref a8_9, .ref a8_10, .ref a8_11, .int 1, .ref a8_13, .ref a8_14, .ref a8_15, .ref a8_16, .ref a8_17, .ref a8_18, .ref a8_19, .ref a8_20, .ref a8_21, .ref a8_22, .ref a8_23, .ref a8_24, .int 0, .int 0, .ref a8_27, .ref a8_28, .ref a8_29, .ref a8_30, .ref a8_31, .int 0, .int 0, .int 0, .int (-1), .ref a8_36, .ref a8_37, .int 0, .int 0, .int 0, .ref a8_41, .ref a8_42, .int (-1)])), (a8_13, .inl (c8_13, 8, .inl (fun _ => 0))), (a8_11, .inl (c8_11, 12, .inl (upd (fun _ => 0) p0.toNatClampNeg 1))), (a8_7, .inl (c8_7, 120, .inl (upd (fun _ => 0) (((10 * p0) + 0).toNatClampNeg) p1))), (a8_8, .inl (c8_8, 120, .inl (upd (fun _ => 0) (((10 * p0) + 0).toNatClampNeg) p2))), (a8_9, .inl (c8_9, 120, .inl (upd (fun _ => 0) (((10 * p0) + 0).toNatClampNeg) p3))), (a8_10, .inl (c8_10, 120, .inl (upd (fun _ => 0) (((10 * p0) + 0).toNatClampNeg) (-1)))), (a8_19, .inl (c8_19, 12, .inl (fun _ => 0)))]) E h 2 1 rfl rfl (vp_in_iff.mpr (by omega)) rfl rfl dX8_act_129 (fun H locs h => ?_)
          refine lv_aload_n hx hb dX8_act_130 rfl (lv_at hl 1 rfl) ?_
          refine W.eq (g2 := F0 m 131 ls [.ref o8]) rfl ?_
          refine k_get (v := .ref a8_19) E h (fun w h => List.mem_cons_of_mem _ (List.mem_append_right _ h)) 0 rfl rfl 19 (by decide) (List.mem_of_getElem? (i := 6) rfl) rfl dX8_act_131 ?_
          refine lv_iload_n hx hb dX8_act_134 rfl (lv_at hl 2 rfl) ?_
          refine lv_iconst (v := 0) hx hb dX8_act_135 (by decide) ?_
          refine k_zast (j := p0.toNatClampNeg) (y := 0) (ws' := [(o8, .inr (8, [.ref a8_0, .ref a8_1, .ref a8_2, .ref a8_3, .ref a8_4, .ref a8_5, .int 0, .ref a8_7, .ref a8_8, .ref a8_9, .ref a8_10, .ref a8_11, .int 1, .ref a8_13, .ref a8_14, .ref a8_15, .ref a8_16, .ref a8_17, .ref a8_18, .ref a8_19, .ref a8_20, .ref a8_21, .ref a8_22, .ref a8_23, .ref a8_24, .int 0, .int 0, .ref a8_27, .ref a8_28, .ref a8_29, .ref a8_30, .ref a8_31, .int 0, .int 0, .int 0, .int (-1), .ref a8_36, .ref a8_37, .int 0, .int 0, .int 0, .ref a8_41, .ref a8_42, .int (-1)])), (a8_13, .inl (c8_13, 8, .inl (fun _ => 0))), (a8_11, .inl (c8_11, 12, .inl (upd (fun _ => 0) p0.toNatClampNeg 1))), (a8_7, .inl (c8_7, 120, .inl (upd (fun _ => 0) (((10 * p0) + 0).toNatClampNeg) p1))), (a8_8, .inl (c8_8, 120, .inl (upd (fun _ => 0) (((10 * p0) + 0).toNatClampNeg) p2))), (a8_9, .inl (c8_9, 120, .inl (upd (fun _ => 0) (((10 * p0) + 0).toNatClampNeg) p3))), (a8_10, .inl (c8_10, 120, .inl (upd (fun _ => 0) (((10 * p0) + 0).toNatClampNeg) (-1)))), (a8_19, .inl (c8_19, 12, .inl (upd (fun _ => 0) p0.toNatClampNeg 0)))]) E h 7 6 rfl rfl (vp_in_iff.mpr (by omega)) rfl (by decide) rfl dX8_act_136 (fun H locs h => ?_)
          refine lv_aload_n hx hb dX8_act_137 rfl (lv_at hl 1 rfl) ?_
          refine lv_iconst (v := 0) hx hb dX8_act_138 (by decide) ?_
          refine k_put (v := .int 0) (ty := .boolean) (ws' := [(o8, .inr (8, [.ref a8_0, .ref a8_1, .ref a8_2, .ref a8_3, .ref a8_4, .ref a8_5, .int 0, .ref a8_7, .ref a8_8, .ref a8_9, .ref a8_10, .ref a8_11, .int 1, .ref a8_13, .ref a8_14, .ref a8_15, .ref a8_16, .ref a8_17, .ref a8_18, .ref a8_19, .ref a8_20, .ref a8_21, .ref a8_22, .ref a8_23, .ref a8_24, .int 0, .int 0, .ref a8_27, .ref a8_28, .ref a8_29, .ref a8_30, .ref a8_31, .int 0, .int 0, .int 0, .int (-1), .ref a8_36, .ref a8_37, .int 0, .int 0, .int 0, .ref a8_41, .ref a8_42, .int (-1)])), (a8_13, .inl (c8_13, 8, .inl (fun _ => 0))), (a8_11, .inl (c8_11, 12, .inl (upd (fun _ => 0) p0.toNatClampNeg 1))), (a8_7, .inl (c8_7, 120, .inl (upd (fun _ => 0) (((10 * p0) + 0).toNatClampNeg) p1))), (a8_8, .inl (c8_8, 120, .inl (upd (fun _ => 0) (((10 * p0) + 0).toNatClampNeg) p2))), (a8_9, .inl (c8_9, 120, .inl (upd (fun _ => 0) (((10 * p0) + 0).toNatClampNeg) p3))), (a8_10, .inl (c8_10, 120, .inl (upd (fun _ => 0) (((10 * p0) + 0).toNatClampNeg) (-1)))), (a8_19, .inl (c8_19, 12, .inl (upd (fun _ => 0) p0.toNatClampNeg 0)))]) E h (fun w h => List.mem_cons_of_mem _ (List.mem_append_right _ h)) tyX8_ok nmX8 0 rfl rfl 26 (by decide) (List.mem_of_getElem? (i := 7) rfl) rfl (by decide +kernel) (by decide) rfl (Nat.le_of_ble_eq_true rfl) rfl dX8_act_139 (fun H locs h => ?_)
          refine lv_aload_n hx hb dX8_act_142 rfl (lv_at hl 1 rfl) ?_
          refine k_get (v := .ref a8_11) E h (fun w h => List.mem_cons_of_mem _ (List.mem_append_right _ h)) 0 rfl rfl 11 (by decide) (List.mem_of_getElem? (i := 1) rfl) rfl dX8_act_143 ?_
          refine lv_iload_n hx hb dX8_act_146 rfl (lv_at hl 2 rfl) ?_
          refine k_iald (v := 1) E h 2 1 rfl rfl (vp_in_iff.mpr (by omega)) pk_us dX8_act_147 ?_
          have h9 := h
          exact W.iret (v := 1) hx hb hr (fun t ht hW => ⟨⟨1, (), rfl, (by unfold an_act; (repeat' split) <;> first | rfl | contradiction | omega), (by rw [ht]; exact h9.2.1.sub [] rfl), h9.2.2.1.sub [] (by decide) rfl⟩, h.2.2.2.1.F ht⟩) h.2.2.2.1.2.2 dX8_act_148 hlocks
        · skip
          have b_13 := kb1 hw_12 c_13
          refine lv_iload hx hb dX8_act_113 (lv_at hl 6 rfl) ?_
          refine lv_goto (tgt := 119) hx hb dX8_act_115 (by decide) ?_
          refine k_iast (j := ((10 * p0) + 0).toNatClampNeg) (ws' := [(o8, .inr (8, [.ref a8_0, .ref a8_1, .ref a8_2, .ref a8_3, .ref a8_4, .ref a8_5, .int 0, .ref a8_7, .ref a8_8, .ref a8_9, .ref a8_10, .ref a8_11, .int 1, .ref a8_13, .ref a8_14, .ref a8_15, .ref a8_16, .ref a8_17, .ref a8_18, .ref a8_19, .ref a8_20, .ref a8_21, .ref a8_22, .ref a8_23, .ref a8_24, .int 0, .int 0, .ref a8_27, .ref a8_28, .ref a8_29, .ref a8_30, .ref a8_31, .int 0, .int 0, .int 0, .int (-1), .ref a8_36, .ref a8_37, .int 0, .int 0, .int 0, .ref a8_41, .ref a8_42, .int (-1)])), (a8_13, .inl (c8_13, 8, .inl (fun _ => 0))), (a8_11, .inl (c8_11, 12, .inl (fun _ => 0))), (a8_7, .inl (c8_7, 120, .inl (upd (fun _ => 0) (((10 * p0) + 0).toNatClampNeg) p1))), (a8_8, .inl (c8_8, 120, .inl (upd (fun _ => 0) (((10 * p0) + 0).toNatClampNeg) p2))), (a8_9, .inl (c8_9, 120, .inl (upd (fun _ => 0) (((10 * p0) + 0).toNatClampNeg) p3))), (a8_10, .inl (c8_10, 120, .inl (upd (fun _ => 0) (((10 * p0) + 0).toNatClampNeg) p4))), (a8_19, .inl (c8_19, 12, .inl (fun _ => 0)))]) E h 6 5 rfl rfl (vp_in_iff.mpr (by omega)) rfl rfl dX8_act_119 (fun H locs h => ?_)
          refine lv_aload_n hx hb dX8_act_120 rfl (lv_at hl 1 rfl) ?_
          refine k_get (v := .ref a8_11) E h (fun w h => List.mem_cons_of_mem _ (List.mem_append_right _ h)) 0 rfl rfl 11 (by decide) (List.mem_of_getElem? (i := 1) rfl) rfl dX8_act_121 ?_
          refine lv_iload_n hx hb dX8_act_124 rfl (lv_at hl 2 rfl) ?_
          refine lv_dup2_11 hx hb dX8_act_125 rfl rfl ?_
          refine k_iald (v := 0) E h 2 1 rfl rfl (vp_in_iff.mpr (by omega)) rfl dX8_act_126 ?_
          refine lv_iconst (v := 1) hx hb dX8_act_127 (by decide) ?_
          refine lv_iadd hx hb dX8_act_128 ?_
          refine k_topi (y := 1) (by decide) ?_
          refine k_iast (j := p0.toNatClampNeg) (ws' := [(o8, .inr (8, [.ref a8_0, .ref a8_1, .ref a8_2, .ref a8_3, .ref a8_4, .ref a8_5, .int 0, .ref a8_7, .ref a8_8, .ref a8_9, .ref a8_10, .ref a8_11, .int 1, .ref a8_13, .ref a8_14, .ref a8_15, .ref a8_16, .ref a8_17, .ref a8_18, .ref a8_19, .ref a8_20, .ref a8_21, .ref a8_22, .ref a8_23, .ref a8_24, .int 0, .int 0, .ref a8_27, .ref a8_28, .ref a8_29, .ref a8_30, .ref a8_31, .int 0, .int 0, .int 0, .int (-1), .ref a8_36, .ref a8_37, .int 0, .int 0, .int 0, .ref a8_41, .ref a8_42, .int (-1)])), (a8_13, .inl (c8_13, 8, .inl (fun _ => 0))), (a8_11, .inl (c8_11, 12, .inl (upd (fun _ => 0) p0.toNatClampNeg 1))), (a8_7, .inl (c8_7, 120, .inl (upd (fun _ => 0) (((10 * p0) + 0).toNatClampNeg) p1))), (a8_8, .inl (c8_8, 120, .inl (upd (fun _ => 0) (((10 * p0) + 0).toNatClampNeg) p2))), (a8_9, .inl (c8_9, 120, .inl (upd (fun _ => 0) (((10 * p0) + 0).toNatClampNeg) p3))), (a8_10, .inl (c8_10, 120, .inl (upd (fun _ => 0) (((10 * p0) + 0).toNatClampNeg) p4))), (a8_19, .inl (c8_19, 12, .inl (fun _ => 0)))]) E h 2 1 rfl rfl (vp_in_iff.mpr (by omega)) rfl rfl dX8_act_129 (fun H locs h => ?_)
          refine lv_aload_n hx hb dX8_act_130 rfl (lv_at hl 1 rfl) ?_
          refine k_get (v := .ref a8_19) E h (fun w h => List.mem_cons_of_mem _ (List.mem_append_right _ h)) 0 rfl rfl 19 (by decide) (List.mem_of_getElem? (i := 6) rfl) rfl dX8_act_131 ?_
          refine W.eq (g2 := F0 m 134 ls [.ref a8_19]) rfl ?_
          refine lv_iload_n hx hb dX8_act_134 rfl (lv_at hl 2 rfl) ?_
          refine lv_iconst (v := 0) hx hb dX8_act_135 (by decide) ?_
          refine k_zast (j := p0.toNatClampNeg) (y := 0) (ws' := [(o8, .inr (8, [.ref a8_0, .ref a8_1, .ref a8_2, .ref a8_3, .ref a8_4, .ref a8_5, .int 0, .ref a8_7, .ref a8_8, .ref a8_9, .ref a8_10, .ref a8_11, .int 1, .ref a8_13, .ref a8_14, .ref a8_15, .ref a8_16, .ref a8_17, .ref a8_18, .ref a8_19, .ref a8_20, .ref a8_21, .ref a8_22, .ref a8_23, .ref a8_24, .int 0, .int 0, .ref a8_27, .ref a8_28, .ref a8_29, .ref a8_30, .ref a8_31, .int 0, .int 0, .int 0, .int (-1), .ref a8_36, .ref a8_37, .int 0, .int 0, .int 0, .ref a8_41, .ref a8_42, .int (-1)])), (a8_13, .inl (c8_13, 8, .inl (fun _ => 0))), (a8_11, .inl (c8_11, 12, .inl (upd (fun _ => 0) p0.toNatClampNeg 1))), (a8_7, .inl (c8_7, 120, .inl (upd (fun _ => 0) (((10 * p0) + 0).toNatClampNeg) p1))), (a8_8, .inl (c8_8, 120, .inl (upd (fun _ => 0) (((10 * p0) + 0).toNatClampNeg) p2))), (a8_9, .inl (c8_9, 120, .inl (upd (fun _ => 0) (((10 * p0) + 0).toNatClampNeg) p3))), (a8_10, .inl (c8_10, 120, .inl (upd (fun _ => 0) (((10 * p0) + 0).toNatClampNeg) p4))), (a8_19, .inl (c8_19, 12, .inl (upd (fun _ => 0) p0.toNatClampNeg 0)))]) E h 7 6 rfl rfl (vp_in_iff.mpr (by omega)) rfl (by decide) rfl dX8_act_136 (fun H locs h => ?_)
          refine lv_aload_n hx hb dX8_act_137 rfl (lv_at hl 1 rfl) ?_
          refine lv_iconst (v := 0) hx hb dX8_act_138 (by decide) ?_
          refine k_put (v := .int 0) (ty := .boolean) (ws' := [(o8, .inr (8, [.ref a8_0, .ref a8_1, .ref a8_2, .ref a8_3, .ref a8_4, .ref a8_5, .int 0, .ref a8_7, .ref a8_8, .ref a8_9, .ref a8_10, .ref a8_11, .int 1, .ref a8_13, .ref a8_14, .ref a8_15, .ref a8_16, .ref a8_17, .ref a8_18, .ref a8_19, .ref a8_20, .ref a8_21, .ref a8_22, .ref a8_23, .ref a8_24, .int 0, .int 0, .ref a8_27, .ref a8_28, .ref a8_29, .ref a8_30, .ref a8_31, .int 0, .int 0, .int 0, .int (-1), .ref a8_36, .ref a8_37, .int 0, .int 0, .int 0, .ref a8_41, .ref a8_42, .int (-1)])), (a8_13, .inl (c8_13, 8, .inl (fun _ => 0))), (a8_11, .inl (c8_11, 12, .inl (upd (fun _ => 0) p0.toNatClampNeg 1))), (a8_7, .inl (c8_7, 120, .inl (upd (fun _ => 0) (((10 * p0) + 0).toNatClampNeg) p1))), (a8_8, .inl (c8_8, 120, .inl (upd (fun _ => 0) (((10 * p0) + 0).toNatClampNeg) p2))), (a8_9, .inl (c8_9, 120, .inl (upd (fun _ => 0) (((10 * p0) + 0).toNatClampNeg) p3))), (a8_10, .inl (c8_10, 120, .inl (upd (fun _ => 0) (((10 * p0) + 0).toNatClampNeg) p4))), (a8_19, .inl (c8_19, 12, .inl (upd (fun _ => 0) p0.toNatClampNeg 0)))]) E h (fun w h => List.mem_cons_of_mem _ (List.mem_append_right _ h)) tyX8_ok nmX8 0 rfl rfl 26 (by decide) (List.mem_of_getElem? (i := 7) rfl) rfl (by decide +kernel) (by decide) rfl (Nat.le_of_ble_eq_true rfl) rfl dX8_act_139 (fun H locs h => ?_)
          refine lv_aload_n hx hb dX8_act_142 rfl (lv_at hl 1 rfl) ?_
          refine k_get (v := .ref a8_11) E h (fun w h => List.mem_cons_of_mem _ (List.mem_append_right _ h)) 0 rfl rfl 11 (by decide) (List.mem_of_getElem? (i := 1) rfl) rfl dX8_act_143 ?_
          refine lv_iload_n hx hb dX8_act_146 rfl (lv_at hl 2 rfl) ?_
          refine k_iald (v := 1) E h 2 1 rfl rfl (vp_in_iff.mpr (by omega)) pk_us dX8_act_147 ?_
          have h9 := h
          exact W.iret (v := 1) hx hb hr (fun t ht hW => ⟨⟨1, (), rfl, (by unfold an_act; (repeat' split) <;> first | rfl | contradiction | omega), (by rw [ht]; exact h9.2.1.sub [] rfl), h9.2.2.1.sub [] (by decide) rfl⟩, h.2.2.2.1.F ht⟩) h.2.2.2.1.2.2 dX8_act_148 hlocks
    · skip
      have b_4 := kb0 hw_3 c_4
      refine lv_aload_n hx hb dX8_act_26 rfl (lv_at hl 0 rfl) ?_
      refine lv_bipush (v := -6) hx hb dX8_act_27 (by decide) ?_
      refine kc_i (wc := [(o8, .inr (8, [.ref a8_0, .ref a8_1, .ref a8_2, .ref a8_3, .ref a8_4, .ref a8_5, .int 0, .ref a8_7, .ref a8_8, .ref a8_9, .ref a8_10, .ref a8_11, .int 1, .ref a8_13, .ref a8_14, .ref a8_15, .ref a8_16, .ref a8_17, .ref a8_18, .ref a8_19, .ref a8_20, .ref a8_21, .ref a8_22, .ref a8_23, .ref a8_24, .int 0, .int 0, .ref a8_27, .ref a8_28, .ref a8_29, .ref a8_30, .ref a8_31, .int 0, .int 0, .int 0, .int (-1), .ref a8_36, .ref a8_37, .int 0, .int 0, .int 0, .ref a8_41, .ref a8_42, .int (-1)])), (a8_13, .inl (c8_13, 8, .inl (fun _ => 0)))]) (wr := [(a8_11, .inl (c8_11, 12, .inl (fun _ => 0))), (a8_7, .inl (c8_7, 120, .inl (fun _ => 0))), (a8_8, .inl (c8_8, 120, .inl (fun _ => 0))), (a8_9, .inl (c8_9, 120, .inl (fun _ => 0))), (a8_10, .inl (c8_10, 120, .inl (fun _ => 0))), (a8_19, .inl (c8_19, 12, .inl (fun _ => 0)))]) h (va_runV (As := [.int (-6)]) (rest := []) E (c_X8_no l dC dI _ (o8 := o8) (a8_0 := a8_0) (a8_1 := a8_1) (a8_2 := a8_2) (a8_3 := a8_3) (a8_4 := a8_4) (a8_5 := a8_5) (v8_6 := 0) (a8_7 := a8_7) (a8_8 := a8_8) (a8_9 := a8_9) (a8_10 := a8_10) (a8_11 := a8_11) (v8_12 := 1) (a8_13 := a8_13) (a8_14 := a8_14) (a8_15 := a8_15) (a8_16 := a8_16) (a8_17 := a8_17) (a8_18 := a8_18) (a8_19 := a8_19) (a8_20 := a8_20) (a8_21 := a8_21) (a8_22 := a8_22) (a8_23 := a8_23) (a8_24 := a8_24) (v8_25 := 0) (v8_26 := 0) (a8_27 := a8_27) (a8_28 := a8_28) (a8_29 := a8_29) (a8_30 := a8_30) (a8_31 := a8_31) (v8_32 := 0) (v8_33 := 0) (v8_34 := 0) (v8_35 := (-1)) (a8_36 := a8_36) (a8_37 := a8_37) (v8_38 := 0) (v8_39 := 0) (v8_40 := 0) (a8_41 := a8_41) (a8_42 := a8_42) (v8_43 := (-1)) (c8_13 := c8_13) (f8_13 := fun _ => 0) (p0 := (-6))  (hp := (by first | decide | omega))) (cwV 1 E.2.2.2.2 gX8_act_X8_no rfl rfl rfl (by decide +kernel) ⟨Nat.le_of_ble_eq_true rfl, Nat.le_of_ble_eq_true rfl⟩) (kPreV (q0 := 0) (ci := 8) h KX_true (fun _ _ _ => trivial) [0, 1] [0] (by decide) rfl rfl rfl rfl) rfl rfl hl.1 rfl (lv_room (Nat.le_of_ble_eq_true rfl)) dX8_act_29 ⟨Nat.le_of_ble_eq_true rfl, Nat.le_of_ble_eq_true rfl⟩) [0, 1] [2, 3, 4, 5, 6, 7] rfl rfl (by decide) (by decide) (fun r_14 u_14 H locs hw_14 h => ?_)
      have h : KS (dC, dI) A [(a8_11, .inl (c8_11, 12, .inl (fun _ => 0))), (a8_7, .inl (c8_7, 120, .inl (fun _ => 0))), (a8_8, .inl (c8_8, 120, .inl (fun _ => 0))), (a8_9, .inl (c8_9, 120, .inl (fun _ => 0))), (a8_10, .inl (c8_10, 120, .inl (fun _ => 0))), (a8_19, .inl (c8_19, 12, .inl (fun _ => 0))), (o8, .inr (8, [.ref a8_0, .ref a8_1, .ref a8_2, .ref a8_3, .ref a8_4, .ref a8_5, .int 0, .ref a8_7, .ref a8_8, .ref a8_9, .ref a8_10, .ref a8_11, .int 1, .ref a8_13, .ref a8_14, .ref a8_15, .ref a8_16, .ref a8_17, .ref a8_18, .ref a8_19, .ref a8_20, .ref a8_21, .ref a8_22, .ref a8_23, .ref a8_24, .int 0, .int 0, .ref a8_27, .ref a8_28, .ref a8_29, .ref a8_30, .ref a8_31, .int 0, .int 0, .int 0, .int (-1), .ref a8_36, .ref a8_37, .int 0, .int 0, .int 0, .ref a8_41, .ref a8_42, .int (-1)])), (a8_13, .inl (c8_13, 8, .inl (upd (fun _ => 0) (-(-6 : Int32)).toNatClampNeg ((fun _ => 0) (-(-6 : Int32)).toNatClampNeg + 1))))] [(c8_13, .int), (c8_11, .int), (c8_7, .int), (c8_8, .int), (c8_9, .int), (c8_10, .int), (c8_19, .boolean)] s H locs := h
      have hw_14 : r_14 = (-6 : Int32) := by first | exact hw_14 | (simp only [Int32.toInt_toInt64] at hw_14; exact hw_14)
      refine k_topi (y := (-6)) (hw_14) ?_
      refine W.eq (g2 := F0 m 32 ls [.int (-6)]) rfl ?_
      have h9 := h
      exact W.iret (v := (-6)) hx hb hr (fun t ht hW => ⟨⟨(-6), (), rfl, (by unfold an_act; (repeat' split) <;> first | rfl | contradiction | omega), (by rw [ht]; exact h9.2.1.sub [] rfl), h9.2.2.1.sub [] (by decide) rfl⟩, h.2.2.2.1.F ht⟩) h.2.2.2.1.2.2 dX8_act_32 hlocks
  · skip
    have b_2 := kb0 hw_1 c_2
    refine lv_aload_n hx hb dX8_act_7 rfl (lv_at hl 0 rfl) ?_
    refine lv_bipush (v := -3) hx hb dX8_act_8 (by decide) ?_
    refine kc_i (wc := [(o8, .inr (8, [.ref a8_0, .ref a8_1, .ref a8_2, .ref a8_3, .ref a8_4, .ref a8_5, .int 0, .ref a8_7, .ref a8_8, .ref a8_9, .ref a8_10, .ref a8_11, .int 1, .ref a8_13, .ref a8_14, .ref a8_15, .ref a8_16, .ref a8_17, .ref a8_18, .ref a8_19, .ref a8_20, .ref a8_21, .ref a8_22, .ref a8_23, .ref a8_24, .int 0, .int 0, .ref a8_27, .ref a8_28, .ref a8_29, .ref a8_30, .ref a8_31, .int 0, .int 0, .int 0, .int (-1), .ref a8_36, .ref a8_37, .int 0, .int 0, .int 0, .ref a8_41, .ref a8_42, .int (-1)])), (a8_13, .inl (c8_13, 8, .inl (fun _ => 0)))]) (wr := [(a8_11, .inl (c8_11, 12, .inl (fun _ => 0))), (a8_7, .inl (c8_7, 120, .inl (fun _ => 0))), (a8_8, .inl (c8_8, 120, .inl (fun _ => 0))), (a8_9, .inl (c8_9, 120, .inl (fun _ => 0))), (a8_10, .inl (c8_10, 120, .inl (fun _ => 0))), (a8_19, .inl (c8_19, 12, .inl (fun _ => 0)))]) h (va_runV (As := [.int (-3)]) (rest := []) E (c_X8_no l dC dI _ (o8 := o8) (a8_0 := a8_0) (a8_1 := a8_1) (a8_2 := a8_2) (a8_3 := a8_3) (a8_4 := a8_4) (a8_5 := a8_5) (v8_6 := 0) (a8_7 := a8_7) (a8_8 := a8_8) (a8_9 := a8_9) (a8_10 := a8_10) (a8_11 := a8_11) (v8_12 := 1) (a8_13 := a8_13) (a8_14 := a8_14) (a8_15 := a8_15) (a8_16 := a8_16) (a8_17 := a8_17) (a8_18 := a8_18) (a8_19 := a8_19) (a8_20 := a8_20) (a8_21 := a8_21) (a8_22 := a8_22) (a8_23 := a8_23) (a8_24 := a8_24) (v8_25 := 0) (v8_26 := 0) (a8_27 := a8_27) (a8_28 := a8_28) (a8_29 := a8_29) (a8_30 := a8_30) (a8_31 := a8_31) (v8_32 := 0) (v8_33 := 0) (v8_34 := 0) (v8_35 := (-1)) (a8_36 := a8_36) (a8_37 := a8_37) (v8_38 := 0) (v8_39 := 0) (v8_40 := 0) (a8_41 := a8_41) (a8_42 := a8_42) (v8_43 := (-1)) (c8_13 := c8_13) (f8_13 := fun _ => 0) (p0 := (-3))  (hp := (by first | decide | omega))) (cwV 1 E.2.2.2.2 gX8_act_X8_no rfl rfl rfl (by decide +kernel) ⟨Nat.le_of_ble_eq_true rfl, Nat.le_of_ble_eq_true rfl⟩) (kPreV (q0 := 0) (ci := 8) h KX_true (fun _ _ _ => trivial) [0, 1] [0] (by decide) rfl rfl rfl rfl) rfl rfl hl.1 rfl (lv_room (Nat.le_of_ble_eq_true rfl)) dX8_act_10 ⟨Nat.le_of_ble_eq_true rfl, Nat.le_of_ble_eq_true rfl⟩) [0, 1] [2, 3, 4, 5, 6, 7] rfl rfl (by decide) (by decide) (fun r_15 u_15 H locs hw_15 h => ?_)
    have h : KS (dC, dI) A [(a8_11, .inl (c8_11, 12, .inl (fun _ => 0))), (a8_7, .inl (c8_7, 120, .inl (fun _ => 0))), (a8_8, .inl (c8_8, 120, .inl (fun _ => 0))), (a8_9, .inl (c8_9, 120, .inl (fun _ => 0))), (a8_10, .inl (c8_10, 120, .inl (fun _ => 0))), (a8_19, .inl (c8_19, 12, .inl (fun _ => 0))), (o8, .inr (8, [.ref a8_0, .ref a8_1, .ref a8_2, .ref a8_3, .ref a8_4, .ref a8_5, .int 0, .ref a8_7, .ref a8_8, .ref a8_9, .ref a8_10, .ref a8_11, .int 1, .ref a8_13, .ref a8_14, .ref a8_15, .ref a8_16, .ref a8_17, .ref a8_18, .ref a8_19, .ref a8_20, .ref a8_21, .ref a8_22, .ref a8_23, .ref a8_24, .int 0, .int 0, .ref a8_27, .ref a8_28, .ref a8_29, .ref a8_30, .ref a8_31, .int 0, .int 0, .int 0, .int (-1), .ref a8_36, .ref a8_37, .int 0, .int 0, .int 0, .ref a8_41, .ref a8_42, .int (-1)])), (a8_13, .inl (c8_13, 8, .inl (upd (fun _ => 0) (-(-3 : Int32)).toNatClampNeg ((fun _ => 0) (-(-3 : Int32)).toNatClampNeg + 1))))] [(c8_13, .int), (c8_11, .int), (c8_7, .int), (c8_8, .int), (c8_9, .int), (c8_10, .int), (c8_19, .boolean)] s H locs := h
    have hw_15 : r_15 = (-3 : Int32) := by first | exact hw_15 | (simp only [Int32.toInt_toInt64] at hw_15; exact hw_15)
    refine k_topi (y := (-3)) (hw_15) ?_
    refine W.eq (g2 := F0 m 13 ls [.int (-3)]) rfl ?_
    have h9 := h
    exact W.iret (v := (-3)) hx hb hr (fun t ht hW => ⟨⟨(-3), (), rfl, (by unfold an_act; (repeat' split) <;> first | rfl | contradiction | omega), (by rw [ht]; exact h9.2.1.sub [] rfl), h9.2.2.1.sub [] (by decide) rfl⟩, h.2.2.2.1.F ht⟩) h.2.2.2.1.2.2 dX8_act_13 hlocks
