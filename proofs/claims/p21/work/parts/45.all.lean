def kTabD : Nat → Int32 := fun j => ([1, 1, 1, 1, 1, 1, 1, 1, 0, 0, 0] : List Int32).getD j 0
def kTabX : Nat → Int32 := fun j => ([2, 1, 1, 1, 1, 1, 1, 1, 1, 4, 4] : List Int32).getD j 0
def kTabY : Nat → Int32 := fun j => ([0, 0, 1, 1, 1, 1, 3, 0, 1, 4, 4] : List Int32).getD j 0
def kTabP : Nat → Int32 := fun j => ([0, 0, 1, 1, 1, 1, 2, 3, 3, 4, 4] : List Int32).getD j 0
def kTabL : Nat → Int32 := fun j => ([0, 0, 0, -31, 0] : List Int32).getD j 0
def kTabM : Nat → Int32 := fun j => ([0, 7, 255, 31, 1] : List Int32).getD j 0
/-- a static table of the class: it holds f, and lies outside A -/
def KT (n : String) (N : Nat) (f : Nat → Int32) (A : Nat → Prop) (U : State) : Prop := ∃ t : Nat, va_Z "StepStore" n "[I" (.ref t) A U U.heap ∧ va_T .int t N (fun j => .int (f j)) A U U.heap
theorem KT.blind {n : String} {N : Nat} {f : Nat → Int32} {A : Nat → Prop} (a : Array Value) (U : State) (g : JFrame) (mk : MethodId) (h : KT n N f A U) : KT n N f A (U.calling g mk a) := by
  obtain ⟨t, hZ, hT⟩ := h
  exact ⟨t, va_Z.moved (u := U) (U := U.calling g mk a) (Vm.Alike.refl U.vm) hZ, va_T.moved (u := U) (U := U.calling g mk a) (Vm.Alike.refl U.vm) hT⟩
theorem KT.call {n : String} {N : Nat} {f : Nat → Int32} {A : Nat → Prop} {D : va_G} {ws wc : va_W} {tys : List (ClassId × FieldType)} {s : State} {H : Heap} {locs : List Loc} (hT : KT n N f A s) (h : KS D A ws tys s H locs) (isC : List Nat) (hC : isC.map (fun i => ws[i]?) = wc.map some) (U : State) (hU : U.heap = H) (hW : s.WarmedH U.vm) : KT n N f (va_A wc H.size) U := by
  have hFc := va_free (wc := wc) h.2.2.1 h.2.2.2.1 h.2.2.2.2 isC hC
  obtain ⟨t, hZ, hT⟩ := hT
  have hZ1 := va_Z.moved hW.alike (va_Z.kept (H1 := H) hZ (fun a ha hA => h.2.2.2.1.2.1 a ha hA))
  have hT1 := va_T.moved hW.alike (va_T.kept (H1 := H) hT (fun a ha hA => h.2.2.2.1.2.1 a ha hA))
  refine ⟨t, ?_, ?_⟩
  · rw [hU]
    obtain ⟨cf, kf, fi, fd, a, cell, h1, h2, h3, h4, h5, h6, h7, h8⟩ := hZ1
    exact ⟨cf, kf, fi, fd, a, cell, h1, h2, h3, h4, h5, h6, h7, fun q => h8 (hFc a q)⟩
  · rw [hU]
    exact va_T.narrow hT1 hFc
theorem KT.of {args : Array Value} {s : State} {n : String} {N : Nat} {f : Nat → Int32} {A : Nat → Prop} (hN : N < 2 ^ 31) (hl : (Cond.laysStatic "StepStore" n "[I").before args s = true) (hini : (Cond.initialized "StepStore").before args s = true) (harr : (Cond.arrayOf (.static "StepStore" n "[I") .int).before args s = true) (hlen : (Cond.eq (.length (.static "StepStore" n "[I")) (.int (Int32.ofNat N))).before args s = true) (hel : ∀ j : Nat, j < N → (Cond.eq (.elem (.static "StepStore" n "[I") (.int (Int32.ofNat j))) (.int (f j))).before args s = true) (hA : ∀ a : Nat, a < s.heap.size → ¬ A a) : KT n N f A s := by
  obtain ⟨t, ht, hT⟩ := va_Tof (ty := .int) (f := fun j => .int (f j)) (A := A) hN harr (va_eqv hlen rfl) (fun j hj => va_eqv (hel j hj) rfl) hA
  exact ⟨t, va_Zof hl hini ht hA, hT⟩
/-- the six tables, and all links among nest mates -/
def KAll (A : Nat → Prop) (U : State) : Prop := KT "SORT_OF_D" 11 kTabD A U ∧ KT "SORT_OF_X" 11 kTabX A U ∧ KT "SORT_OF_Y" 11 kTabY A U ∧ KT "PART_OF_KIND" 11 kTabP A U ∧ KT "LEAST_OF_SORT" 5 kTabL A U ∧ KT "MOST_OF_SORT" 5 kTabM A U ∧ va_Nw (.methodLinkNest RX0 134 yX7_isCell RX7) U ∧ va_Nw (.methodLinkNest RX0 60 yX7_slot RX7) U ∧ va_Nw (.methodLinkNest RX0 96 yX7_isIn RX7) U ∧ va_Nw (.methodLinkNest RX1 83 yX7_isIn RX7) U ∧ va_Nw (.methodLinkNest RX1 87 yX7_slot RX7) U ∧ va_Nw (.methodLinkNest RX3 49 yX7_slot RX7) U ∧ va_Nw (.methodLinkNest RX3 52 yX7_isIn RX7) U ∧ va_Nw (.methodLinkNest RX4 44 yX7_slot RX7) U ∧ va_Nw (.methodLinkNest RX4 69 yX7_isIn RX7) U ∧ va_Nw (.methodLinkNest RX5 33 yX7_slot RX7) U ∧ va_Nw (.methodLinkNest RX6 102 yX7_isIn RX7) U ∧ va_Nw (.methodLinkNest RX6 67 yX7_slot RX7) U ∧ va_Nw (.fieldLinkNest RX5 37 "StepStore" "SORT_OF_D" "[I" RX7) U ∧ va_Nw (.fieldLinkNest RX5 40 "StepStore" "SORT_OF_Y" "[I" RX7) U ∧ va_Nw (.fieldLinkNest RX5 50 "StepStore" "SORT_OF_X" "[I" RX7) U ∧ va_Nw (.fieldLinkNest RX5 53 "StepStore" "PART_OF_KIND" "[I" RX7) U
theorem KAll.blind {A : Nat → Prop} : KX (fun U => KAll A U) := by
  intro a U g mk h
  obtain ⟨h0, h1, h2, h3, h4, h5, h6, h7, h8, h9, h10, h11, h12, h13, h14, h15, h16, h17, h18, h19, h20, h21⟩ := h
  exact ⟨h0.blind a U g mk, h1.blind a U g mk, h2.blind a U g mk, h3.blind a U g mk, h4.blind a U g mk, h5.blind a U g mk, va_Nw.same rfl rfl h6, va_Nw.same rfl rfl h7, va_Nw.same rfl rfl h8, va_Nw.same rfl rfl h9, va_Nw.same rfl rfl h10, va_Nw.same rfl rfl h11, va_Nw.same rfl rfl h12, va_Nw.same rfl rfl h13, va_Nw.same rfl rfl h14, va_Nw.same rfl rfl h15, va_Nw.same rfl rfl h16, va_Nw.same rfl rfl h17, va_Nw.same rfl rfl h18, va_Nw.same rfl rfl h19, va_Nw.same rfl rfl h20, va_Nw.same rfl rfl h21⟩
theorem KAll.call {A : Nat → Prop} {D : va_G} {ws wc : va_W} {tys : List (ClassId × FieldType)} {s : State} {H : Heap} {locs : List Loc} (k : KAll A s) (h : KS D A ws tys s H locs) (isC : List Nat) (hC : isC.map (fun i => ws[i]?) = wc.map some) : ∀ U : State, U.heap = H → s.WarmedH U.vm → KAll (va_A wc H.size) U := by
  intro U hU hW
  obtain ⟨h0, h1, h2, h3, h4, h5, h6, h7, h8, h9, h10, h11, h12, h13, h14, h15, h16, h17, h18, h19, h20, h21⟩ := k
  exact ⟨h0.call h isC hC U hU hW, h1.call h isC hC U hU hW, h2.call h isC hC U hU hW, h3.call h isC hC U hU hW, h4.call h isC hC U hU hW, h5.call h isC hC U hU hW, va_Nw.warmM hW h6, va_Nw.warmM hW h7, va_Nw.warmM hW h8, va_Nw.warmM hW h9, va_Nw.warmM hW h10, va_Nw.warmM hW h11, va_Nw.warmM hW h12, va_Nw.warmM hW h13, va_Nw.warmM hW h14, va_Nw.warmM hW h15, va_Nw.warmM hW h16, va_Nw.warmM hW h17, va_Nw.warmF hW h18, va_Nw.warmF hW h19, va_Nw.warmF hW h20, va_Nw.warmF hW h21⟩
theorem kl2i {x : Int64} (h0 : 0 ≤ x.toInt) (h1 : x.toInt < 2147483648) : x.toInt32.toInt = x.toInt := by
  rw [Int64.toInt_toInt32]
  exact fb_bmod (by omega) (by omega)
/-- places: every one is a place of the inside -/
def IP (f : Nat → Int32) : Prop := ∀ k, k < 30 → 0 ≤ (f k).toInt ∧ (f k).toInt < 74
theorem IP_upd {f : Nat → Int32} {j : Nat} {x : Int32} (h : IP f) (hx : 0 ≤ x.toInt ∧ x.toInt < 74) : IP (upd f j x) := by
  intro k hk
  unfold upd
  split
  · exact hx
  · exact h k hk
/-- remembered numbers are numbers of the inside -/
def IO (f : Nat → Int64) : Prop := ∀ k, k < 30 → 0 ≤ (f k).toInt ∧ (f k).toInt < 4294967296
theorem IO_upd {f : Nat → Int64} {j : Nat} {x : Int64} (h : IO f) (hx : 0 ≤ x.toInt ∧ x.toInt < 4294967296) : IO (vp_updL f j x) := by
  intro k hk
  unfold vp_updL
  split
  · exact hx
  · exact h k hk
theorem IN_upd {f : Nat → Int64} {j : Nat} {x : Int64} (h : IN f) (hx : 0 ≤ x.toInt ∧ x.toInt < 4294967296) : IN (vp_updL f j x) := by
  intro k hk
  unfold vp_updL
  split
  · exact hx
  · exact h k hk
theorem IN_at {f : Nat → Int64} {x : Int32} (h : IN f) (h0 : 0 ≤ x.toInt) (h1 : x.toInt < 74) : 0 ≤ (f x.toNatClampNeg).toInt ∧ (f x.toNatClampNeg).toInt < 4294967296 := h _ (by unfold Int32.toNatClampNeg; omega)
theorem IP_at {f : Nat → Int32} {x : Int32} (h : IP f) (h0 : 0 ≤ x.toInt) (h1 : x.toInt < 30) : 0 ≤ (f x.toNatClampNeg).toInt ∧ (f x.toNatClampNeg).toInt < 74 := h _ (by unfold Int32.toNatClampNeg; omega)
theorem IO_at {f : Nat → Int64} {x : Int32} (h : IO f) (h0 : 0 ≤ x.toInt) (h1 : x.toInt < 30) : 0 ≤ (f x.toNatClampNeg).toInt ∧ (f x.toNatClampNeg).toInt < 4294967296 := h _ (by unfold Int32.toNatClampNeg; omega)
/-- an ACT as a row holds it: what is used as a place is one -/
def kAct (k d x y : Int32) : Prop := (0 ≤ k.toInt ∧ k.toInt ≤ 10) ∧ (7 < k.toInt ∨ (0 ≤ d.toInt ∧ d.toInt < 8)) ∧ (k.toInt = 0 ∨ 8 < k.toInt ∨ (0 ≤ x.toInt ∧ x.toInt < 8)) ∧ (k.toInt < 9 ∨ (0 ≤ x.toInt ∧ x.toInt ≤ 1)) ∧ (k.toInt < 2 ∨ k.toInt = 6 ∨ k.toInt = 7 ∨ 8 < k.toInt ∨ (0 ≤ y.toInt ∧ y.toInt < 8)) ∧ (¬ k.toInt = 6 ∨ (-31 ≤ y.toInt ∧ y.toInt ≤ 31))
def IR (k d x y : Nat → Int32) : Prop := ∀ j, j < 120 → kAct (k j) (d j) (x j) (y j)
theorem IR_at {k d x y : Nat → Int32} {j : Int32} (h : IR k d x y) (h0 : 0 ≤ j.toInt) (h1 : j.toInt < 120) : kAct (k j.toNatClampNeg) (d j.toNatClampNeg) (x j.toNatClampNeg) (y j.toNatClampNeg) := h _ (by unfold Int32.toNatClampNeg; omega)
