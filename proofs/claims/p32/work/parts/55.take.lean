theorem kdec {x : Int32} (h : -2147483648 < x.toInt) : (x + (-1)).toInt = x.toInt - 1 := by
  have h1 := fb_rng x
  have m1 : (-1 : Int32).toInt = -1 := by decide
  rw [Int32.toInt_add, m1]
  exact fb_bmod (by omega) (by omega)
theorem kA_k {k d x y : Int32} (h : kAct k d x y) : 0 ≤ k.toInt ∧ k.toInt ≤ 10 := h.1
theorem kA_d {k d x y : Int32} (h : kAct k d x y) (h1 : k.toInt ≤ 7) : 0 ≤ d.toInt ∧ d.toInt < 8 := h.2.1.elim (fun z => absurd z (by omega)) id
theorem kA_x {k d x y : Int32} (h : kAct k d x y) (h1 : 1 ≤ k.toInt) (h2 : k.toInt ≤ 8) : 0 ≤ x.toInt ∧ x.toInt < 8 := h.2.2.1.elim (fun z => absurd z (by omega)) (fun z => z.elim (fun z => absurd z (by omega)) id)
theorem kA_f {k d x y : Int32} (h : kAct k d x y) (h1 : 9 ≤ k.toInt) : 0 ≤ x.toInt ∧ x.toInt ≤ 1 := h.2.2.2.1.elim (fun z => absurd z (by omega)) id
theorem kA_y {k d x y : Int32} (h : kAct k d x y) (h1 : 2 ≤ k.toInt) (h2 : k.toInt ≤ 8) (h3 : ¬ k.toInt = 6) (h4 : ¬ k.toInt = 7) : 0 ≤ y.toInt ∧ y.toInt < 8 := h.2.2.2.2.1.elim (fun z => absurd z (by omega)) (fun z => z.elim (fun z => absurd z h3) (fun z => z.elim (fun z => absurd z h4) (fun z => z.elim (fun z => absurd z (by omega)) id)))
set_option maxHeartbeats 4000000 in
set_option maxRecDepth 100000 in
theorem c_X7_isIn (l : Launch) (dC : Nat → ClassId) (dI : Nat → Nat → Nat) (sz : Nat) (p0 : Int32) (p1 : Int32)  : Met l yX7_isIn wsX7_isIn ({ frames := 0, cells := 0, slots := 0, locals := 0 } : Room) (va_Pc [.int p0, .int p1] (KPre (dC, dI) [] [] sz (fun _ => True))) (va_Qi (fun (r : Int32) (u : Unit) => r = if ¬ (p0 >>> (p1 &&& 31)) &&& 1 = 0 then 1 else 0) (KPost (dC, dI) (va_A [] sz) (fun (u : Unit) => [])) (va_A [] sz)) 0 0 (va_A [] sz) := by
  refine kMet (y := yX7_isIn) (wsM := wsX7_isIn) (cc := cX7_isIn) (maxL := 2) (ret := (some .boolean)) (rm := ({ frames := 0, cells := 0, slots := 0, locals := 0 } : Room)) (mc := 0) (ms := 0) (av := [.int p0, .int p1]) (D := (dC, dI)) (wc := []) (tc := []) (sz := sz) (X := fun _ => True) (Qc := fun A => va_Qi (fun (r : Int32) (u : Unit) => r = if ¬ (p0 >>> (p1 &&& 31)) &&& 1 = 0 then 1 else 0) (KPost (dC, dI) A (fun (u : Unit) => [])) A) (by decide) rfl (Nat.le_of_ble_eq_true rfl) ?_
  intro p e s m below meth c A ls E hr hlocks hnm hsz hAe hX h hl
  have hx := E.1
  have hb := E.2.1
  have hl : lv_has ls 2 [(0, .int p0), (1, .int p1)] := hl
  refine lv_iload_n hx hb dX7_isIn_0 rfl (lv_at hl 0 rfl) ?_
  refine lv_iload_n hx hb dX7_isIn_1 rfl (lv_at hl 1 rfl) ?_
  refine lv_ishr hx hb dX7_isIn_2 ?_
  refine lv_iconst (v := 1) hx hb dX7_isIn_3 kic_1 ?_
  refine lv_iand hx hb dX7_isIn_4 ?_
  refine lv_if_eq (tgt := 12) hx hb dX7_isIn_5 rfl (fun c_1 => ?_) (fun c_1 => ?_)
  · skip
    have i_1 : ((p0 >>> (p1 &&& 31)) &&& (1 : Int32)).toInt = 0 := (fa_eq _ _).mp c_1
    refine lv_iconst (v := 0) hx hb dX7_isIn_12 kic_0 ?_
    have hP9 := h.2.1.sub [] rfl
    have hD9 := h.2.2.1.sub (ws' := []) [] (by decide) rfl
    exact W.zret (v := 0) hx hb hr (by decide) (fun t ht hW => ⟨⟨0, (), rfl, (by (repeat' split) <;> first | rfl | contradiction | (exfalso; exact absurd (by assumption) (by assumption))), (by rw [ht]; exact hP9), hD9⟩, h.2.2.2.1.F ht⟩) h.2.2.2.1.2.2 dX7_isIn_13 hlocks
  · skip
    have i_1 : ¬ ((p0 >>> (p1 &&& 31)) &&& (1 : Int32)).toInt = 0 := fun h9 => c_1 ((fa_eq _ _).mpr h9)
    refine lv_iconst (v := 1) hx hb dX7_isIn_8 kic_1 ?_
    refine lv_goto (tgt := 13) hx hb dX7_isIn_9 rfl ?_
    have hP9 := h.2.1.sub [] rfl
    have hD9 := h.2.2.1.sub (ws' := []) [] (by decide) rfl
    exact W.zret (v := 1) hx hb hr (by decide) (fun t ht hW => ⟨⟨1, (), rfl, (by (repeat' split) <;> first | rfl | contradiction | (exfalso; exact absurd (by assumption) (by assumption))), (by rw [ht]; exact hP9), hD9⟩, h.2.2.2.1.F ht⟩) h.2.2.2.1.2.2 dX7_isIn_13 hlocks