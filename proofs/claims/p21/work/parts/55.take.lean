theorem kdec {x : Int32} (h : -2147483648 < x.toInt) : (x + (-1)).toInt = x.toInt - 1 := by
  have h1 := fb_rng x
  have m1 : (-1 : Int32).toInt = -1 := by decide
  rw [Int32.toInt_add, m1]
  exact fb_bmod (by omega) (by omega)
theorem kA_k {k d x y : Int32} (h : kAct k d x y) : 0 ≤ k.toInt ∧ k.toInt ≤ 10 := h.1
theorem kA_d {k d x y : Int32} (h : kAct k d x y) (h1 : k.toInt ≤ 7) : 0 ≤ d.toInt ∧ d.toInt < 8 := h.2.1.elim (fun z => absurd z (by omega)) id
theorem kA_x {k d x y : Int32} (h : kAct k d x y) (h1 : 1 ≤ k.toInt) (h2 : k.toInt ≤ 8) : 0 ≤ x.toInt ∧ x.toInt < 8 := h.2.2.1.elim (fun z => absurd z (by omega)) (fun z => z.elim (fun z => absurd z (by omega)) id)
theorem kA_f {k d x y : Int32} (h : kAct k d x y) (h1 : 9 ≤ k.toInt) : 0 ≤ x.toInt ∧ x.toInt ≤ 1 := h.2.2.2.1.elim (fun z => absurd z (by omega)) id
theorem kA_y {k d x y : Int32} (h : kAct k d x y) (h1 : 2 ≤ k.toInt) (h2 : k.toInt ≤ 8) (h3 : ¬ k.toInt = 6) (h4 : ¬ k.toInt = 7) : 0 ≤ y.toInt ∧ y.toInt < 8 := h.2.2.2.2.1.elim (fun z => absurd z (by omega)) (fun z => z.elim (fun z => absurd z h3) (fun z => z.elim (fun z => absurd z h4) (fun z => z.elim (fun z => absurd z (by omega)) id)))
set_option maxHeartbeats 4000000 in
set_option maxRecDepth 100000 in
theorem c_X7_isIn (l : Launch) (dC : Nat → ClassId) (dI : Nat → Nat → Nat) (sz : Nat) (p0 : Int32) (p1 : Int32)  : Met l yX7_isIn wsX7_isIn ({ frames := 0, cells := 0, slots := 0, locals := 0 } : Room) (va_Pc [.int p0, .int p1] (KPre (dC, dI) [] [] sz (fun _ => True))) (va_Qi (fun (r : Int32) (u : Unit) => r = if ¬ (p0 >>> (p1 &&& 31)) &&& 1 = 0 then 1 else 0) (KPost (dC, dI) (va_A [] sz) (fun (u : Unit) => [])) (va_A [] sz)) 0 0 (va_A [] sz) := by
  refine kMet (y := yX7_isIn) (wsM := wsX7_isIn) (cc := cX7_isIn) (maxL := 2) (ret := (some .boolean)) (rm := ({ frames := 0, cells := 0, slots := 0, locals := 0 } : Room)) (mc := 0) (ms := 0) (av := [.int p0, .int p1]) (D := (dC, dI)) (wc := []) (tc := []) (sz := sz) (X := fun _ => True) (Qc := fun A => va_Qi (fun (r : Int32) (u : Unit) => r = if ¬ (p0 >>> (p1 &&& 31)) &&& 1 = 0 then 1 else 0) (KPost (dC, dI) A (fun (u : Unit) => [])) A) (by decide) rfl (Nat.le_of_ble_eq_true rfl) ?_
  intro p e s m below meth c A ls E hr hlocks hnm hsz hAe hX h hl
  have hx := E.1
  have hb := E.2.1
  have hl : lv_has ls 2 [(0, .int p0), (1, .int p1)] := hl
  refine lv_iload_n hx hb dX7_isIn_0 rfl (lv_at hl 0 rfl) ?_
  refine lv_iload_n hx hb dX7_isIn_1 rfl (lv_at hl 1 rfl) ?_
  refine lv_ishr hx hb dX7_isIn_2 ?_
  refine lv_iconst (v := 1) hx hb dX7_isIn_3 kic_1 ?_
  refine lv_iand hx hb dX7_isIn_4 ?_
  refine lv_if_eq (tgt := 12) hx hb dX7_isIn_5 rfl (fun c_1 => ?_) (fun c_1 => ?_)
  · skip
    have i_1 : ((p0 >>> (p1 &&& 31)) &&& (1 : Int32)).toInt = 0 := (fa_eq _ _).mp c_1
    refine lv_iconst (v := 0) hx hb dX7_isIn_12 kic_0 ?_
    have hP9 := h.2.1.sub [] rfl
    have hD9 := h.2.2.1.sub (ws' := []) [] (by decide) rfl
    exact W.zret (v := 0) hx hb hr (by decide) (fun t ht hW => ⟨⟨0, (), rfl, (by (repeat' split) <;> first | rfl | contradiction | (exfalso; exact absurd (by assumption) (by assumption))), (by rw [ht]; exact hP9), hD9⟩, h.2.2.2.1.F ht⟩) h.2.2.2.1.2.2 dX7_isIn_13 hlocks
  · skip
    have i_1 : ¬ ((p0 >>> (p1 &&& 31)) &&& (1 : Int32)).toInt = 0 := fun h9 => c_1 ((fa_eq _ _).mpr h9)
    refine lv_iconst (v := 1) hx hb dX7_isIn_8 kic_1 ?_
    refine lv_goto (tgt := 13) hx hb dX7_isIn_9 rfl ?_
    have hP9 := h.2.1.sub [] rfl
    have hD9 := h.2.2.1.sub (ws' := []) [] (by decide) rfl
    exact W.zret (v := 1) hx hb hr (by decide) (fun t ht hW => ⟨⟨1, (), rfl, (by (repeat' split) <;> first | rfl | contradiction | (exfalso; exact absurd (by assumption) (by assumption))), (by rw [ht]; exact hP9), hD9⟩, h.2.2.2.1.F ht⟩) h.2.2.2.1.2.2 dX7_isIn_13 hlocks
set_option maxHeartbeats 4000000 in
set_option maxRecDepth 100000 in
theorem c_X0_take (l : Launch) (dC : Nat → ClassId) (dI : Nat → Nat → Nat) (sz : Nat) (o0 : Nat) (v0_0 : Int32) (v0_1 : Int32) (v0_2 : Int32) (o2 : Nat) (o5 : Nat) (o3 : Nat) (a0_6 : Nat) (a0_7 : Nat) (v0_8 : Int32) (a0_9 : Nat) (a5_0 : Nat) (a5_1 : Nat) (a5_2 : Nat) (a5_3 : Nat) (a5_4 : Nat) (a5_5 : Nat) (a5_6 : Nat) (c5_1 : ClassId) (f5_1 : Nat → Int32) (c5_2 : ClassId) (f5_2 : Nat → Int32) (c5_3 : ClassId) (f5_3 : Nat → Int32) (c5_4 : ClassId) (f5_4 : Nat → Int32) (a2_0 : Nat) (a2_1 : Nat) (a2_2 : Nat) (a2_3 : Nat) (v2_4 : Int32) (c2_0 : ClassId) (f2_0 : Nat → Int32) (c2_1 : ClassId) (f2_1 : Nat → Int64) (c0_6 : ClassId) (f0_6 : Nat → Int32) (c0_7 : ClassId) (f0_7 : Nat → Int64) (p0 : Int32) (hQ : IP f0_6) (hw : 0 ≤ v0_8.toInt ∧ v0_8.toInt ≤ 30) (hR : IR f5_1 f5_2 f5_3 f5_4) (hp : 0 ≤ p0.toInt ∧ p0.toInt < 120) : Met l yX0_take wsX0_take ({ frames := 2, cells := 0, slots := 0, locals := 53 } : Room) (va_Pc [.ref o0, .int p0] (KPre (dC, dI) [(o0, .inr (0, [.int v0_0, .int v0_1, .int v0_2, .ref o2, .ref o5, .ref o3, .ref a0_6, .ref a0_7, .int v0_8, .ref a0_9])), (o5, .inr (5, [.ref a5_0, .ref a5_1, .ref a5_2, .ref a5_3, .ref a5_4, .ref a5_5, .ref a5_6])), (a5_1, .inl (c5_1, 120, .inl f5_1)), (a5_2, .inl (c5_2, 120, .inl f5_2)), (a5_3, .inl (c5_3, 120, .inl f5_3)), (a5_4, .inl (c5_4, 120, .inl f5_4)), (o2, .inr (2, [.ref a2_0, .ref a2_1, .ref a2_2, .ref a2_3, .int v2_4])), (a2_0, .inl (c2_0, 8, .inl f2_0)), (a2_1, .inl (c2_1, 74, .inr (.inl f2_1))), (a0_6, .inl (c0_6, 30, .inl f0_6)), (a0_7, .inl (c0_7, 30, .inr (.inl f0_7)))] [(c5_1, .int), (c5_2, .int), (c5_3, .int), (c5_4, .int), (c2_0, .int), (c2_1, .long), (c0_6, .int), (c0_7, .long)] sz (fun U => KAll (va_A [(o0, .inr (0, [.int v0_0, .int v0_1, .int v0_2, .ref o2, .ref o5, .ref o3, .ref a0_6, .ref a0_7, .int v0_8, .ref a0_9])), (o5, .inr (5, [.ref a5_0, .ref a5_1, .ref a5_2, .ref a5_3, .ref a5_4, .ref a5_5, .ref a5_6])), (a5_1, .inl (c5_1, 120, .inl f5_1)), (a5_2, .inl (c5_2, 120, .inl f5_2)), (a5_3, .inl (c5_3, 120, .inl f5_3)), (a5_4, .inl (c5_4, 120, .inl f5_4)), (o2, .inr (2, [.ref a2_0, .ref a2_1, .ref a2_2, .ref a2_3, .int v2_4])), (a2_0, .inl (c2_0, 8, .inl f2_0)), (a2_1, .inl (c2_1, 74, .inr (.inl f2_1))), (a0_6, .inl (c0_6, 30, .inl f0_6)), (a0_7, .inl (c0_7, 30, .inr (.inl f0_7)))] sz) U))) (va_Qi (fun (r : Int32) (u : Int32 × (Nat → Int32) × (Nat → Int64)) => IP u.2.1 ∧ (0 ≤ u.1.toInt ∧ u.1.toInt ≤ 30)) (KPost (dC, dI) (va_A [(o0, .inr (0, [.int v0_0, .int v0_1, .int v0_2, .ref o2, .ref o5, .ref o3, .ref a0_6, .ref a0_7, .int v0_8, .ref a0_9])), (o5, .inr (5, [.ref a5_0, .ref a5_1, .ref a5_2, .ref a5_3, .ref a5_4, .ref a5_5, .ref a5_6])), (a5_1, .inl (c5_1, 120, .inl f5_1)), (a5_2, .inl (c5_2, 120, .inl f5_2)), (a5_3, .inl (c5_3, 120, .inl f5_3)), (a5_4, .inl (c5_4, 120, .inl f5_4)), (o2, .inr (2, [.ref a2_0, .ref a2_1, .ref a2_2, .ref a2_3, .int v2_4])), (a2_0, .inl (c2_0, 8, .inl f2_0)), (a2_1, .inl (c2_1, 74, .inr (.inl f2_1))), (a0_6, .inl (c0_6, 30, .inl f0_6)), (a0_7, .inl (c0_7, 30, .inr (.inl f0_7)))] sz) (fun (u : Int32 × (Nat → Int32) × (Nat → Int64)) => [(o0, .inr (0, [.int v0_0, .int v0_1, .int v0_2, .ref o2, .ref o5, .ref o3, .ref a0_6, .ref a0_7, .int u.1, .ref a0_9])), (o5, .inr (5, [.ref a5_0, .ref a5_1, .ref a5_2, .ref a5_3, .ref a5_4, .ref a5_5, .ref a5_6])), (a5_1, .inl (c5_1, 120, .inl f5_1)), (a5_2, .inl (c5_2, 120, .inl f5_2)), (a5_3, .inl (c5_3, 120, .inl f5_3)), (a5_4, .inl (c5_4, 120, .inl f5_4)), (o2, .inr (2, [.ref a2_0, .ref a2_1, .ref a2_2, .ref a2_3, .int v2_4])), (a2_0, .inl (c2_0, 8, .inl f2_0)), (a2_1, .inl (c2_1, 74, .inr (.inl f2_1))), (a0_6, .inl (c0_6, 30, .inl u.2.1)), (a0_7, .inl (c0_7, 30, .inr (.inl u.2.2)))])) (va_A [(o0, .inr (0, [.int v0_0, .int v0_1, .int v0_2, .ref o2, .ref o5, .ref o3, .ref a0_6, .ref a0_7, .int v0_8, .ref a0_9])), (o5, .inr (5, [.ref a5_0, .ref a5_1, .ref a5_2, .ref a5_3, .ref a5_4, .ref a5_5, .ref a5_6])), (a5_1, .inl (c5_1, 120, .inl f5_1)), (a5_2, .inl (c5_2, 120, .inl f5_2)), (a5_3, .inl (c5_3, 120, .inl f5_3)), (a5_4, .inl (c5_4, 120, .inl f5_4)), (o2, .inr (2, [.ref a2_0, .ref a2_1, .ref a2_2, .ref a2_3, .int v2_4])), (a2_0, .inl (c2_0, 8, .inl f2_0)), (a2_1, .inl (c2_1, 74, .inr (.inl f2_1))), (a0_6, .inl (c0_6, 30, .inl f0_6)), (a0_7, .inl (c0_7, 30, .inr (.inl f0_7)))] sz)) 0 0 (va_A [(o0, .inr (0, [.int v0_0, .int v0_1, .int v0_2, .ref o2, .ref o5, .ref o3, .ref a0_6, .ref a0_7, .int v0_8, .ref a0_9])), (o5, .inr (5, [.ref a5_0, .ref a5_1, .ref a5_2, .ref a5_3, .ref a5_4, .ref a5_5, .ref a5_6])), (a5_1, .inl (c5_1, 120, .inl f5_1)), (a5_2, .inl (c5_2, 120, .inl f5_2)), (a5_3, .inl (c5_3, 120, .inl f5_3)), (a5_4, .inl (c5_4, 120, .inl f5_4)), (o2, .inr (2, [.ref a2_0, .ref a2_1, .ref a2_2, .ref a2_3, .int v2_4])), (a2_0, .inl (c2_0, 8, .inl f2_0)), (a2_1, .inl (c2_1, 74, .inr (.inl f2_1))), (a0_6, .inl (c0_6, 30, .inl f0_6)), (a0_7, .inl (c0_7, 30, .inr (.inl f0_7)))] sz) := by
  refine kMet (y := yX0_take) (wsM := wsX0_take) (cc := cX0_take) (maxL := 5) (ret := (some .int)) (rm := ({ frames := 2, cells := 0, slots := 0, locals := 53 } : Room)) (mc := 0) (ms := 0) (av := [.ref o0, .int p0]) (D := (dC, dI)) (wc := [(o0, .inr (0, [.int v0_0, .int v0_1, .int v0_2, .ref o2, .ref o5, .ref o3, .ref a0_6, .ref a0_7, .int v0_8, .ref a0_9])), (o5, .inr (5, [.ref a5_0, .ref a5_1, .ref a5_2, .ref a5_3, .ref a5_4, .ref a5_5, .ref a5_6])), (a5_1, .inl (c5_1, 120, .inl f5_1)), (a5_2, .inl (c5_2, 120, .inl f5_2)), (a5_3, .inl (c5_3, 120, .inl f5_3)), (a5_4, .inl (c5_4, 120, .inl f5_4)), (o2, .inr (2, [.ref a2_0, .ref a2_1, .ref a2_2, .ref a2_3, .int v2_4])), (a2_0, .inl (c2_0, 8, .inl f2_0)), (a2_1, .inl (c2_1, 74, .inr (.inl f2_1))), (a0_6, .inl (c0_6, 30, .inl f0_6)), (a0_7, .inl (c0_7, 30, .inr (.inl f0_7)))]) (tc := [(c5_1, .int), (c5_2, .int), (c5_3, .int), (c5_4, .int), (c2_0, .int), (c2_1, .long), (c0_6, .int), (c0_7, .long)]) (sz := sz) (X := fun U => KAll (va_A [(o0, .inr (0, [.int v0_0, .int v0_1, .int v0_2, .ref o2, .ref o5, .ref o3, .ref a0_6, .ref a0_7, .int v0_8, .ref a0_9])), (o5, .inr (5, [.ref a5_0, .ref a5_1, .ref a5_2, .ref a5_3, .ref a5_4, .ref a5_5, .ref a5_6])), (a5_1, .inl (c5_1, 120, .inl f5_1)), (a5_2, .inl (c5_2, 120, .inl f5_2)), (a5_3, .inl (c5_3, 120, .inl f5_3)), (a5_4, .inl (c5_4, 120, .inl f5_4)), (o2, .inr (2, [.ref a2_0, .ref a2_1, .ref a2_2, .ref a2_3, .int v2_4])), (a2_0, .inl (c2_0, 8, .inl f2_0)), (a2_1, .inl (c2_1, 74, .inr (.inl f2_1))), (a0_6, .inl (c0_6, 30, .inl f0_6)), (a0_7, .inl (c0_7, 30, .inr (.inl f0_7)))] sz) U) (Qc := fun A => va_Qi (fun (r : Int32) (u : Int32 × (Nat → Int32) × (Nat → Int64)) => IP u.2.1 ∧ (0 ≤ u.1.toInt ∧ u.1.toInt ≤ 30)) (KPost (dC, dI) A (fun (u : Int32 × (Nat → Int32) × (Nat → Int64)) => [(o0, .inr (0, [.int v0_0, .int v0_1, .int v0_2, .ref o2, .ref o5, .ref o3, .ref a0_6, .ref a0_7, .int u.1, .ref a0_9])), (o5, .inr (5, [.ref a5_0, .ref a5_1, .ref a5_2, .ref a5_3, .ref a5_4, .ref a5_5, .ref a5_6])), (a5_1, .inl (c5_1, 120, .inl f5_1)), (a5_2, .inl (c5_2, 120, .inl f5_2)), (a5_3, .inl (c5_3, 120, .inl f5_3)), (a5_4, .inl (c5_4, 120, .inl f5_4)), (o2, .inr (2, [.ref a2_0, .ref a2_1, .ref a2_2, .ref a2_3, .int v2_4])), (a2_0, .inl (c2_0, 8, .inl f2_0)), (a2_1, .inl (c2_1, 74, .inr (.inl f2_1))), (a0_6, .inl (c0_6, 30, .inl u.2.1)), (a0_7, .inl (c0_7, 30, .inr (.inl u.2.2)))])) A) (by decide) rfl (Nat.le_of_ble_eq_true rfl) ?_
  intro p e s m below meth c A ls E hr hlocks hnm hsz hAe hX h hl
  have hx := E.1
  have hb := E.2.1
  have hl : lv_has ls 5 [(0, .ref o0), (1, .int p0)] := hl
  have hX : KAll A s := by rw [← hAe]; exact hX
  obtain ⟨⟨tD, hZD, hTD⟩, ⟨tX, hZX, hTX⟩, ⟨tY, hZY, hTY⟩, ⟨tP, hZP, hTP⟩, ⟨tL, hZL, hTL⟩, ⟨tM, hZM, hTM⟩, hN0_134, hN0_60, hN0_96, hN1_83, hN1_87, hN3_49, hN3_52, hN4_44, hN4_69, hN5_33, hN6_102, hN6_67, hF37, hF40, hF50, hF53⟩ := id hX
  have hA9 := IR_at hR hp.1 hp.2
  have hk9 := kA_k hA9
  refine lv_aload_n hx hb dX0_take_0 rfl (lv_at hl 0 rfl) ?_
  refine k_get (v := .ref o5) E h (fun w h => List.mem_cons_of_mem _ (List.mem_append_left _ (List.mem_append_left _ (List.mem_append_right _ h)))) 0 rfl rfl 4 (Nat.le_of_ble_eq_true rfl) (List.mem_of_getElem? (i := 1) rfl) rfl dX0_take_1 ?_
  refine k_get (v := .ref a5_2) E h (fun w h => List.mem_cons_of_mem _ (List.mem_append_left _ (List.mem_append_right _ h))) 1 rfl rfl 2 (Nat.le_of_ble_eq_true rfl) (List.mem_of_getElem? (i := 2) rfl) rfl dX0_take_4 ?_
  refine lv_iload_n hx hb dX0_take_7 rfl (lv_at hl 1 rfl) ?_
  refine k_iald (v := f5_2 p0.toNatClampNeg) E h 3 1 rfl rfl (vp_in_iff.mpr (by omega)) rfl dX0_take_8 ?_
  refine lv_istore_n (lv' := [(2, .int (f5_2 p0.toNatClampNeg)), (0, .ref o0), (1, .int p0)]) hx hb dX0_take_9 rfl hl (Nat.le_of_ble_eq_true rfl) rfl (fun ls hl => ?_)
  refine lv_aload_n hx hb dX0_take_10 rfl (lv_at hl 1 rfl) ?_
  refine k_get (v := .ref o5) E h (fun w h => List.mem_cons_of_mem _ (List.mem_append_left _ (List.mem_append_left _ (List.mem_append_right _ h)))) 0 rfl rfl 4 (Nat.le_of_ble_eq_true rfl) (List.mem_of_getElem? (i := 1) rfl) rfl dX0_take_11 ?_
  refine k_get (v := .ref a5_3) E h (fun w h => List.mem_cons_of_mem _ (List.mem_append_left _ (List.mem_append_right _ h))) 1 rfl rfl 3 (Nat.le_of_ble_eq_true rfl) (List.mem_of_getElem? (i := 3) rfl) rfl dX0_take_14 ?_
  refine lv_iload_n hx hb dX0_take_17 rfl (lv_at hl 2 rfl) ?_
  refine k_iald (v := f5_3 p0.toNatClampNeg) E h 4 2 rfl rfl (vp_in_iff.mpr (by omega)) rfl dX0_take_18 ?_
  refine W.eq (g2 := F0 m 19 ls [.int (f5_3 p0.toNatClampNeg)]) rfl ?_
  refine lv_istore_n (lv' := [(3, .int (f5_3 p0.toNatClampNeg)), (2, .int (f5_2 p0.toNatClampNeg)), (0, .ref o0), (1, .int p0)]) hx hb dX0_take_19 rfl hl (Nat.le_of_ble_eq_true rfl) rfl (fun ls hl => ?_)
  refine lv_aload_n hx hb dX0_take_20 rfl (lv_at hl 2 rfl) ?_
  refine k_get (v := .ref o5) E h (fun w h => List.mem_cons_of_mem _ (List.mem_append_left _ (List.mem_append_left _ (List.mem_append_right _ h)))) 0 rfl rfl 4 (Nat.le_of_ble_eq_true rfl) (List.mem_of_getElem? (i := 1) rfl) rfl dX0_take_21 ?_
  refine k_get (v := .ref a5_4) E h (fun w h => List.mem_cons_of_mem _ (List.mem_append_left _ (List.mem_append_right _ h))) 1 rfl rfl 4 (Nat.le_of_ble_eq_true rfl) (List.mem_of_getElem? (i := 4) rfl) rfl dX0_take_24 ?_
  refine lv_iload_n hx hb dX0_take_27 rfl (lv_at hl 3 rfl) ?_
  refine k_iald (v := f5_4 p0.toNatClampNeg) E h 5 3 rfl rfl (vp_in_iff.mpr (by omega)) rfl dX0_take_28 ?_
  refine lv_istore (lv' := [(4, .int (f5_4 p0.toNatClampNeg)), (3, .int (f5_3 p0.toNatClampNeg)), (2, .int (f5_2 p0.toNatClampNeg)), (0, .ref o0), (1, .int p0)]) hx hb dX0_take_29 hl (Nat.le_of_ble_eq_true rfl) rfl (fun ls hl => ?_)
  refine lv_aload_n hx hb dX0_take_31 rfl (lv_at hl 3 rfl) ?_
  refine k_get (v := .ref o5) E h (fun w h => List.mem_cons_of_mem _ (List.mem_append_left _ (List.mem_append_left _ (List.mem_append_right _ h)))) 0 rfl rfl 4 (Nat.le_of_ble_eq_true rfl) (List.mem_of_getElem? (i := 1) rfl) rfl dX0_take_32 ?_
  refine k_get (v := .ref a5_1) E h (fun w h => List.mem_cons_of_mem _ (List.mem_append_left _ (List.mem_append_right _ h))) 1 rfl rfl 1 (Nat.le_of_ble_eq_true rfl) (List.mem_of_getElem? (i := 5) rfl) rfl dX0_take_35 ?_
  refine lv_iload_n hx hb dX0_take_38 rfl (lv_at hl 4 rfl) ?_
  refine k_iald (v := f5_1 p0.toNatClampNeg) E h 2 0 rfl rfl (vp_in_iff.mpr (by omega)) rfl dX0_take_39 ?_
  refine W.eq (g2 := F0 m 40 ls [.int (f5_1 p0.toNatClampNeg)]) rfl ?_
  by_cases s_1 : f5_1 p0.toNatClampNeg = 0
  · refine k_topi (y := 0) s_1 ?_
    have i_1 : (f5_1 p0.toNatClampNeg).toInt = 0 := (fa_eq _ _).mp s_1
    refine lv_tableIn (off := 60) (tgt := 100) hx hb dX0_take_40 (by decide) (by decide) rfl (by decide) ?_
    have hd9 := kA_d hA9 (by omega)
    refine lv_aload_n hx hb dX0_take_100 rfl (lv_at hl 3 rfl) ?_
    refine lv_iload_n hx hb dX0_take_101 rfl (lv_at hl 2 rfl) ?_
    refine lv_iload_n hx hb dX0_take_102 rfl (lv_at hl 1 rfl) ?_
    refine lv_i2l (v := (f5_3 p0.toNatClampNeg).toInt64) hx hb dX0_take_103 rfl ?_
    refine kc_v (wc := [(o0, .inr (0, [.int v0_0, .int v0_1, .int v0_2, .ref o2, .ref o5, .ref o3, .ref a0_6, .ref a0_7, .int v0_8, .ref a0_9])), (a0_6, .inl (c0_6, 30, .inl f0_6)), (a0_7, .inl (c0_7, 30, .inr (.inl f0_7)))]) (wr := [(o5, .inr (5, [.ref a5_0, .ref a5_1, .ref a5_2, .ref a5_3, .ref a5_4, .ref a5_5, .ref a5_6])), (a5_1, .inl (c5_1, 120, .inl f5_1)), (a5_2, .inl (c5_2, 120, .inl f5_2)), (a5_3, .inl (c5_3, 120, .inl f5_3)), (a5_4, .inl (c5_4, 120, .inl f5_4)), (o2, .inr (2, [.ref a2_0, .ref a2_1, .ref a2_2, .ref a2_3, .int v2_4])), (a2_0, .inl (c2_0, 8, .inl f2_0)), (a2_1, .inl (c2_1, 74, .inr (.inl f2_1)))]) h (va_runV (As := [.int (f5_2 p0.toNatClampNeg), .long ((f5_3 p0.toNatClampNeg).toInt64)]) (rest := []) E (c_X0_putLater l dC dI _ (o0 := o0) (v0_0 := v0_0) (v0_1 := v0_1) (v0_2 := v0_2) (o2 := o2) (o5 := o5) (o3 := o3) (a0_6 := a0_6) (a0_7 := a0_7) (v0_8 := v0_8) (a0_9 := a0_9) (c0_6 := c0_6) (f0_6 := f0_6) (c0_7 := c0_7) (f0_7 := f0_7) (p0 := f5_2 p0.toNatClampNeg) (p1 := (f5_3 p0.toNatClampNeg).toInt64)  (hQ := hQ) (hw := hw) (hp := (by first | decide | omega))) (cwV 2 E.2.2.2.2 gX0_take_X0_putLater rfl rfl rfl hdV_X0_putLater ⟨Nat.le_of_ble_eq_true rfl, Nat.le_of_ble_eq_true rfl⟩) (kPreV (q0 := 0) (ci := 0) (q := (RX0, TX0, 10)) h KX_true (fun _ _ _ => trivial) [0, 9, 10] [6, 7] (by decide) rfl rfl rfl rfl) rfl rfl hl.1 rfl (lv_room (Nat.le_of_ble_eq_true rfl)) dX0_take_104 ⟨Nat.le_of_ble_eq_true rfl, Nat.le_of_ble_eq_true rfl⟩) [0, 9, 10] [1, 2, 3, 4, 5, 6, 7, 8] rfl rfl (by decide +kernel) (by decide +kernel) (fun u_2 H locs hw_2 h => ?_)
    obtain ⟨z_3, z_4, z_5⟩ := u_2
    have h : KS (dC, dI) A [(o5, .inr (5, [.ref a5_0, .ref a5_1, .ref a5_2, .ref a5_3, .ref a5_4, .ref a5_5, .ref a5_6])), (a5_1, .inl (c5_1, 120, .inl f5_1)), (a5_2, .inl (c5_2, 120, .inl f5_2)), (a5_3, .inl (c5_3, 120, .inl f5_3)), (a5_4, .inl (c5_4, 120, .inl f5_4)), (o2, .inr (2, [.ref a2_0, .ref a2_1, .ref a2_2, .ref a2_3, .int v2_4])), (a2_0, .inl (c2_0, 8, .inl f2_0)), (a2_1, .inl (c2_1, 74, .inr (.inl f2_1))), (o0, .inr (0, [.int v0_0, .int v0_1, .int v0_2, .ref o2, .ref o5, .ref o3, .ref a0_6, .ref a0_7, .int z_3, .ref a0_9])), (a0_6, .inl (c0_6, 30, .inl z_4)), (a0_7, .inl (c0_7, 30, .inr (.inl z_5)))] [(c5_1, .int), (c5_2, .int), (c5_3, .int), (c5_4, .int), (c2_0, .int), (c2_1, .long), (c0_6, .int), (c0_7, .long)] s H locs := h
    have hw_2 : IP z_4 ∧ (0 ≤ z_3.toInt ∧ z_3.toInt ≤ 30) := by first | exact hw_2 | (simp only [Int32.toInt_toInt64] at hw_2; exact hw_2)
    refine W.eq (g2 := F0 m 107 ls []) rfl ?_
    refine lv_iconst (v := 0) hx hb dX0_take_107 kic_0 ?_
    have hP9 := h.2.1.sub [8, 0, 1, 2, 3, 4, 5, 6, 7, 9, 10] rfl
    have hD9 := h.2.2.1.sub (ws' := [(o0, .inr (0, [.int v0_0, .int v0_1, .int v0_2, .ref o2, .ref o5, .ref o3, .ref a0_6, .ref a0_7, .int z_3, .ref a0_9])), (o5, .inr (5, [.ref a5_0, .ref a5_1, .ref a5_2, .ref a5_3, .ref a5_4, .ref a5_5, .ref a5_6])), (a5_1, .inl (c5_1, 120, .inl f5_1)), (a5_2, .inl (c5_2, 120, .inl f5_2)), (a5_3, .inl (c5_3, 120, .inl f5_3)), (a5_4, .inl (c5_4, 120, .inl f5_4)), (o2, .inr (2, [.ref a2_0, .ref a2_1, .ref a2_2, .ref a2_3, .int v2_4])), (a2_0, .inl (c2_0, 8, .inl f2_0)), (a2_1, .inl (c2_1, 74, .inr (.inl f2_1))), (a0_6, .inl (c0_6, 30, .inl z_4)), (a0_7, .inl (c0_7, 30, .inr (.inl z_5)))]) [8, 0, 1, 2, 3, 4, 5, 6, 7, 9, 10] (by decide +kernel) rfl
    exact W.iret (v := 0) hx hb hr (fun t ht hW => ⟨⟨0, (z_3, z_4, z_5), rfl, hw_2, (by rw [ht]; exact hP9), hD9⟩, h.2.2.2.1.F ht⟩) h.2.2.2.1.2.2 dX0_take_108 hlocks
  have i_1 : ¬ (f5_1 p0.toNatClampNeg).toInt = 0 := fun h9 => s_1 ((fa_eq _ _).mpr h9)
  by_cases s_6 : f5_1 p0.toNatClampNeg = 1
  · refine k_topi (y := 1) s_6 ?_
    have i_6 : (f5_1 p0.toNatClampNeg).toInt = 1 := (fa_eq _ _).mp s_6
    refine lv_tableIn (off := 69) (tgt := 109) hx hb dX0_take_40 (by decide) (by decide) rfl (by decide) ?_
    have hd9 := kA_d hA9 (by omega)
    have hx9 := kA_x hA9 (by omega) (by omega)
    refine lv_aload_n hx hb dX0_take_109 rfl (lv_at hl 3 rfl) ?_
    refine lv_iload_n hx hb dX0_take_110 rfl (lv_at hl 2 rfl) ?_
    refine lv_aload_n hx hb dX0_take_111 rfl (lv_at hl 3 rfl) ?_
    refine k_get (v := .ref o2) E h (fun w h => List.mem_cons_of_mem _ (List.mem_append_left _ (List.mem_append_left _ (List.mem_append_right _ h)))) 0 rfl rfl 3 (Nat.le_of_ble_eq_true rfl) (List.mem_of_getElem? (i := 6) rfl) rfl dX0_take_112 ?_
    refine k_get (v := .ref a2_1) E h (fun w h => List.mem_cons_of_mem _ (List.mem_append_right _ h)) 6 rfl rfl 1 (Nat.le_of_ble_eq_true rfl) (List.mem_of_getElem? (i := 7) rfl) rfl dX0_take_115 ?_
    refine lv_iload_n hx hb dX0_take_118 rfl (lv_at hl 1 rfl) ?_
    refine k_lald (v := f2_1 (f5_3 p0.toNatClampNeg).toNatClampNeg) E h 8 5 rfl rfl (vp_in_iff.mpr (by omega)) rfl dX0_take_119 ?_
    refine kc_v (wc := [(o0, .inr (0, [.int v0_0, .int v0_1, .int v0_2, .ref o2, .ref o5, .ref o3, .ref a0_6, .ref a0_7, .int v0_8, .ref a0_9])), (a0_6, .inl (c0_6, 30, .inl f0_6)), (a0_7, .inl (c0_7, 30, .inr (.inl f0_7)))]) (wr := [(o5, .inr (5, [.ref a5_0, .ref a5_1, .ref a5_2, .ref a5_3, .ref a5_4, .ref a5_5, .ref a5_6])), (a5_1, .inl (c5_1, 120, .inl f5_1)), (a5_2, .inl (c5_2, 120, .inl f5_2)), (a5_3, .inl (c5_3, 120, .inl f5_3)), (a5_4, .inl (c5_4, 120, .inl f5_4)), (o2, .inr (2, [.ref a2_0, .ref a2_1, .ref a2_2, .ref a2_3, .int v2_4])), (a2_0, .inl (c2_0, 8, .inl f2_0)), (a2_1, .inl (c2_1, 74, .inr (.inl f2_1)))]) h (va_runV (As := [.int (f5_2 p0.toNatClampNeg), .long (f2_1 (f5_3 p0.toNatClampNeg).toNatClampNeg)]) (rest := []) E (c_X0_putLater l dC dI _ (o0 := o0) (v0_0 := v0_0) (v0_1 := v0_1) (v0_2 := v0_2) (o2 := o2) (o5 := o5) (o3 := o3) (a0_6 := a0_6) (a0_7 := a0_7) (v0_8 := v0_8) (a0_9 := a0_9) (c0_6 := c0_6) (f0_6 := f0_6) (c0_7 := c0_7) (f0_7 := f0_7) (p0 := f5_2 p0.toNatClampNeg) (p1 := f2_1 (f5_3 p0.toNatClampNeg).toNatClampNeg)  (hQ := hQ) (hw := hw) (hp := (by first | decide | omega))) (cwV 2 E.2.2.2.2 gX0_take_X0_putLater rfl rfl rfl hdV_X0_putLater ⟨Nat.le_of_ble_eq_true rfl, Nat.le_of_ble_eq_true rfl⟩) (kPreV (q0 := 0) (ci := 0) (q := (RX0, TX0, 10)) h KX_true (fun _ _ _ => trivial) [0, 9, 10] [6, 7] (by decide) rfl rfl rfl rfl) rfl rfl hl.1 rfl (lv_room (Nat.le_of_ble_eq_true rfl)) dX0_take_120 ⟨Nat.le_of_ble_eq_true rfl, Nat.le_of_ble_eq_true rfl⟩) [0, 9, 10] [1, 2, 3, 4, 5, 6, 7, 8] rfl rfl (by decide +kernel) (by decide +kernel) (fun u_7 H locs hw_7 h => ?_)
    obtain ⟨z_8, z_9, z_10⟩ := u_7
    have h : KS (dC, dI) A [(o5, .inr (5, [.ref a5_0, .ref a5_1, .ref a5_2, .ref a5_3, .ref a5_4, .ref a5_5, .ref a5_6])), (a5_1, .inl (c5_1, 120, .inl f5_1)), (a5_2, .inl (c5_2, 120, .inl f5_2)), (a5_3, .inl (c5_3, 120, .inl f5_3)), (a5_4, .inl (c5_4, 120, .inl f5_4)), (o2, .inr (2, [.ref a2_0, .ref a2_1, .ref a2_2, .ref a2_3, .int v2_4])), (a2_0, .inl (c2_0, 8, .inl f2_0)), (a2_1, .inl (c2_1, 74, .inr (.inl f2_1))), (o0, .inr (0, [.int v0_0, .int v0_1, .int v0_2, .ref o2, .ref o5, .ref o3, .ref a0_6, .ref a0_7, .int z_8, .ref a0_9])), (a0_6, .inl (c0_6, 30, .inl z_9)), (a0_7, .inl (c0_7, 30, .inr (.inl z_10)))] [(c5_1, .int), (c5_2, .int), (c5_3, .int), (c5_4, .int), (c2_0, .int), (c2_1, .long), (c0_6, .int), (c0_7, .long)] s H locs := h
    have hw_7 : IP z_9 ∧ (0 ≤ z_8.toInt ∧ z_8.toInt ≤ 30) := by first | exact hw_7 | (simp only [Int32.toInt_toInt64] at hw_7; exact hw_7)
    refine W.eq (g2 := F0 m 123 ls []) rfl ?_
    refine lv_iconst (v := 0) hx hb dX0_take_123 kic_0 ?_
    have hP9 := h.2.1.sub [8, 0, 1, 2, 3, 4, 5, 6, 7, 9, 10] rfl
    have hD9 := h.2.2.1.sub (ws' := [(o0, .inr (0, [.int v0_0, .int v0_1, .int v0_2, .ref o2, .ref o5, .ref o3, .ref a0_6, .ref a0_7, .int z_8, .ref a0_9])), (o5, .inr (5, [.ref a5_0, .ref a5_1, .ref a5_2, .ref a5_3, .ref a5_4, .ref a5_5, .ref a5_6])), (a5_1, .inl (c5_1, 120, .inl f5_1)), (a5_2, .inl (c5_2, 120, .inl f5_2)), (a5_3, .inl (c5_3, 120, .inl f5_3)), (a5_4, .inl (c5_4, 120, .inl f5_4)), (o2, .inr (2, [.ref a2_0, .ref a2_1, .ref a2_2, .ref a2_3, .int v2_4])), (a2_0, .inl (c2_0, 8, .inl f2_0)), (a2_1, .inl (c2_1, 74, .inr (.inl f2_1))), (a0_6, .inl (c0_6, 30, .inl z_9)), (a0_7, .inl (c0_7, 30, .inr (.inl z_10)))]) [8, 0, 1, 2, 3, 4, 5, 6, 7, 9, 10] (by decide +kernel) rfl
    exact W.iret (v := 0) hx hb hr (fun t ht hW => ⟨⟨0, (z_8, z_9, z_10), rfl, hw_7, (by rw [ht]; exact hP9), hD9⟩, h.2.2.2.1.F ht⟩) h.2.2.2.1.2.2 dX0_take_124 hlocks
  have i_6 : ¬ (f5_1 p0.toNatClampNeg).toInt = 1 := fun h9 => s_6 ((fa_eq _ _).mpr h9)
  by_cases s_11 : f5_1 p0.toNatClampNeg = 2
  · refine k_topi (y := 2) s_11 ?_
    have i_11 : (f5_1 p0.toNatClampNeg).toInt = 2 := (fa_eq _ _).mp s_11
    refine lv_tableIn (off := 214) (tgt := 254) hx hb dX0_take_40 (by decide) (by decide) rfl (by decide) ?_
    have hd9 := kA_d hA9 (by omega)
    have hx9 := kA_x hA9 (by omega) (by omega)
    have hy9 := kA_y hA9 (by omega) (by omega) (by omega) (by omega)
    refine lv_aload_n hx hb dX0_take_254 rfl (lv_at hl 3 rfl) ?_
    refine lv_aload_n hx hb dX0_take_255 rfl (lv_at hl 3 rfl) ?_
    refine k_get (v := .ref o5) E h (fun w h => List.mem_cons_of_mem _ (List.mem_append_left _ (List.mem_append_left _ (List.mem_append_right _ h)))) 0 rfl rfl 4 (Nat.le_of_ble_eq_true rfl) (List.mem_of_getElem? (i := 1) rfl) rfl dX0_take_256 ?_
    refine k_get (v := .ref a5_1) E h (fun w h => List.mem_cons_of_mem _ (List.mem_append_left _ (List.mem_append_right _ h))) 1 rfl rfl 1 (Nat.le_of_ble_eq_true rfl) (List.mem_of_getElem? (i := 5) rfl) rfl dX0_take_259 ?_
    refine lv_iload_n hx hb dX0_take_262 rfl (lv_at hl 4 rfl) ?_
    refine k_iald (v := f5_1 p0.toNatClampNeg) E h 2 0 rfl rfl (vp_in_iff.mpr (by omega)) rfl dX0_take_263 ?_
    refine lv_iload_n hx hb dX0_take_264 rfl (lv_at hl 2 rfl) ?_
    refine lv_aload_n hx hb dX0_take_265 rfl (lv_at hl 3 rfl) ?_
    refine k_get (v := .ref o2) E h (fun w h => List.mem_cons_of_mem _ (List.mem_append_left _ (List.mem_append_left _ (List.mem_append_right _ h)))) 0 rfl rfl 3 (Nat.le_of_ble_eq_true rfl) (List.mem_of_getElem? (i := 6) rfl) rfl dX0_take_266 ?_
    refine k_get (v := .ref a2_1) E h (fun w h => List.mem_cons_of_mem _ (List.mem_append_right _ h)) 6 rfl rfl 1 (Nat.le_of_ble_eq_true rfl) (List.mem_of_getElem? (i := 7) rfl) rfl dX0_take_269 ?_
    refine lv_iload_n hx hb dX0_take_272 rfl (lv_at hl 1 rfl) ?_
    refine W.eq (g2 := F0 m 273 ls [.int (f5_3 p0.toNatClampNeg), .ref a2_1, .int (f5_2 p0.toNatClampNeg), .int (f5_1 p0.toNatClampNeg), .ref o0]) rfl ?_
    refine k_lald (v := f2_1 (f5_3 p0.toNatClampNeg).toNatClampNeg) E h 8 5 rfl rfl (vp_in_iff.mpr (by omega)) rfl dX0_take_273 ?_
    refine lv_aload_n hx hb dX0_take_274 rfl (lv_at hl 3 rfl) ?_
    refine k_get (v := .ref o2) E h (fun w h => List.mem_cons_of_mem _ (List.mem_append_left _ (List.mem_append_left _ (List.mem_append_right _ h)))) 0 rfl rfl 3 (Nat.le_of_ble_eq_true rfl) (List.mem_of_getElem? (i := 6) rfl) rfl dX0_take_275 ?_
    refine k_get (v := .ref a2_1) E h (fun w h => List.mem_cons_of_mem _ (List.mem_append_right _ h)) 6 rfl rfl 1 (Nat.le_of_ble_eq_true rfl) (List.mem_of_getElem? (i := 7) rfl) rfl dX0_take_278 ?_
    refine lv_iload hx hb dX0_take_281 (lv_at hl 0 rfl) ?_
    refine k_lald (v := f2_1 (f5_4 p0.toNatClampNeg).toNatClampNeg) E h 8 5 rfl rfl (vp_in_iff.mpr (by omega)) rfl dX0_take_283 ?_
    refine kc_v (wc := [(o0, .inr (0, [.int v0_0, .int v0_1, .int v0_2, .ref o2, .ref o5, .ref o3, .ref a0_6, .ref a0_7, .int v0_8, .ref a0_9])), (o2, .inr (2, [.ref a2_0, .ref a2_1, .ref a2_2, .ref a2_3, .int v2_4])), (a2_0, .inl (c2_0, 8, .inl f2_0)), (a0_6, .inl (c0_6, 30, .inl f0_6)), (a0_7, .inl (c0_7, 30, .inr (.inl f0_7)))]) (wr := [(o5, .inr (5, [.ref a5_0, .ref a5_1, .ref a5_2, .ref a5_3, .ref a5_4, .ref a5_5, .ref a5_6])), (a5_1, .inl (c5_1, 120, .inl f5_1)), (a5_2, .inl (c5_2, 120, .inl f5_2)), (a5_3, .inl (c5_3, 120, .inl f5_3)), (a5_4, .inl (c5_4, 120, .inl f5_4)), (a2_1, .inl (c2_1, 74, .inr (.inl f2_1)))]) h (va_runV (As := [.int (f5_1 p0.toNatClampNeg), .int (f5_2 p0.toNatClampNeg), .long (f2_1 (f5_3 p0.toNatClampNeg).toNatClampNeg), .long (f2_1 (f5_4 p0.toNatClampNeg).toNatClampNeg)]) (rest := []) E (c_X0_work l dC dI _ (o0 := o0) (v0_0 := v0_0) (v0_1 := v0_1) (v0_2 := v0_2) (o2 := o2) (o5 := o5) (o3 := o3) (a0_6 := a0_6) (a0_7 := a0_7) (v0_8 := v0_8) (a0_9 := a0_9) (a2_0 := a2_0) (a2_1 := a2_1) (a2_2 := a2_2) (a2_3 := a2_3) (v2_4 := v2_4) (c2_0 := c2_0) (f2_0 := f2_0) (c0_6 := c0_6) (f0_6 := f0_6) (c0_7 := c0_7) (f0_7 := f0_7) (p0 := f5_1 p0.toNatClampNeg) (p1 := f5_2 p0.toNatClampNeg) (p2 := f2_1 (f5_3 p0.toNatClampNeg).toNatClampNeg) (p3 := f2_1 (f5_4 p0.toNatClampNeg).toNatClampNeg)  (hQ := hQ) (hw := hw) (hp := (by first | decide | omega))) (cwV 4 E.2.2.2.2 gX0_take_X0_work rfl rfl rfl hdV_X0_work ⟨Nat.le_of_ble_eq_true rfl, Nat.le_of_ble_eq_true rfl⟩) (kPreV (q0 := 0) (ci := 0) (q := (RX0, TX0, 10)) h KX_true (fun _ _ _ => trivial) [0, 6, 7, 9, 10] [4, 6, 7] (by decide) rfl rfl rfl rfl) rfl rfl hl.1 rfl (lv_room (Nat.le_of_ble_eq_true rfl)) dX0_take_284 ⟨Nat.le_of_ble_eq_true rfl, Nat.le_of_ble_eq_true rfl⟩) [0, 6, 7, 9, 10] [1, 2, 3, 4, 5, 8] rfl rfl (by decide +kernel) (by decide +kernel) (fun u_12 H locs hw_12 h => ?_)
    obtain ⟨z_13, z_14, z_15⟩ := u_12
    have h : KS (dC, dI) A [(o5, .inr (5, [.ref a5_0, .ref a5_1, .ref a5_2, .ref a5_3, .ref a5_4, .ref a5_5, .ref a5_6])), (a5_1, .inl (c5_1, 120, .inl f5_1)), (a5_2, .inl (c5_2, 120, .inl f5_2)), (a5_3, .inl (c5_3, 120, .inl f5_3)), (a5_4, .inl (c5_4, 120, .inl f5_4)), (a2_1, .inl (c2_1, 74, .inr (.inl f2_1))), (o0, .inr (0, [.int v0_0, .int v0_1, .int v0_2, .ref o2, .ref o5, .ref o3, .ref a0_6, .ref a0_7, .int z_13, .ref a0_9])), (o2, .inr (2, [.ref a2_0, .ref a2_1, .ref a2_2, .ref a2_3, .int v2_4])), (a2_0, .inl (c2_0, 8, .inl f2_0)), (a0_6, .inl (c0_6, 30, .inl z_14)), (a0_7, .inl (c0_7, 30, .inr (.inl z_15)))] [(c5_1, .int), (c5_2, .int), (c5_3, .int), (c5_4, .int), (c2_0, .int), (c2_1, .long), (c0_6, .int), (c0_7, .long)] s H locs := h
    have hw_12 : IP z_14 ∧ (0 ≤ z_13.toInt ∧ z_13.toInt ≤ 30) := by first | exact hw_12 | (simp only [Int32.toInt_toInt64] at hw_12; exact hw_12)
    refine W.eq (g2 := F0 m 287 ls []) rfl ?_
    refine lv_iconst (v := 0) hx hb dX0_take_287 kic_0 ?_
    have hP9 := h.2.1.sub [6, 0, 1, 2, 3, 4, 7, 8, 5, 9, 10] rfl
    have hD9 := h.2.2.1.sub (ws' := [(o0, .inr (0, [.int v0_0, .int v0_1, .int v0_2, .ref o2, .ref o5, .ref o3, .ref a0_6, .ref a0_7, .int z_13, .ref a0_9])), (o5, .inr (5, [.ref a5_0, .ref a5_1, .ref a5_2, .ref a5_3, .ref a5_4, .ref a5_5, .ref a5_6])), (a5_1, .inl (c5_1, 120, .inl f5_1)), (a5_2, .inl (c5_2, 120, .inl f5_2)), (a5_3, .inl (c5_3, 120, .inl f5_3)), (a5_4, .inl (c5_4, 120, .inl f5_4)), (o2, .inr (2, [.ref a2_0, .ref a2_1, .ref a2_2, .ref a2_3, .int v2_4])), (a2_0, .inl (c2_0, 8, .inl f2_0)), (a2_1, .inl (c2_1, 74, .inr (.inl f2_1))), (a0_6, .inl (c0_6, 30, .inl z_14)), (a0_7, .inl (c0_7, 30, .inr (.inl z_15)))]) [6, 0, 1, 2, 3, 4, 7, 8, 5, 9, 10] (by decide +kernel) rfl
    exact W.iret (v := 0) hx hb hr (fun t ht hW => ⟨⟨0, (z_13, z_14, z_15), rfl, hw_12, (by rw [ht]; exact hP9), hD9⟩, h.2.2.2.1.F ht⟩) h.2.2.2.1.2.2 dX0_take_288 hlocks
  have i_11 : ¬ (f5_1 p0.toNatClampNeg).toInt = 2 := fun h9 => s_11 ((fa_eq _ _).mpr h9)
  by_cases s_16 : f5_1 p0.toNatClampNeg = 3
  · refine k_topi (y := 3) s_16 ?_
    have i_16 : (f5_1 p0.toNatClampNeg).toInt = 3 := (fa_eq _ _).mp s_16
    refine lv_tableIn (off := 214) (tgt := 254) hx hb dX0_take_40 (by decide) (by decide) rfl (by decide) ?_
    have hd9 := kA_d hA9 (by omega)
    have hx9 := kA_x hA9 (by omega) (by omega)
    have hy9 := kA_y hA9 (by omega) (by omega) (by omega) (by omega)
    refine lv_aload_n hx hb dX0_take_254 rfl (lv_at hl 3 rfl) ?_
    refine lv_aload_n hx hb dX0_take_255 rfl (lv_at hl 3 rfl) ?_
    refine k_get (v := .ref o5) E h (fun w h => List.mem_cons_of_mem _ (List.mem_append_left _ (List.mem_append_left _ (List.mem_append_right _ h)))) 0 rfl rfl 4 (Nat.le_of_ble_eq_true rfl) (List.mem_of_getElem? (i := 1) rfl) rfl dX0_take_256 ?_
    refine k_get (v := .ref a5_1) E h (fun w h => List.mem_cons_of_mem _ (List.mem_append_left _ (List.mem_append_right _ h))) 1 rfl rfl 1 (Nat.le_of_ble_eq_true rfl) (List.mem_of_getElem? (i := 5) rfl) rfl dX0_take_259 ?_
    refine lv_iload_n hx hb dX0_take_262 rfl (lv_at hl 4 rfl) ?_
    refine k_iald (v := f5_1 p0.toNatClampNeg) E h 2 0 rfl rfl (vp_in_iff.mpr (by omega)) rfl dX0_take_263 ?_
    refine lv_iload_n hx hb dX0_take_264 rfl (lv_at hl 2 rfl) ?_
    refine lv_aload_n hx hb dX0_take_265 rfl (lv_at hl 3 rfl) ?_
    refine k_get (v := .ref o2) E h (fun w h => List.mem_cons_of_mem _ (List.mem_append_left _ (List.mem_append_left _ (List.mem_append_right _ h)))) 0 rfl rfl 3 (Nat.le_of_ble_eq_true rfl) (List.mem_of_getElem? (i := 6) rfl) rfl dX0_take_266 ?_
    refine k_get (v := .ref a2_1) E h (fun w h => List.mem_cons_of_mem _ (List.mem_append_right _ h)) 6 rfl rfl 1 (Nat.le_of_ble_eq_true rfl) (List.mem_of_getElem? (i := 7) rfl) rfl dX0_take_269 ?_
    refine lv_iload_n hx hb dX0_take_272 rfl (lv_at hl 1 rfl) ?_
    refine W.eq (g2 := F0 m 273 ls [.int (f5_3 p0.toNatClampNeg), .ref a2_1, .int (f5_2 p0.toNatClampNeg), .int (f5_1 p0.toNatClampNeg), .ref o0]) rfl ?_
    refine k_lald (v := f2_1 (f5_3 p0.toNatClampNeg).toNatClampNeg) E h 8 5 rfl rfl (vp_in_iff.mpr (by omega)) rfl dX0_take_273 ?_
    refine lv_aload_n hx hb dX0_take_274 rfl (lv_at hl 3 rfl) ?_
    refine k_get (v := .ref o2) E h (fun w h => List.mem_cons_of_mem _ (List.mem_append_left _ (List.mem_append_left _ (List.mem_append_right _ h)))) 0 rfl rfl 3 (Nat.le_of_ble_eq_true rfl) (List.mem_of_getElem? (i := 6) rfl) rfl dX0_take_275 ?_
    refine k_get (v := .ref a2_1) E h (fun w h => List.mem_cons_of_mem _ (List.mem_append_right _ h)) 6 rfl rfl 1 (Nat.le_of_ble_eq_true rfl) (List.mem_of_getElem? (i := 7) rfl) rfl dX0_take_278 ?_
    refine lv_iload hx hb dX0_take_281 (lv_at hl 0 rfl) ?_
    refine k_lald (v := f2_1 (f5_4 p0.toNatClampNeg).toNatClampNeg) E h 8 5 rfl rfl (vp_in_iff.mpr (by omega)) rfl dX0_take_283 ?_
    refine kc_v (wc := [(o0, .inr (0, [.int v0_0, .int v0_1, .int v0_2, .ref o2, .ref o5, .ref o3, .ref a0_6, .ref a0_7, .int v0_8, .ref a0_9])), (o2, .inr (2, [.ref a2_0, .ref a2_1, .ref a2_2, .ref a2_3, .int v2_4])), (a2_0, .inl (c2_0, 8, .inl f2_0)), (a0_6, .inl (c0_6, 30, .inl f0_6)), (a0_7, .inl (c0_7, 30, .inr (.inl f0_7)))]) (wr := [(o5, .inr (5, [.ref a5_0, .ref a5_1, .ref a5_2, .ref a5_3, .ref a5_4, .ref a5_5, .ref a5_6])), (a5_1, .inl (c5_1, 120, .inl f5_1)), (a5_2, .inl (c5_2, 120, .inl f5_2)), (a5_3, .inl (c5_3, 120, .inl f5_3)), (a5_4, .inl (c5_4, 120, .inl f5_4)), (a2_1, .inl (c2_1, 74, .inr (.inl f2_1)))]) h (va_runV (As := [.int (f5_1 p0.toNatClampNeg), .int (f5_2 p0.toNatClampNeg), .long (f2_1 (f5_3 p0.toNatClampNeg).toNatClampNeg), .long (f2_1 (f5_4 p0.toNatClampNeg).toNatClampNeg)]) (rest := []) E (c_X0_work l dC dI _ (o0 := o0) (v0_0 := v0_0) (v0_1 := v0_1) (v0_2 := v0_2) (o2 := o2) (o5 := o5) (o3 := o3) (a0_6 := a0_6) (a0_7 := a0_7) (v0_8 := v0_8) (a0_9 := a0_9) (a2_0 := a2_0) (a2_1 := a2_1) (a2_2 := a2_2) (a2_3 := a2_3) (v2_4 := v2_4) (c2_0 := c2_0) (f2_0 := f2_0) (c0_6 := c0_6) (f0_6 := f0_6) (c0_7 := c0_7) (f0_7 := f0_7) (p0 := f5_1 p0.toNatClampNeg) (p1 := f5_2 p0.toNatClampNeg) (p2 := f2_1 (f5_3 p0.toNatClampNeg).toNatClampNeg) (p3 := f2_1 (f5_4 p0.toNatClampNeg).toNatClampNeg)  (hQ := hQ) (hw := hw) (hp := (by first | decide | omega))) (cwV 4 E.2.2.2.2 gX0_take_X0_work rfl rfl rfl hdV_X0_work ⟨Nat.le_of_ble_eq_true rfl, Nat.le_of_ble_eq_true rfl⟩) (kPreV (q0 := 0) (ci := 0) (q := (RX0, TX0, 10)) h KX_true (fun _ _ _ => trivial) [0, 6, 7, 9, 10] [4, 6, 7] (by decide) rfl rfl rfl rfl) rfl rfl hl.1 rfl (lv_room (Nat.le_of_ble_eq_true rfl)) dX0_take_284 ⟨Nat.le_of_ble_eq_true rfl, Nat.le_of_ble_eq_true rfl⟩) [0, 6, 7, 9, 10] [1, 2, 3, 4, 5, 8] rfl rfl (by decide +kernel) (by decide +kernel) (fun u_17 H locs hw_17 h => ?_)
    obtain ⟨z_18, z_19, z_20⟩ := u_17
    have h : KS (dC, dI) A [(o5, .inr (5, [.ref a5_0, .ref a5_1, .ref a5_2, .ref a5_3, .ref a5_4, .ref a5_5, .ref a5_6])), (a5_1, .inl (c5_1, 120, .inl f5_1)), (a5_2, .inl (c5_2, 120, .inl f5_2)), (a5_3, .inl (c5_3, 120, .inl f5_3)), (a5_4, .inl (c5_4, 120, .inl f5_4)), (a2_1, .inl (c2_1, 74, .inr (.inl f2_1))), (o0, .inr (0, [.int v0_0, .int v0_1, .int v0_2, .ref o2, .ref o5, .ref o3, .ref a0_6, .ref a0_7, .int z_18, .ref a0_9])), (o2, .inr (2, [.ref a2_0, .ref a2_1, .ref a2_2, .ref a2_3, .int v2_4])), (a2_0, .inl (c2_0, 8, .inl f2_0)), (a0_6, .inl (c0_6, 30, .inl z_19)), (a0_7, .inl (c0_7, 30, .inr (.inl z_20)))] [(c5_1, .int), (c5_2, .int), (c5_3, .int), (c5_4, .int), (c2_0, .int), (c2_1, .long), (c0_6, .int), (c0_7, .long)] s H locs := h
    have hw_17 : IP z_19 ∧ (0 ≤ z_18.toInt ∧ z_18.toInt ≤ 30) := by first | exact hw_17 | (simp only [Int32.toInt_toInt64] at hw_17; exact hw_17)
    refine W.eq (g2 := F0 m 287 ls []) rfl ?_
    refine lv_iconst (v := 0) hx hb dX0_take_287 kic_0 ?_
    have hP9 := h.2.1.sub [6, 0, 1, 2, 3, 4, 7, 8, 5, 9, 10] rfl
    have hD9 := h.2.2.1.sub (ws' := [(o0, .inr (0, [.int v0_0, .int v0_1, .int v0_2, .ref o2, .ref o5, .ref o3, .ref a0_6, .ref a0_7, .int z_18, .ref a0_9])), (o5, .inr (5, [.ref a5_0, .ref a5_1, .ref a5_2, .ref a5_3, .ref a5_4, .ref a5_5, .ref a5_6])), (a5_1, .inl (c5_1, 120, .inl f5_1)), (a5_2, .inl (c5_2, 120, .inl f5_2)), (a5_3, .inl (c5_3, 120, .inl f5_3)), (a5_4, .inl (c5_4, 120, .inl f5_4)), (o2, .inr (2, [.ref a2_0, .ref a2_1, .ref a2_2, .ref a2_3, .int v2_4])), (a2_0, .inl (c2_0, 8, .inl f2_0)), (a2_1, .inl (c2_1, 74, .inr (.inl f2_1))), (a0_6, .inl (c0_6, 30, .inl z_19)), (a0_7, .inl (c0_7, 30, .inr (.inl z_20)))]) [6, 0, 1, 2, 3, 4, 7, 8, 5, 9, 10] (by decide +kernel) rfl
    exact W.iret (v := 0) hx hb hr (fun t ht hW => ⟨⟨0, (z_18, z_19, z_20), rfl, hw_17, (by rw [ht]; exact hP9), hD9⟩, h.2.2.2.1.F ht⟩) h.2.2.2.1.2.2 dX0_take_288 hlocks
  have i_16 : ¬ (f5_1 p0.toNatClampNeg).toInt = 3 := fun h9 => s_16 ((fa_eq _ _).mpr h9)
  by_cases s_21 : f5_1 p0.toNatClampNeg = 4
  · refine k_topi (y := 4) s_21 ?_
    have i_21 : (f5_1 p0.toNatClampNeg).toInt = 4 := (fa_eq _ _).mp s_21
    refine lv_tableIn (off := 214) (tgt := 254) hx hb dX0_take_40 (by decide) (by decide) rfl (by decide) ?_
    have hd9 := kA_d hA9 (by omega)
    have hx9 := kA_x hA9 (by omega) (by omega)
    have hy9 := kA_y hA9 (by omega) (by omega) (by omega) (by omega)
    refine lv_aload_n hx hb dX0_take_254 rfl (lv_at hl 3 rfl) ?_
    refine lv_aload_n hx hb dX0_take_255 rfl (lv_at hl 3 rfl) ?_
    refine k_get (v := .ref o5) E h (fun w h => List.mem_cons_of_mem _ (List.mem_append_left _ (List.mem_append_left _ (List.mem_append_right _ h)))) 0 rfl rfl 4 (Nat.le_of_ble_eq_true rfl) (List.mem_of_getElem? (i := 1) rfl) rfl dX0_take_256 ?_
    refine k_get (v := .ref a5_1) E h (fun w h => List.mem_cons_of_mem _ (List.mem_append_left _ (List.mem_append_right _ h))) 1 rfl rfl 1 (Nat.le_of_ble_eq_true rfl) (List.mem_of_getElem? (i := 5) rfl) rfl dX0_take_259 ?_
    refine lv_iload_n hx hb dX0_take_262 rfl (lv_at hl 4 rfl) ?_
    refine k_iald (v := f5_1 p0.toNatClampNeg) E h 2 0 rfl rfl (vp_in_iff.mpr (by omega)) rfl dX0_take_263 ?_
    refine lv_iload_n hx hb dX0_take_264 rfl (lv_at hl 2 rfl) ?_
    refine lv_aload_n hx hb dX0_take_265 rfl (lv_at hl 3 rfl) ?_
    refine k_get (v := .ref o2) E h (fun w h => List.mem_cons_of_mem _ (List.mem_append_left _ (List.mem_append_left _ (List.mem_append_right _ h)))) 0 rfl rfl 3 (Nat.le_of_ble_eq_true rfl) (List.mem_of_getElem? (i := 6) rfl) rfl dX0_take_266 ?_
    refine k_get (v := .ref a2_1) E h (fun w h => List.mem_cons_of_mem _ (List.mem_append_right _ h)) 6 rfl rfl 1 (Nat.le_of_ble_eq_true rfl) (List.mem_of_getElem? (i := 7) rfl) rfl dX0_take_269 ?_
    refine lv_iload_n hx hb dX0_take_272 rfl (lv_at hl 1 rfl) ?_
    refine W.eq (g2 := F0 m 273 ls [.int (f5_3 p0.toNatClampNeg), .ref a2_1, .int (f5_2 p0.toNatClampNeg), .int (f5_1 p0.toNatClampNeg), .ref o0]) rfl ?_
    refine k_lald (v := f2_1 (f5_3 p0.toNatClampNeg).toNatClampNeg) E h 8 5 rfl rfl (vp_in_iff.mpr (by omega)) rfl dX0_take_273 ?_
    refine lv_aload_n hx hb dX0_take_274 rfl (lv_at hl 3 rfl) ?_
    refine k_get (v := .ref o2) E h (fun w h => List.mem_cons_of_mem _ (List.mem_append_left _ (List.mem_append_left _ (List.mem_append_right _ h)))) 0 rfl rfl 3 (Nat.le_of_ble_eq_true rfl) (List.mem_of_getElem? (i := 6) rfl) rfl dX0_take_275 ?_
    refine k_get (v := .ref a2_1) E h (fun w h => List.mem_cons_of_mem _ (List.mem_append_right _ h)) 6 rfl rfl 1 (Nat.le_of_ble_eq_true rfl) (List.mem_of_getElem? (i := 7) rfl) rfl dX0_take_278 ?_
    refine lv_iload hx hb dX0_take_281 (lv_at hl 0 rfl) ?_
    refine k_lald (v := f2_1 (f5_4 p0.toNatClampNeg).toNatClampNeg) E h 8 5 rfl rfl (vp_in_iff.mpr (by omega)) rfl dX0_take_283 ?_
    refine kc_v (wc := [(o0, .inr (0, [.int v0_0, .int v0_1, .int v0_2, .ref o2, .ref o5, .ref o3, .ref a0_6, .ref a0_7, .int v0_8, .ref a0_9])), (o2, .inr (2, [.ref a2_0, .ref a2_1, .ref a2_2, .ref a2_3, .int v2_4])), (a2_0, .inl (c2_0, 8, .inl f2_0)), (a0_6, .inl (c0_6, 30, .inl f0_6)), (a0_7, .inl (c0_7, 30, .inr (.inl f0_7)))]) (wr := [(o5, .inr (5, [.ref a5_0, .ref a5_1, .ref a5_2, .ref a5_3, .ref a5_4, .ref a5_5, .ref a5_6])), (a5_1, .inl (c5_1, 120, .inl f5_1)), (a5_2, .inl (c5_2, 120, .inl f5_2)), (a5_3, .inl (c5_3, 120, .inl f5_3)), (a5_4, .inl (c5_4, 120, .inl f5_4)), (a2_1, .inl (c2_1, 74, .inr (.inl f2_1)))]) h (va_runV (As := [.int (f5_1 p0.toNatClampNeg), .int (f5_2 p0.toNatClampNeg), .long (f2_1 (f5_3 p0.toNatClampNeg).toNatClampNeg), .long (f2_1 (f5_4 p0.toNatClampNeg).toNatClampNeg)]) (rest := []) E (c_X0_work l dC dI _ (o0 := o0) (v0_0 := v0_0) (v0_1 := v0_1) (v0_2 := v0_2) (o2 := o2) (o5 := o5) (o3 := o3) (a0_6 := a0_6) (a0_7 := a0_7) (v0_8 := v0_8) (a0_9 := a0_9) (a2_0 := a2_0) (a2_1 := a2_1) (a2_2 := a2_2) (a2_3 := a2_3) (v2_4 := v2_4) (c2_0 := c2_0) (f2_0 := f2_0) (c0_6 := c0_6) (f0_6 := f0_6) (c0_7 := c0_7) (f0_7 := f0_7) (p0 := f5_1 p0.toNatClampNeg) (p1 := f5_2 p0.toNatClampNeg) (p2 := f2_1 (f5_3 p0.toNatClampNeg).toNatClampNeg) (p3 := f2_1 (f5_4 p0.toNatClampNeg).toNatClampNeg)  (hQ := hQ) (hw := hw) (hp := (by first | decide | omega))) (cwV 4 E.2.2.2.2 gX0_take_X0_work rfl rfl rfl hdV_X0_work ⟨Nat.le_of_ble_eq_true rfl, Nat.le_of_ble_eq_true rfl⟩) (kPreV (q0 := 0) (ci := 0) (q := (RX0, TX0, 10)) h KX_true (fun _ _ _ => trivial) [0, 6, 7, 9, 10] [4, 6, 7] (by decide) rfl rfl rfl rfl) rfl rfl hl.1 rfl (lv_room (Nat.le_of_ble_eq_true rfl)) dX0_take_284 ⟨Nat.le_of_ble_eq_true rfl, Nat.le_of_ble_eq_true rfl⟩) [0, 6, 7, 9, 10] [1, 2, 3, 4, 5, 8] rfl rfl (by decide +kernel) (by decide +kernel) (fun u_22 H locs hw_22 h => ?_)
    obtain ⟨z_23, z_24, z_25⟩ := u_22
    have h : KS (dC, dI) A [(o5, .inr (5, [.ref a5_0, .ref a5_1, .ref a5_2, .ref a5_3, .ref a5_4, .ref a5_5, .ref a5_6])), (a5_1, .inl (c5_1, 120, .inl f5_1)), (a5_2, .inl (c5_2, 120, .inl f5_2)), (a5_3, .inl (c5_3, 120, .inl f5_3)), (a5_4, .inl (c5_4, 120, .inl f5_4)), (a2_1, .inl (c2_1, 74, .inr (.inl f2_1))), (o0, .inr (0, [.int v0_0, .int v0_1, .int v0_2, .ref o2, .ref o5, .ref o3, .ref a0_6, .ref a0_7, .int z_23, .ref a0_9])), (o2, .inr (2, [.ref a2_0, .ref a2_1, .ref a2_2, .ref a2_3, .int v2_4])), (a2_0, .inl (c2_0, 8, .inl f2_0)), (a0_6, .inl (c0_6, 30, .inl z_24)), (a0_7, .inl (c0_7, 30, .inr (.inl z_25)))] [(c5_1, .int), (c5_2, .int), (c5_3, .int), (c5_4, .int), (c2_0, .int), (c2_1, .long), (c0_6, .int), (c0_7, .long)] s H locs := h
    have hw_22 : IP z_24 ∧ (0 ≤ z_23.toInt ∧ z_23.toInt ≤ 30) := by first | exact hw_22 | (simp only [Int32.toInt_toInt64] at hw_22; exact hw_22)
    refine W.eq (g2 := F0 m 287 ls []) rfl ?_
    refine lv_iconst (v := 0) hx hb dX0_take_287 kic_0 ?_
    have hP9 := h.2.1.sub [6, 0, 1, 2, 3, 4, 7, 8, 5, 9, 10] rfl
    have hD9 := h.2.2.1.sub (ws' := [(o0, .inr (0, [.int v0_0, .int v0_1, .int v0_2, .ref o2, .ref o5, .ref o3, .ref a0_6, .ref a0_7, .int z_23, .ref a0_9])), (o5, .inr (5, [.ref a5_0, .ref a5_1, .ref a5_2, .ref a5_3, .ref a5_4, .ref a5_5, .ref a5_6])), (a5_1, .inl (c5_1, 120, .inl f5_1)), (a5_2, .inl (c5_2, 120, .inl f5_2)), (a5_3, .inl (c5_3, 120, .inl f5_3)), (a5_4, .inl (c5_4, 120, .inl f5_4)), (o2, .inr (2, [.ref a2_0, .ref a2_1, .ref a2_2, .ref a2_3, .int v2_4])), (a2_0, .inl (c2_0, 8, .inl f2_0)), (a2_1, .inl (c2_1, 74, .inr (.inl f2_1))), (a0_6, .inl (c0_6, 30, .inl z_24)), (a0_7, .inl (c0_7, 30, .inr (.inl z_25)))]) [6, 0, 1, 2, 3, 4, 7, 8, 5, 9, 10] (by decide +kernel) rfl
    exact W.iret (v := 0) hx hb hr (fun t ht hW => ⟨⟨0, (z_23, z_24, z_25), rfl, hw_22, (by rw [ht]; exact hP9), hD9⟩, h.2.2.2.1.F ht⟩) h.2.2.2.1.2.2 dX0_take_288 hlocks
  have i_21 : ¬ (f5_1 p0.toNatClampNeg).toInt = 4 := fun h9 => s_21 ((fa_eq _ _).mpr h9)
  by_cases s_26 : f5_1 p0.toNatClampNeg = 5
  · refine k_topi (y := 5) s_26 ?_
    have i_26 : (f5_1 p0.toNatClampNeg).toInt = 5 := (fa_eq _ _).mp s_26
    refine lv_tableIn (off := 214) (tgt := 254) hx hb dX0_take_40 (by decide) (by decide) rfl (by decide) ?_
    have hd9 := kA_d hA9 (by omega)
    have hx9 := kA_x hA9 (by omega) (by omega)
    have hy9 := kA_y hA9 (by omega) (by omega) (by omega) (by omega)
    refine lv_aload_n hx hb dX0_take_254 rfl (lv_at hl 3 rfl) ?_
    refine lv_aload_n hx hb dX0_take_255 rfl (lv_at hl 3 rfl) ?_
    refine k_get (v := .ref o5) E h (fun w h => List.mem_cons_of_mem _ (List.mem_append_left _ (List.mem_append_left _ (List.mem_append_right _ h)))) 0 rfl rfl 4 (Nat.le_of_ble_eq_true rfl) (List.mem_of_getElem? (i := 1) rfl) rfl dX0_take_256 ?_
    refine k_get (v := .ref a5_1) E h (fun w h => List.mem_cons_of_mem _ (List.mem_append_left _ (List.mem_append_right _ h))) 1 rfl rfl 1 (Nat.le_of_ble_eq_true rfl) (List.mem_of_getElem? (i := 5) rfl) rfl dX0_take_259 ?_
    refine lv_iload_n hx hb dX0_take_262 rfl (lv_at hl 4 rfl) ?_
    refine k_iald (v := f5_1 p0.toNatClampNeg) E h 2 0 rfl rfl (vp_in_iff.mpr (by omega)) rfl dX0_take_263 ?_
    refine lv_iload_n hx hb dX0_take_264 rfl (lv_at hl 2 rfl) ?_
    refine lv_aload_n hx hb dX0_take_265 rfl (lv_at hl 3 rfl) ?_
    refine k_get (v := .ref o2) E h (fun w h => List.mem_cons_of_mem _ (List.mem_append_left _ (List.mem_append_left _ (List.mem_append_right _ h)))) 0 rfl rfl 3 (Nat.le_of_ble_eq_true rfl) (List.mem_of_getElem? (i := 6) rfl) rfl dX0_take_266 ?_
    refine k_get (v := .ref a2_1) E h (fun w h => List.mem_cons_of_mem _ (List.mem_append_right _ h)) 6 rfl rfl 1 (Nat.le_of_ble_eq_true rfl) (List.mem_of_getElem? (i := 7) rfl) rfl dX0_take_269 ?_
    refine lv_iload_n hx hb dX0_take_272 rfl (lv_at hl 1 rfl) ?_
    refine W.eq (g2 := F0 m 273 ls [.int (f5_3 p0.toNatClampNeg), .ref a2_1, .int (f5_2 p0.toNatClampNeg), .int (f5_1 p0.toNatClampNeg), .ref o0]) rfl ?_
    refine k_lald (v := f2_1 (f5_3 p0.toNatClampNeg).toNatClampNeg) E h 8 5 rfl rfl (vp_in_iff.mpr (by omega)) rfl dX0_take_273 ?_
    refine lv_aload_n hx hb dX0_take_274 rfl (lv_at hl 3 rfl) ?_
    refine k_get (v := .ref o2) E h (fun w h => List.mem_cons_of_mem _ (List.mem_append_left _ (List.mem_append_left _ (List.mem_append_right _ h)))) 0 rfl rfl 3 (Nat.le_of_ble_eq_true rfl) (List.mem_of_getElem? (i := 6) rfl) rfl dX0_take_275 ?_
    refine k_get (v := .ref a2_1) E h (fun w h => List.mem_cons_of_mem _ (List.mem_append_right _ h)) 6 rfl rfl 1 (Nat.le_of_ble_eq_true rfl) (List.mem_of_getElem? (i := 7) rfl) rfl dX0_take_278 ?_
    refine lv_iload hx hb dX0_take_281 (lv_at hl 0 rfl) ?_
    refine k_lald (v := f2_1 (f5_4 p0.toNatClampNeg).toNatClampNeg) E h 8 5 rfl rfl (vp_in_iff.mpr (by omega)) rfl dX0_take_283 ?_
    refine kc_v (wc := [(o0, .inr (0, [.int v0_0, .int v0_1, .int v0_2, .ref o2, .ref o5, .ref o3, .ref a0_6, .ref a0_7, .int v0_8, .ref a0_9])), (o2, .inr (2, [.ref a2_0, .ref a2_1, .ref a2_2, .ref a2_3, .int v2_4])), (a2_0, .inl (c2_0, 8, .inl f2_0)), (a0_6, .inl (c0_6, 30, .inl f0_6)), (a0_7, .inl (c0_7, 30, .inr (.inl f0_7)))]) (wr := [(o5, .inr (5, [.ref a5_0, .ref a5_1, .ref a5_2, .ref a5_3, .ref a5_4, .ref a5_5, .ref a5_6])), (a5_1, .inl (c5_1, 120, .inl f5_1)), (a5_2, .inl (c5_2, 120, .inl f5_2)), (a5_3, .inl (c5_3, 120, .inl f5_3)), (a5_4, .inl (c5_4, 120, .inl f5_4)), (a2_1, .inl (c2_1, 74, .inr (.inl f2_1)))]) h (va_runV (As := [.int (f5_1 p0.toNatClampNeg), .int (f5_2 p0.toNatClampNeg), .long (f2_1 (f5_3 p0.toNatClampNeg).toNatClampNeg), .long (f2_1 (f5_4 p0.toNatClampNeg).toNatClampNeg)]) (rest := []) E (c_X0_work l dC dI _ (o0 := o0) (v0_0 := v0_0) (v0_1 := v0_1) (v0_2 := v0_2) (o2 := o2) (o5 := o5) (o3 := o3) (a0_6 := a0_6) (a0_7 := a0_7) (v0_8 := v0_8) (a0_9 := a0_9) (a2_0 := a2_0) (a2_1 := a2_1) (a2_2 := a2_2) (a2_3 := a2_3) (v2_4 := v2_4) (c2_0 := c2_0) (f2_0 := f2_0) (c0_6 := c0_6) (f0_6 := f0_6) (c0_7 := c0_7) (f0_7 := f0_7) (p0 := f5_1 p0.toNatClampNeg) (p1 := f5_2 p0.toNatClampNeg) (p2 := f2_1 (f5_3 p0.toNatClampNeg).toNatClampNeg) (p3 := f2_1 (f5_4 p0.toNatClampNeg).toNatClampNeg)  (hQ := hQ) (hw := hw) (hp := (by first | decide | omega))) (cwV 4 E.2.2.2.2 gX0_take_X0_work rfl rfl rfl hdV_X0_work ⟨Nat.le_of_ble_eq_true rfl, Nat.le_of_ble_eq_true rfl⟩) (kPreV (q0 := 0) (ci := 0) (q := (RX0, TX0, 10)) h KX_true (fun _ _ _ => trivial) [0, 6, 7, 9, 10] [4, 6, 7] (by decide) rfl rfl rfl rfl) rfl rfl hl.1 rfl (lv_room (Nat.le_of_ble_eq_true rfl)) dX0_take_284 ⟨Nat.le_of_ble_eq_true rfl, Nat.le_of_ble_eq_true rfl⟩) [0, 6, 7, 9, 10] [1, 2, 3, 4, 5, 8] rfl rfl (by decide +kernel) (by decide +kernel) (fun u_27 H locs hw_27 h => ?_)
    obtain ⟨z_28, z_29, z_30⟩ := u_27
    have h : KS (dC, dI) A [(o5, .inr (5, [.ref a5_0, .ref a5_1, .ref a5_2, .ref a5_3, .ref a5_4, .ref a5_5, .ref a5_6])), (a5_1, .inl (c5_1, 120, .inl f5_1)), (a5_2, .inl (c5_2, 120, .inl f5_2)), (a5_3, .inl (c5_3, 120, .inl f5_3)), (a5_4, .inl (c5_4, 120, .inl f5_4)), (a2_1, .inl (c2_1, 74, .inr (.inl f2_1))), (o0, .inr (0, [.int v0_0, .int v0_1, .int v0_2, .ref o2, .ref o5, .ref o3, .ref a0_6, .ref a0_7, .int z_28, .ref a0_9])), (o2, .inr (2, [.ref a2_0, .ref a2_1, .ref a2_2, .ref a2_3, .int v2_4])), (a2_0, .inl (c2_0, 8, .inl f2_0)), (a0_6, .inl (c0_6, 30, .inl z_29)), (a0_7, .inl (c0_7, 30, .inr (.inl z_30)))] [(c5_1, .int), (c5_2, .int), (c5_3, .int), (c5_4, .int), (c2_0, .int), (c2_1, .long), (c0_6, .int), (c0_7, .long)] s H locs := h
    have hw_27 : IP z_29 ∧ (0 ≤ z_28.toInt ∧ z_28.toInt ≤ 30) := by first | exact hw_27 | (simp only [Int32.toInt_toInt64] at hw_27; exact hw_27)
    refine W.eq (g2 := F0 m 287 ls []) rfl ?_
    refine lv_iconst (v := 0) hx hb dX0_take_287 kic_0 ?_
    have hP9 := h.2.1.sub [6, 0, 1, 2, 3, 4, 7, 8, 5, 9, 10] rfl
    have hD9 := h.2.2.1.sub (ws' := [(o0, .inr (0, [.int v0_0, .int v0_1, .int v0_2, .ref o2, .ref o5, .ref o3, .ref a0_6, .ref a0_7, .int z_28, .ref a0_9])), (o5, .inr (5, [.ref a5_0, .ref a5_1, .ref a5_2, .ref a5_3, .ref a5_4, .ref a5_5, .ref a5_6])), (a5_1, .inl (c5_1, 120, .inl f5_1)), (a5_2, .inl (c5_2, 120, .inl f5_2)), (a5_3, .inl (c5_3, 120, .inl f5_3)), (a5_4, .inl (c5_4, 120, .inl f5_4)), (o2, .inr (2, [.ref a2_0, .ref a2_1, .ref a2_2, .ref a2_3, .int v2_4])), (a2_0, .inl (c2_0, 8, .inl f2_0)), (a2_1, .inl (c2_1, 74, .inr (.inl f2_1))), (a0_6, .inl (c0_6, 30, .inl z_29)), (a0_7, .inl (c0_7, 30, .inr (.inl z_30)))]) [6, 0, 1, 2, 3, 4, 7, 8, 5, 9, 10] (by decide +kernel) rfl
    exact W.iret (v := 0) hx hb hr (fun t ht hW => ⟨⟨0, (z_28, z_29, z_30), rfl, hw_27, (by rw [ht]; exact hP9), hD9⟩, h.2.2.2.1.F ht⟩) h.2.2.2.1.2.2 dX0_take_288 hlocks
  have i_26 : ¬ (f5_1 p0.toNatClampNeg).toInt = 5 := fun h9 => s_26 ((fa_eq _ _).mpr h9)
  by_cases s_31 : f5_1 p0.toNatClampNeg = 6
  · refine k_topi (y := 6) s_31 ?_
    have i_31 : (f5_1 p0.toNatClampNeg).toInt = 6 := (fa_eq _ _).mp s_31
    refine lv_tableIn (off := 85) (tgt := 125) hx hb dX0_take_40 (by decide) (by decide) rfl (by decide) ?_
    have hd9 := kA_d hA9 (by omega)
    have hx9 := kA_x hA9 (by omega) (by omega)
    refine lv_aload_n hx hb dX0_take_125 rfl (lv_at hl 3 rfl) ?_
    refine lv_iload_n hx hb dX0_take_126 rfl (lv_at hl 2 rfl) ?_
    refine lv_iload hx hb dX0_take_127 (lv_at hl 0 rfl) ?_
    refine lv_if_ge (tgt := 148) hx hb dX0_take_129 rfl (fun c_32 => ?_) (fun c_32 => ?_)
    · skip
      have i_32 : 0 ≤ (f5_4 p0.toNatClampNeg).toInt := (fa_le _ _).mp c_32
      refine lv_aload_n hx hb dX0_take_148 rfl (lv_at hl 3 rfl) ?_
      refine k_get (v := .ref o2) E h (fun w h => List.mem_cons_of_mem _ (List.mem_append_left _ (List.mem_append_left _ (List.mem_append_right _ h)))) 0 rfl rfl 3 (Nat.le_of_ble_eq_true rfl) (List.mem_of_getElem? (i := 6) rfl) rfl dX0_take_149 ?_
      refine k_get (v := .ref a2_1) E h (fun w h => List.mem_cons_of_mem _ (List.mem_append_right _ h)) 6 rfl rfl 1 (Nat.le_of_ble_eq_true rfl) (List.mem_of_getElem? (i := 7) rfl) rfl dX0_take_152 ?_
      refine lv_iload_n hx hb dX0_take_155 rfl (lv_at hl 1 rfl) ?_
      refine k_lald (v := f2_1 (f5_3 p0.toNatClampNeg).toNatClampNeg) E h 8 5 rfl rfl (vp_in_iff.mpr (by omega)) rfl dX0_take_156 ?_
      refine lv_iload hx hb dX0_take_157 (lv_at hl 0 rfl) ?_
      refine lv_lshl (v := (f2_1 (f5_3 p0.toNatClampNeg).toNatClampNeg) <<< ((f5_4 p0.toNatClampNeg).toInt64 &&& 63)) hx hb dX0_take_159 rfl ?_
      refine kc_v (wc := [(o0, .inr (0, [.int v0_0, .int v0_1, .int v0_2, .ref o2, .ref o5, .ref o3, .ref a0_6, .ref a0_7, .int v0_8, .ref a0_9])), (a0_6, .inl (c0_6, 30, .inl f0_6)), (a0_7, .inl (c0_7, 30, .inr (.inl f0_7)))]) (wr := [(o5, .inr (5, [.ref a5_0, .ref a5_1, .ref a5_2, .ref a5_3, .ref a5_4, .ref a5_5, .ref a5_6])), (a5_1, .inl (c5_1, 120, .inl f5_1)), (a5_2, .inl (c5_2, 120, .inl f5_2)), (a5_3, .inl (c5_3, 120, .inl f5_3)), (a5_4, .inl (c5_4, 120, .inl f5_4)), (o2, .inr (2, [.ref a2_0, .ref a2_1, .ref a2_2, .ref a2_3, .int v2_4])), (a2_0, .inl (c2_0, 8, .inl f2_0)), (a2_1, .inl (c2_1, 74, .inr (.inl f2_1)))]) h (va_runV (As := [.int (f5_2 p0.toNatClampNeg), .long ((f2_1 (f5_3 p0.toNatClampNeg).toNatClampNeg) <<< ((f5_4 p0.toNatClampNeg).toInt64 &&& 63))]) (rest := []) E (c_X0_putLater l dC dI _ (o0 := o0) (v0_0 := v0_0) (v0_1 := v0_1) (v0_2 := v0_2) (o2 := o2) (o5 := o5) (o3 := o3) (a0_6 := a0_6) (a0_7 := a0_7) (v0_8 := v0_8) (a0_9 := a0_9) (c0_6 := c0_6) (f0_6 := f0_6) (c0_7 := c0_7) (f0_7 := f0_7) (p0 := f5_2 p0.toNatClampNeg) (p1 := (f2_1 (f5_3 p0.toNatClampNeg).toNatClampNeg) <<< ((f5_4 p0.toNatClampNeg).toInt64 &&& 63))  (hQ := hQ) (hw := hw) (hp := (by first | decide | omega))) (cwV 2 E.2.2.2.2 gX0_take_X0_putLater rfl rfl rfl hdV_X0_putLater ⟨Nat.le_of_ble_eq_true rfl, Nat.le_of_ble_eq_true rfl⟩) (kPreV (q0 := 0) (ci := 0) (q := (RX0, TX0, 10)) h KX_true (fun _ _ _ => trivial) [0, 9, 10] [6, 7] (by decide) rfl rfl rfl rfl) rfl rfl hl.1 rfl (lv_room (Nat.le_of_ble_eq_true rfl)) dX0_take_160 ⟨Nat.le_of_ble_eq_true rfl, Nat.le_of_ble_eq_true rfl⟩) [0, 9, 10] [1, 2, 3, 4, 5, 6, 7, 8] rfl rfl (by decide +kernel) (by decide +kernel) (fun u_33 H locs hw_33 h => ?_)
      obtain ⟨z_34, z_35, z_36⟩ := u_33
      have h : KS (dC, dI) A [(o5, .inr (5, [.ref a5_0, .ref a5_1, .ref a5_2, .ref a5_3, .ref a5_4, .ref a5_5, .ref a5_6])), (a5_1, .inl (c5_1, 120, .inl f5_1)), (a5_2, .inl (c5_2, 120, .inl f5_2)), (a5_3, .inl (c5_3, 120, .inl f5_3)), (a5_4, .inl (c5_4, 120, .inl f5_4)), (o2, .inr (2, [.ref a2_0, .ref a2_1, .ref a2_2, .ref a2_3, .int v2_4])), (a2_0, .inl (c2_0, 8, .inl f2_0)), (a2_1, .inl (c2_1, 74, .inr (.inl f2_1))), (o0, .inr (0, [.int v0_0, .int v0_1, .int v0_2, .ref o2, .ref o5, .ref o3, .ref a0_6, .ref a0_7, .int z_34, .ref a0_9])), (a0_6, .inl (c0_6, 30, .inl z_35)), (a0_7, .inl (c0_7, 30, .inr (.inl z_36)))] [(c5_1, .int), (c5_2, .int), (c5_3, .int), (c5_4, .int), (c2_0, .int), (c2_1, .long), (c0_6, .int), (c0_7, .long)] s H locs := h
      have hw_33 : IP z_35 ∧ (0 ≤ z_34.toInt ∧ z_34.toInt ≤ 30) := by first | exact hw_33 | (simp only [Int32.toInt_toInt64] at hw_33; exact hw_33)
      refine W.eq (g2 := F0 m 163 ls []) rfl ?_
      refine lv_iconst (v := 0) hx hb dX0_take_163 kic_0 ?_
      have hP9 := h.2.1.sub [8, 0, 1, 2, 3, 4, 5, 6, 7, 9, 10] rfl
      have hD9 := h.2.2.1.sub (ws' := [(o0, .inr (0, [.int v0_0, .int v0_1, .int v0_2, .ref o2, .ref o5, .ref o3, .ref a0_6, .ref a0_7, .int z_34, .ref a0_9])), (o5, .inr (5, [.ref a5_0, .ref a5_1, .ref a5_2, .ref a5_3, .ref a5_4, .ref a5_5, .ref a5_6])), (a5_1, .inl (c5_1, 120, .inl f5_1)), (a5_2, .inl (c5_2, 120, .inl f5_2)), (a5_3, .inl (c5_3, 120, .inl f5_3)), (a5_4, .inl (c5_4, 120, .inl f5_4)), (o2, .inr (2, [.ref a2_0, .ref a2_1, .ref a2_2, .ref a2_3, .int v2_4])), (a2_0, .inl (c2_0, 8, .inl f2_0)), (a2_1, .inl (c2_1, 74, .inr (.inl f2_1))), (a0_6, .inl (c0_6, 30, .inl z_35)), (a0_7, .inl (c0_7, 30, .inr (.inl z_36)))]) [8, 0, 1, 2, 3, 4, 5, 6, 7, 9, 10] (by decide +kernel) rfl
      exact W.iret (v := 0) hx hb hr (fun t ht hW => ⟨⟨0, (z_34, z_35, z_36), rfl, hw_33, (by rw [ht]; exact hP9), hD9⟩, h.2.2.2.1.F ht⟩) h.2.2.2.1.2.2 dX0_take_164 hlocks
    · skip
      have i_32 : ¬ 0 ≤ (f5_4 p0.toNatClampNeg).toInt := fun h9 => c_32 ((fa_le _ _).mpr h9)
      refine lv_aload_n hx hb dX0_take_132 rfl (lv_at hl 3 rfl) ?_
      refine k_get (v := .ref o2) E h (fun w h => List.mem_cons_of_mem _ (List.mem_append_left _ (List.mem_append_left _ (List.mem_append_right _ h)))) 0 rfl rfl 3 (Nat.le_of_ble_eq_true rfl) (List.mem_of_getElem? (i := 6) rfl) rfl dX0_take_133 ?_
      refine k_get (v := .ref a2_1) E h (fun w h => List.mem_cons_of_mem _ (List.mem_append_right _ h)) 6 rfl rfl 1 (Nat.le_of_ble_eq_true rfl) (List.mem_of_getElem? (i := 7) rfl) rfl dX0_take_136 ?_
      refine lv_iload_n hx hb dX0_take_139 rfl (lv_at hl 1 rfl) ?_
      refine k_lald (v := f2_1 (f5_3 p0.toNatClampNeg).toNatClampNeg) E h 8 5 rfl rfl (vp_in_iff.mpr (by omega)) rfl dX0_take_140 ?_
      refine lv_iload hx hb dX0_take_141 (lv_at hl 0 rfl) ?_
      refine lv_ineg hx hb dX0_take_143 ?_
      refine lv_lshr (v := (f2_1 (f5_3 p0.toNatClampNeg).toNatClampNeg) >>> ((-(f5_4 p0.toNatClampNeg)).toInt64 &&& 63)) hx hb dX0_take_144 rfl ?_
      refine lv_goto (tgt := 160) hx hb dX0_take_145 rfl ?_
      refine kc_v (wc := [(o0, .inr (0, [.int v0_0, .int v0_1, .int v0_2, .ref o2, .ref o5, .ref o3, .ref a0_6, .ref a0_7, .int v0_8, .ref a0_9])), (a0_6, .inl (c0_6, 30, .inl f0_6)), (a0_7, .inl (c0_7, 30, .inr (.inl f0_7)))]) (wr := [(o5, .inr (5, [.ref a5_0, .ref a5_1, .ref a5_2, .ref a5_3, .ref a5_4, .ref a5_5, .ref a5_6])), (a5_1, .inl (c5_1, 120, .inl f5_1)), (a5_2, .inl (c5_2, 120, .inl f5_2)), (a5_3, .inl (c5_3, 120, .inl f5_3)), (a5_4, .inl (c5_4, 120, .inl f5_4)), (o2, .inr (2, [.ref a2_0, .ref a2_1, .ref a2_2, .ref a2_3, .int v2_4])), (a2_0, .inl (c2_0, 8, .inl f2_0)), (a2_1, .inl (c2_1, 74, .inr (.inl f2_1)))]) h (va_runV (As := [.int (f5_2 p0.toNatClampNeg), .long ((f2_1 (f5_3 p0.toNatClampNeg).toNatClampNeg) >>> ((-(f5_4 p0.toNatClampNeg)).toInt64 &&& 63))]) (rest := []) E (c_X0_putLater l dC dI _ (o0 := o0) (v0_0 := v0_0) (v0_1 := v0_1) (v0_2 := v0_2) (o2 := o2) (o5 := o5) (o3 := o3) (a0_6 := a0_6) (a0_7 := a0_7) (v0_8 := v0_8) (a0_9 := a0_9) (c0_6 := c0_6) (f0_6 := f0_6) (c0_7 := c0_7) (f0_7 := f0_7) (p0 := f5_2 p0.toNatClampNeg) (p1 := (f2_1 (f5_3 p0.toNatClampNeg).toNatClampNeg) >>> ((-(f5_4 p0.toNatClampNeg)).toInt64 &&& 63))  (hQ := hQ) (hw := hw) (hp := (by first | decide | omega))) (cwV 2 E.2.2.2.2 gX0_take_X0_putLater rfl rfl rfl hdV_X0_putLater ⟨Nat.le_of_ble_eq_true rfl, Nat.le_of_ble_eq_true rfl⟩) (kPreV (q0 := 0) (ci := 0) (q := (RX0, TX0, 10)) h KX_true (fun _ _ _ => trivial) [0, 9, 10] [6, 7] (by decide) rfl rfl rfl rfl) rfl rfl hl.1 rfl (lv_room (Nat.le_of_ble_eq_true rfl)) dX0_take_160 ⟨Nat.le_of_ble_eq_true rfl, Nat.le_of_ble_eq_true rfl⟩) [0, 9, 10] [1, 2, 3, 4, 5, 6, 7, 8] rfl rfl (by decide +kernel) (by decide +kernel) (fun u_37 H locs hw_37 h => ?_)
      obtain ⟨z_38, z_39, z_40⟩ := u_37
      have h : KS (dC, dI) A [(o5, .inr (5, [.ref a5_0, .ref a5_1, .ref a5_2, .ref a5_3, .ref a5_4, .ref a5_5, .ref a5_6])), (a5_1, .inl (c5_1, 120, .inl f5_1)), (a5_2, .inl (c5_2, 120, .inl f5_2)), (a5_3, .inl (c5_3, 120, .inl f5_3)), (a5_4, .inl (c5_4, 120, .inl f5_4)), (o2, .inr (2, [.ref a2_0, .ref a2_1, .ref a2_2, .ref a2_3, .int v2_4])), (a2_0, .inl (c2_0, 8, .inl f2_0)), (a2_1, .inl (c2_1, 74, .inr (.inl f2_1))), (o0, .inr (0, [.int v0_0, .int v0_1, .int v0_2, .ref o2, .ref o5, .ref o3, .ref a0_6, .ref a0_7, .int z_38, .ref a0_9])), (a0_6, .inl (c0_6, 30, .inl z_39)), (a0_7, .inl (c0_7, 30, .inr (.inl z_40)))] [(c5_1, .int), (c5_2, .int), (c5_3, .int), (c5_4, .int), (c2_0, .int), (c2_1, .long), (c0_6, .int), (c0_7, .long)] s H locs := h
      have hw_37 : IP z_39 ∧ (0 ≤ z_38.toInt ∧ z_38.toInt ≤ 30) := by first | exact hw_37 | (simp only [Int32.toInt_toInt64] at hw_37; exact hw_37)
      refine W.eq (g2 := F0 m 163 ls []) rfl ?_
      refine lv_iconst (v := 0) hx hb dX0_take_163 kic_0 ?_
      have hP9 := h.2.1.sub [8, 0, 1, 2, 3, 4, 5, 6, 7, 9, 10] rfl
      have hD9 := h.2.2.1.sub (ws' := [(o0, .inr (0, [.int v0_0, .int v0_1, .int v0_2, .ref o2, .ref o5, .ref o3, .ref a0_6, .ref a0_7, .int z_38, .ref a0_9])), (o5, .inr (5, [.ref a5_0, .ref a5_1, .ref a5_2, .ref a5_3, .ref a5_4, .ref a5_5, .ref a5_6])), (a5_1, .inl (c5_1, 120, .inl f5_1)), (a5_2, .inl (c5_2, 120, .inl f5_2)), (a5_3, .inl (c5_3, 120, .inl f5_3)), (a5_4, .inl (c5_4, 120, .inl f5_4)), (o2, .inr (2, [.ref a2_0, .ref a2_1, .ref a2_2, .ref a2_3, .int v2_4])), (a2_0, .inl (c2_0, 8, .inl f2_0)), (a2_1, .inl (c2_1, 74, .inr (.inl f2_1))), (a0_6, .inl (c0_6, 30, .inl z_39)), (a0_7, .inl (c0_7, 30, .inr (.inl z_40)))]) [8, 0, 1, 2, 3, 4, 5, 6, 7, 9, 10] (by decide +kernel) rfl
      exact W.iret (v := 0) hx hb hr (fun t ht hW => ⟨⟨0, (z_38, z_39, z_40), rfl, hw_37, (by rw [ht]; exact hP9), hD9⟩, h.2.2.2.1.F ht⟩) h.2.2.2.1.2.2 dX0_take_164 hlocks
  have i_31 : ¬ (f5_1 p0.toNatClampNeg).toInt = 6 := fun h9 => s_31 ((fa_eq _ _).mpr h9)
  by_cases s_41 : f5_1 p0.toNatClampNeg = 7
  · refine k_topi (y := 7) s_41 ?_
    have i_41 : (f5_1 p0.toNatClampNeg).toInt = 7 := (fa_eq _ _).mp s_41
    refine lv_tableIn (off := 125) (tgt := 165) hx hb dX0_take_40 (by decide) (by decide) rfl (by decide) ?_
    have hd9 := kA_d hA9 (by omega)
    have hx9 := kA_x hA9 (by omega) (by omega)
    refine lv_aload_n hx hb dX0_take_165 rfl (lv_at hl 3 rfl) ?_
    refine lv_iload_n hx hb dX0_take_166 rfl (lv_at hl 2 rfl) ?_
    refine lv_aload_n hx hb dX0_take_167 rfl (lv_at hl 3 rfl) ?_
    refine k_get (v := .ref o2) E h (fun w h => List.mem_cons_of_mem _ (List.mem_append_left _ (List.mem_append_left _ (List.mem_append_right _ h)))) 0 rfl rfl 3 (Nat.le_of_ble_eq_true rfl) (List.mem_of_getElem? (i := 6) rfl) rfl dX0_take_168 ?_
    refine k_get (v := .ref a2_1) E h (fun w h => List.mem_cons_of_mem _ (List.mem_append_right _ h)) 6 rfl rfl 1 (Nat.le_of_ble_eq_true rfl) (List.mem_of_getElem? (i := 7) rfl) rfl dX0_take_171 ?_
    refine lv_iload_n hx hb dX0_take_174 rfl (lv_at hl 1 rfl) ?_
    refine k_lald (v := f2_1 (f5_3 p0.toNatClampNeg).toNatClampNeg) E h 8 5 rfl rfl (vp_in_iff.mpr (by omega)) rfl dX0_take_175 ?_
    refine kc_i (wc := [(o0, .inr (0, [.int v0_0, .int v0_1, .int v0_2, .ref o2, .ref o5, .ref o3, .ref a0_6, .ref a0_7, .int v0_8, .ref a0_9])), (o2, .inr (2, [.ref a2_0, .ref a2_1, .ref a2_2, .ref a2_3, .int v2_4])), (a2_1, .inl (c2_1, 74, .inr (.inl f2_1))), (a0_6, .inl (c0_6, 30, .inl f0_6)), (a0_7, .inl (c0_7, 30, .inr (.inl f0_7)))]) (wr := [(o5, .inr (5, [.ref a5_0, .ref a5_1, .ref a5_2, .ref a5_3, .ref a5_4, .ref a5_5, .ref a5_6])), (a5_1, .inl (c5_1, 120, .inl f5_1)), (a5_2, .inl (c5_2, 120, .inl f5_2)), (a5_3, .inl (c5_3, 120, .inl f5_3)), (a5_4, .inl (c5_4, 120, .inl f5_4)), (a2_0, .inl (c2_0, 8, .inl f2_0))]) h (va_runV (As := [.int (f5_2 p0.toNatClampNeg), .long (f2_1 (f5_3 p0.toNatClampNeg).toNatClampNeg)]) (rest := []) E (c_X0_fetch l dC dI _ (o0 := o0) (v0_0 := v0_0) (v0_1 := v0_1) (v0_2 := v0_2) (o2 := o2) (o5 := o5) (o3 := o3) (a0_6 := a0_6) (a0_7 := a0_7) (v0_8 := v0_8) (a0_9 := a0_9) (a2_0 := a2_0) (a2_1 := a2_1) (a2_2 := a2_2) (a2_3 := a2_3) (v2_4 := v2_4) (c2_1 := c2_1) (f2_1 := f2_1) (c0_6 := c0_6) (f0_6 := f0_6) (c0_7 := c0_7) (f0_7 := f0_7) (p0 := f5_2 p0.toNatClampNeg) (p1 := f2_1 (f5_3 p0.toNatClampNeg).toNatClampNeg)  (hQ := hQ) (hw := hw) (hp := (by first | decide | omega))) (cwV 2 E.2.2.2.2 gX0_take_X0_fetch rfl rfl rfl hdV_X0_fetch ⟨Nat.le_of_ble_eq_true rfl, Nat.le_of_ble_eq_true rfl⟩) (kPreV (q0 := 0) (ci := 0) (q := (RX0, TX0, 10)) h KAll.blind (KAll.call hX h [0, 6, 8, 9, 10] rfl) [0, 6, 8, 9, 10] [5, 6, 7] (by decide) rfl rfl rfl rfl) rfl rfl hl.1 rfl (lv_room (Nat.le_of_ble_eq_true rfl)) dX0_take_176 ⟨Nat.le_of_ble_eq_true rfl, Nat.le_of_ble_eq_true rfl⟩) [0, 6, 8, 9, 10] [1, 2, 3, 4, 5, 7] rfl rfl (by decide +kernel) (by decide +kernel) (fun r_42 u_42 H locs hw_42 h => ?_)
    obtain ⟨z_43, z_44, z_45⟩ := u_42
    have h : KS (dC, dI) A [(o5, .inr (5, [.ref a5_0, .ref a5_1, .ref a5_2, .ref a5_3, .ref a5_4, .ref a5_5, .ref a5_6])), (a5_1, .inl (c5_1, 120, .inl f5_1)), (a5_2, .inl (c5_2, 120, .inl f5_2)), (a5_3, .inl (c5_3, 120, .inl f5_3)), (a5_4, .inl (c5_4, 120, .inl f5_4)), (a2_0, .inl (c2_0, 8, .inl f2_0)), (o0, .inr (0, [.int v0_0, .int v0_1, .int v0_2, .ref o2, .ref o5, .ref o3, .ref a0_6, .ref a0_7, .int z_43, .ref a0_9])), (o2, .inr (2, [.ref a2_0, .ref a2_1, .ref a2_2, .ref a2_3, .int v2_4])), (a2_1, .inl (c2_1, 74, .inr (.inl f2_1))), (a0_6, .inl (c0_6, 30, .inl z_44)), (a0_7, .inl (c0_7, 30, .inr (.inl z_45)))] [(c5_1, .int), (c5_2, .int), (c5_3, .int), (c5_4, .int), (c2_0, .int), (c2_1, .long), (c0_6, .int), (c0_7, .long)] s H locs := h
    have hw_42 : IP z_44 ∧ (0 ≤ z_43.toInt ∧ z_43.toInt ≤ 30) := by first | exact hw_42 | (simp only [Int32.toInt_toInt64] at hw_42; exact hw_42)
    refine W.eq (g2 := F0 m 179 ls [.int r_42]) rfl ?_
    have hP9 := h.2.1.sub [6, 0, 1, 2, 3, 4, 7, 5, 8, 9, 10] rfl
    have hD9 := h.2.2.1.sub (ws' := [(o0, .inr (0, [.int v0_0, .int v0_1, .int v0_2, .ref o2, .ref o5, .ref o3, .ref a0_6, .ref a0_7, .int z_43, .ref a0_9])), (o5, .inr (5, [.ref a5_0, .ref a5_1, .ref a5_2, .ref a5_3, .ref a5_4, .ref a5_5, .ref a5_6])), (a5_1, .inl (c5_1, 120, .inl f5_1)), (a5_2, .inl (c5_2, 120, .inl f5_2)), (a5_3, .inl (c5_3, 120, .inl f5_3)), (a5_4, .inl (c5_4, 120, .inl f5_4)), (o2, .inr (2, [.ref a2_0, .ref a2_1, .ref a2_2, .ref a2_3, .int v2_4])), (a2_0, .inl (c2_0, 8, .inl f2_0)), (a2_1, .inl (c2_1, 74, .inr (.inl f2_1))), (a0_6, .inl (c0_6, 30, .inl z_44)), (a0_7, .inl (c0_7, 30, .inr (.inl z_45)))]) [6, 0, 1, 2, 3, 4, 7, 5, 8, 9, 10] (by decide +kernel) rfl
    exact W.iret (v := r_42) hx hb hr (fun t ht hW => ⟨⟨r_42, (z_43, z_44, z_45), rfl, hw_42, (by rw [ht]; exact hP9), hD9⟩, h.2.2.2.1.F ht⟩) h.2.2.2.1.2.2 dX0_take_179 hlocks
  have i_41 : ¬ (f5_1 p0.toNatClampNeg).toInt = 7 := fun h9 => s_41 ((fa_eq _ _).mpr h9)
  by_cases s_46 : f5_1 p0.toNatClampNeg = 8
  · refine k_topi (y := 8) s_46 ?_
    have i_46 : (f5_1 p0.toNatClampNeg).toInt = 8 := (fa_eq _ _).mp s_46
    refine lv_tableIn (off := 140) (tgt := 180) hx hb dX0_take_40 (by decide) (by decide) rfl (by decide) ?_
    have hx9 := kA_x hA9 (by omega) (by omega)
    have hy9 := kA_y hA9 (by omega) (by omega) (by omega) (by omega)
    refine lv_aload_n hx hb dX0_take_180 rfl (lv_at hl 3 rfl) ?_
    refine lv_aload_n hx hb dX0_take_181 rfl (lv_at hl 3 rfl) ?_
    refine k_get (v := .ref o2) E h (fun w h => List.mem_cons_of_mem _ (List.mem_append_left _ (List.mem_append_left _ (List.mem_append_right _ h)))) 0 rfl rfl 3 (Nat.le_of_ble_eq_true rfl) (List.mem_of_getElem? (i := 6) rfl) rfl dX0_take_182 ?_
    refine k_get (v := .ref a2_1) E h (fun w h => List.mem_cons_of_mem _ (List.mem_append_right _ h)) 6 rfl rfl 1 (Nat.le_of_ble_eq_true rfl) (List.mem_of_getElem? (i := 7) rfl) rfl dX0_take_185 ?_
    refine lv_iload_n hx hb dX0_take_188 rfl (lv_at hl 1 rfl) ?_
    refine k_lald (v := f2_1 (f5_3 p0.toNatClampNeg).toNatClampNeg) E h 8 5 rfl rfl (vp_in_iff.mpr (by omega)) rfl dX0_take_189 ?_
    refine lv_aload_n hx hb dX0_take_190 rfl (lv_at hl 3 rfl) ?_
    refine k_get (v := .ref o2) E h (fun w h => List.mem_cons_of_mem _ (List.mem_append_left _ (List.mem_append_left _ (List.mem_append_right _ h)))) 0 rfl rfl 3 (Nat.le_of_ble_eq_true rfl) (List.mem_of_getElem? (i := 6) rfl) rfl dX0_take_191 ?_
    refine k_get (v := .ref a2_1) E h (fun w h => List.mem_cons_of_mem _ (List.mem_append_right _ h)) 6 rfl rfl 1 (Nat.le_of_ble_eq_true rfl) (List.mem_of_getElem? (i := 7) rfl) rfl dX0_take_194 ?_
    refine lv_iload hx hb dX0_take_197 (lv_at hl 0 rfl) ?_
    refine k_lald (v := f2_1 (f5_4 p0.toNatClampNeg).toNatClampNeg) E h 8 5 rfl rfl (vp_in_iff.mpr (by omega)) rfl dX0_take_199 ?_
    refine W.eq (g2 := F0 m 200 ls [.long (f2_1 (f5_4 p0.toNatClampNeg).toNatClampNeg), .long (f2_1 (f5_3 p0.toNatClampNeg).toNatClampNeg), .ref o0]) rfl ?_
    refine kc_i (wc := [(o0, .inr (0, [.int v0_0, .int v0_1, .int v0_2, .ref o2, .ref o5, .ref o3, .ref a0_6, .ref a0_7, .int v0_8, .ref a0_9])), (a0_6, .inl (c0_6, 30, .inl f0_6)), (a0_7, .inl (c0_7, 30, .inr (.inl f0_7)))]) (wr := [(o5, .inr (5, [.ref a5_0, .ref a5_1, .ref a5_2, .ref a5_3, .ref a5_4, .ref a5_5, .ref a5_6])), (a5_1, .inl (c5_1, 120, .inl f5_1)), (a5_2, .inl (c5_2, 120, .inl f5_2)), (a5_3, .inl (c5_3, 120, .inl f5_3)), (a5_4, .inl (c5_4, 120, .inl f5_4)), (o2, .inr (2, [.ref a2_0, .ref a2_1, .ref a2_2, .ref a2_3, .int v2_4])), (a2_0, .inl (c2_0, 8, .inl f2_0)), (a2_1, .inl (c2_1, 74, .inr (.inl f2_1)))]) h (va_runV (As := [.long (f2_1 (f5_3 p0.toNatClampNeg).toNatClampNeg), .long (f2_1 (f5_4 p0.toNatClampNeg).toNatClampNeg)]) (rest := []) E (c_X0_keep l dC dI _ (o0 := o0) (v0_0 := v0_0) (v0_1 := v0_1) (v0_2 := v0_2) (o2 := o2) (o5 := o5) (o3 := o3) (a0_6 := a0_6) (a0_7 := a0_7) (v0_8 := v0_8) (a0_9 := a0_9) (c0_6 := c0_6) (f0_6 := f0_6) (c0_7 := c0_7) (f0_7 := f0_7) (p0 := f2_1 (f5_3 p0.toNatClampNeg).toNatClampNeg) (p1 := f2_1 (f5_4 p0.toNatClampNeg).toNatClampNeg)  (hQ := hQ) (hw := hw)) (cwV 2 E.2.2.2.2 gX0_take_X0_keep rfl rfl rfl hdV_X0_keep ⟨Nat.le_of_ble_eq_true rfl, Nat.le_of_ble_eq_true rfl⟩) (kPreV (q0 := 0) (ci := 0) (q := (RX0, TX0, 10)) h KAll.blind (KAll.call hX h [0, 9, 10] rfl) [0, 9, 10] [6, 7] (by decide) rfl rfl rfl rfl) rfl rfl hl.1 rfl (lv_room (Nat.le_of_ble_eq_true rfl)) dX0_take_200 ⟨Nat.le_of_ble_eq_true rfl, Nat.le_of_ble_eq_true rfl⟩) [0, 9, 10] [1, 2, 3, 4, 5, 6, 7, 8] rfl rfl (by decide +kernel) (by decide +kernel) (fun r_47 u_47 H locs hw_47 h => ?_)
    obtain ⟨z_48, z_49, z_50⟩ := u_47
    have h : KS (dC, dI) A [(o5, .inr (5, [.ref a5_0, .ref a5_1, .ref a5_2, .ref a5_3, .ref a5_4, .ref a5_5, .ref a5_6])), (a5_1, .inl (c5_1, 120, .inl f5_1)), (a5_2, .inl (c5_2, 120, .inl f5_2)), (a5_3, .inl (c5_3, 120, .inl f5_3)), (a5_4, .inl (c5_4, 120, .inl f5_4)), (o2, .inr (2, [.ref a2_0, .ref a2_1, .ref a2_2, .ref a2_3, .int v2_4])), (a2_0, .inl (c2_0, 8, .inl f2_0)), (a2_1, .inl (c2_1, 74, .inr (.inl f2_1))), (o0, .inr (0, [.int v0_0, .int v0_1, .int v0_2, .ref o2, .ref o5, .ref o3, .ref a0_6, .ref a0_7, .int z_48, .ref a0_9])), (a0_6, .inl (c0_6, 30, .inl z_49)), (a0_7, .inl (c0_7, 30, .inr (.inl z_50)))] [(c5_1, .int), (c5_2, .int), (c5_3, .int), (c5_4, .int), (c2_0, .int), (c2_1, .long), (c0_6, .int), (c0_7, .long)] s H locs := h
    have hw_47 : IP z_49 ∧ (0 ≤ z_48.toInt ∧ z_48.toInt ≤ 30) := by first | exact hw_47 | (simp only [Int32.toInt_toInt64] at hw_47; exact hw_47)
    refine W.eq (g2 := F0 m 203 ls [.int r_47]) rfl ?_
    have hP9 := h.2.1.sub [8, 0, 1, 2, 3, 4, 5, 6, 7, 9, 10] rfl
    have hD9 := h.2.2.1.sub (ws' := [(o0, .inr (0, [.int v0_0, .int v0_1, .int v0_2, .ref o2, .ref o5, .ref o3, .ref a0_6, .ref a0_7, .int z_48, .ref a0_9])), (o5, .inr (5, [.ref a5_0, .ref a5_1, .ref a5_2, .ref a5_3, .ref a5_4, .ref a5_5, .ref a5_6])), (a5_1, .inl (c5_1, 120, .inl f5_1)), (a5_2, .inl (c5_2, 120, .inl f5_2)), (a5_3, .inl (c5_3, 120, .inl f5_3)), (a5_4, .inl (c5_4, 120, .inl f5_4)), (o2, .inr (2, [.ref a2_0, .ref a2_1, .ref a2_2, .ref a2_3, .int v2_4])), (a2_0, .inl (c2_0, 8, .inl f2_0)), (a2_1, .inl (c2_1, 74, .inr (.inl f2_1))), (a0_6, .inl (c0_6, 30, .inl z_49)), (a0_7, .inl (c0_7, 30, .inr (.inl z_50)))]) [8, 0, 1, 2, 3, 4, 5, 6, 7, 9, 10] (by decide +kernel) rfl
    exact W.iret (v := r_47) hx hb hr (fun t ht hW => ⟨⟨r_47, (z_48, z_49, z_50), rfl, hw_47, (by rw [ht]; exact hP9), hD9⟩, h.2.2.2.1.F ht⟩) h.2.2.2.1.2.2 dX0_take_203 hlocks
  have i_46 : ¬ (f5_1 p0.toNatClampNeg).toInt = 8 := fun h9 => s_46 ((fa_eq _ _).mpr h9)
  by_cases s_51 : f5_1 p0.toNatClampNeg = 9
  · refine k_topi (y := 9) s_51 ?_
    have i_51 : (f5_1 p0.toNatClampNeg).toInt = 9 := (fa_eq _ _).mp s_51
    refine lv_tableIn (off := 164) (tgt := 204) hx hb dX0_take_40 (by decide) (by decide) rfl (by decide) ?_
    have hx9 := kA_f hA9 (by omega)
    refine lv_aload_n hx hb dX0_take_204 rfl (lv_at hl 3 rfl) ?_
    refine k_get (v := .ref o2) E h (fun w h => List.mem_cons_of_mem _ (List.mem_append_left _ (List.mem_append_left _ (List.mem_append_right _ h)))) 0 rfl rfl 3 (Nat.le_of_ble_eq_true rfl) (List.mem_of_getElem? (i := 6) rfl) rfl dX0_take_205 ?_
    refine k_get (v := .ref a2_1) E h (fun w h => List.mem_cons_of_mem _ (List.mem_append_right _ h)) 6 rfl rfl 1 (Nat.le_of_ble_eq_true rfl) (List.mem_of_getElem? (i := 7) rfl) rfl dX0_take_208 ?_
    refine lv_bipush (v := 8) hx hb dX0_take_211 kbi_8 ?_
    refine lv_iload_n hx hb dX0_take_213 rfl (lv_at hl 1 rfl) ?_
    refine lv_iadd hx hb dX0_take_214 ?_
    have e_52 : ((8 : Int32) + (f5_3 p0.toNatClampNeg)).toInt = 8 + (f5_3 p0.toNatClampNeg).toInt := by rw [Int32.toInt_add]; exact fb_bmod (z := 8 + (f5_3 p0.toNatClampNeg).toInt) (by omega) (by omega)
    refine k_lald (v := f2_1 (8 + (f5_3 p0.toNatClampNeg)).toNatClampNeg) E h 8 5 rfl rfl (vp_in_iff.mpr (by omega)) rfl dX0_take_215 ?_
    refine lv_iload hx hb dX0_take_216 (lv_at hl 0 rfl) ?_
    refine lv_i2l (v := (f5_4 p0.toNatClampNeg).toInt64) hx hb dX0_take_218 rfl ?_
    refine W.lcmp hx hb dX0_take_219 ?_
    refine lv_if_ne (tgt := 227) hx hb dX0_take_220 rfl (fun c_53 => ?_) (fun c_53 => ?_)
    · skip
      have i_53 : ¬ (f2_1 (8 + (f5_3 p0.toNatClampNeg)).toNatClampNeg).toInt = (f5_4 p0.toNatClampNeg).toInt := by have z := keq_n c_53; first | exact z | (simp only [Int32.toInt_toInt64] at z; exact z)
      have j_53 := keq64_n c_53
      refine lv_iconst (v := 0) hx hb dX0_take_227 kic_0 ?_
      have hP9 := h.2.1.sub [0, 1, 2, 3, 4, 5, 6, 7, 8, 9, 10] rfl
      have hD9 := h.2.2.1.sub (ws' := [(o0, .inr (0, [.int v0_0, .int v0_1, .int v0_2, .ref o2, .ref o5, .ref o3, .ref a0_6, .ref a0_7, .int v0_8, .ref a0_9])), (o5, .inr (5, [.ref a5_0, .ref a5_1, .ref a5_2, .ref a5_3, .ref a5_4, .ref a5_5, .ref a5_6])), (a5_1, .inl (c5_1, 120, .inl f5_1)), (a5_2, .inl (c5_2, 120, .inl f5_2)), (a5_3, .inl (c5_3, 120, .inl f5_3)), (a5_4, .inl (c5_4, 120, .inl f5_4)), (o2, .inr (2, [.ref a2_0, .ref a2_1, .ref a2_2, .ref a2_3, .int v2_4])), (a2_0, .inl (c2_0, 8, .inl f2_0)), (a2_1, .inl (c2_1, 74, .inr (.inl f2_1))), (a0_6, .inl (c0_6, 30, .inl f0_6)), (a0_7, .inl (c0_7, 30, .inr (.inl f0_7)))]) [0, 1, 2, 3, 4, 5, 6, 7, 8, 9, 10] (by decide +kernel) rfl
      exact W.iret (v := 0) hx hb hr (fun t ht hW => ⟨⟨0, (v0_8, f0_6, f0_7), rfl, ⟨hQ, hw⟩, (by rw [ht]; exact hP9), hD9⟩, h.2.2.2.1.F ht⟩) h.2.2.2.1.2.2 dX0_take_228 hlocks
    · skip
      have i_53 : (f2_1 (8 + (f5_3 p0.toNatClampNeg)).toNatClampNeg).toInt = (f5_4 p0.toNatClampNeg).toInt := by have z := keq_p c_53; first | exact z | (simp only [Int32.toInt_toInt64] at z; exact z)
      have j_53 := keq64_p c_53
      refine lv_iconst (v := 1) hx hb dX0_take_223 kic_1 ?_
      refine lv_goto (tgt := 228) hx hb dX0_take_224 rfl ?_
      have hP9 := h.2.1.sub [0, 1, 2, 3, 4, 5, 6, 7, 8, 9, 10] rfl
      have hD9 := h.2.2.1.sub (ws' := [(o0, .inr (0, [.int v0_0, .int v0_1, .int v0_2, .ref o2, .ref o5, .ref o3, .ref a0_6, .ref a0_7, .int v0_8, .ref a0_9])), (o5, .inr (5, [.ref a5_0, .ref a5_1, .ref a5_2, .ref a5_3, .ref a5_4, .ref a5_5, .ref a5_6])), (a5_1, .inl (c5_1, 120, .inl f5_1)), (a5_2, .inl (c5_2, 120, .inl f5_2)), (a5_3, .inl (c5_3, 120, .inl f5_3)), (a5_4, .inl (c5_4, 120, .inl f5_4)), (o2, .inr (2, [.ref a2_0, .ref a2_1, .ref a2_2, .ref a2_3, .int v2_4])), (a2_0, .inl (c2_0, 8, .inl f2_0)), (a2_1, .inl (c2_1, 74, .inr (.inl f2_1))), (a0_6, .inl (c0_6, 30, .inl f0_6)), (a0_7, .inl (c0_7, 30, .inr (.inl f0_7)))]) [0, 1, 2, 3, 4, 5, 6, 7, 8, 9, 10] (by decide +kernel) rfl
      exact W.iret (v := 1) hx hb hr (fun t ht hW => ⟨⟨1, (v0_8, f0_6, f0_7), rfl, ⟨hQ, hw⟩, (by rw [ht]; exact hP9), hD9⟩, h.2.2.2.1.F ht⟩) h.2.2.2.1.2.2 dX0_take_228 hlocks
  have i_51 : ¬ (f5_1 p0.toNatClampNeg).toInt = 9 := fun h9 => s_51 ((fa_eq _ _).mpr h9)
  by_cases s_54 : f5_1 p0.toNatClampNeg = 10
  · refine k_topi (y := 10) s_54 ?_
    have i_54 : (f5_1 p0.toNatClampNeg).toInt = 10 := (fa_eq _ _).mp s_54
    refine lv_tableIn (off := 189) (tgt := 229) hx hb dX0_take_40 (by decide) (by decide) rfl (by decide) ?_
    have hx9 := kA_f hA9 (by omega)
    refine lv_aload_n hx hb dX0_take_229 rfl (lv_at hl 3 rfl) ?_
    refine k_get (v := .ref o2) E h (fun w h => List.mem_cons_of_mem _ (List.mem_append_left _ (List.mem_append_left _ (List.mem_append_right _ h)))) 0 rfl rfl 3 (Nat.le_of_ble_eq_true rfl) (List.mem_of_getElem? (i := 6) rfl) rfl dX0_take_230 ?_
    refine k_get (v := .ref a2_1) E h (fun w h => List.mem_cons_of_mem _ (List.mem_append_right _ h)) 6 rfl rfl 1 (Nat.le_of_ble_eq_true rfl) (List.mem_of_getElem? (i := 7) rfl) rfl dX0_take_233 ?_
    refine lv_bipush (v := 8) hx hb dX0_take_236 kbi_8 ?_
    refine lv_iload_n hx hb dX0_take_238 rfl (lv_at hl 1 rfl) ?_
    refine lv_iadd hx hb dX0_take_239 ?_
    have e_55 : ((8 : Int32) + (f5_3 p0.toNatClampNeg)).toInt = 8 + (f5_3 p0.toNatClampNeg).toInt := by rw [Int32.toInt_add]; exact fb_bmod (z := 8 + (f5_3 p0.toNatClampNeg).toInt) (by omega) (by omega)
    refine k_lald (v := f2_1 (8 + (f5_3 p0.toNatClampNeg)).toNatClampNeg) E h 8 5 rfl rfl (vp_in_iff.mpr (by omega)) rfl dX0_take_240 ?_
    refine lv_iload hx hb dX0_take_241 (lv_at hl 0 rfl) ?_
    refine lv_i2l (v := (f5_4 p0.toNatClampNeg).toInt64) hx hb dX0_take_243 rfl ?_
    refine W.lcmp hx hb dX0_take_244 ?_
    refine lv_if_ne (tgt := 252) hx hb dX0_take_245 rfl (fun c_56 => ?_) (fun c_56 => ?_)
    · skip
      have i_56 : ¬ (f2_1 (8 + (f5_3 p0.toNatClampNeg)).toNatClampNeg).toInt = (f5_4 p0.toNatClampNeg).toInt := by have z := keq_n c_56; first | exact z | (simp only [Int32.toInt_toInt64] at z; exact z)
      have j_56 := keq64_n c_56
      refine lv_iconst (v := 0) hx hb dX0_take_252 kic_0 ?_
      have hP9 := h.2.1.sub [0, 1, 2, 3, 4, 5, 6, 7, 8, 9, 10] rfl
      have hD9 := h.2.2.1.sub (ws' := [(o0, .inr (0, [.int v0_0, .int v0_1, .int v0_2, .ref o2, .ref o5, .ref o3, .ref a0_6, .ref a0_7, .int v0_8, .ref a0_9])), (o5, .inr (5, [.ref a5_0, .ref a5_1, .ref a5_2, .ref a5_3, .ref a5_4, .ref a5_5, .ref a5_6])), (a5_1, .inl (c5_1, 120, .inl f5_1)), (a5_2, .inl (c5_2, 120, .inl f5_2)), (a5_3, .inl (c5_3, 120, .inl f5_3)), (a5_4, .inl (c5_4, 120, .inl f5_4)), (o2, .inr (2, [.ref a2_0, .ref a2_1, .ref a2_2, .ref a2_3, .int v2_4])), (a2_0, .inl (c2_0, 8, .inl f2_0)), (a2_1, .inl (c2_1, 74, .inr (.inl f2_1))), (a0_6, .inl (c0_6, 30, .inl f0_6)), (a0_7, .inl (c0_7, 30, .inr (.inl f0_7)))]) [0, 1, 2, 3, 4, 5, 6, 7, 8, 9, 10] (by decide +kernel) rfl
      exact W.iret (v := 0) hx hb hr (fun t ht hW => ⟨⟨0, (v0_8, f0_6, f0_7), rfl, ⟨hQ, hw⟩, (by rw [ht]; exact hP9), hD9⟩, h.2.2.2.1.F ht⟩) h.2.2.2.1.2.2 dX0_take_253 hlocks
    · skip
      have i_56 : (f2_1 (8 + (f5_3 p0.toNatClampNeg)).toNatClampNeg).toInt = (f5_4 p0.toNatClampNeg).toInt := by have z := keq_p c_56; first | exact z | (simp only [Int32.toInt_toInt64] at z; exact z)
      have j_56 := keq64_p c_56
      refine lv_iconst (v := 2) hx hb dX0_take_248 kic_2 ?_
      refine lv_goto (tgt := 253) hx hb dX0_take_249 rfl ?_
      have hP9 := h.2.1.sub [0, 1, 2, 3, 4, 5, 6, 7, 8, 9, 10] rfl
      have hD9 := h.2.2.1.sub (ws' := [(o0, .inr (0, [.int v0_0, .int v0_1, .int v0_2, .ref o2, .ref o5, .ref o3, .ref a0_6, .ref a0_7, .int v0_8, .ref a0_9])), (o5, .inr (5, [.ref a5_0, .ref a5_1, .ref a5_2, .ref a5_3, .ref a5_4, .ref a5_5, .ref a5_6])), (a5_1, .inl (c5_1, 120, .inl f5_1)), (a5_2, .inl (c5_2, 120, .inl f5_2)), (a5_3, .inl (c5_3, 120, .inl f5_3)), (a5_4, .inl (c5_4, 120, .inl f5_4)), (o2, .inr (2, [.ref a2_0, .ref a2_1, .ref a2_2, .ref a2_3, .int v2_4])), (a2_0, .inl (c2_0, 8, .inl f2_0)), (a2_1, .inl (c2_1, 74, .inr (.inl f2_1))), (a0_6, .inl (c0_6, 30, .inl f0_6)), (a0_7, .inl (c0_7, 30, .inr (.inl f0_7)))]) [0, 1, 2, 3, 4, 5, 6, 7, 8, 9, 10] (by decide +kernel) rfl
      exact W.iret (v := 2) hx hb hr (fun t ht hW => ⟨⟨2, (v0_8, f0_6, f0_7), rfl, ⟨hQ, hw⟩, (by rw [ht]; exact hP9), hD9⟩, h.2.2.2.1.F ht⟩) h.2.2.2.1.2.2 dX0_take_253 hlocks
  have i_54 : ¬ (f5_1 p0.toNatClampNeg).toInt = 10 := fun h9 => s_54 ((fa_eq _ _).mpr h9)
  refine lv_tableOut (tgt := 254) hx hb dX0_take_40 (by omega) (by decide) ?_
  have hd9 := kA_d hA9 (by omega)
  have hx9 := kA_x hA9 (by omega) (by omega)
  have hy9 := kA_y hA9 (by omega) (by omega) (by omega) (by omega)
  refine lv_aload_n hx hb dX0_take_254 rfl (lv_at hl 3 rfl) ?_
  refine lv_aload_n hx hb dX0_take_255 rfl (lv_at hl 3 rfl) ?_
  refine k_get (v := .ref o5) E h (fun w h => List.mem_cons_of_mem _ (List.mem_append_left _ (List.mem_append_left _ (List.mem_append_right _ h)))) 0 rfl rfl 4 (Nat.le_of_ble_eq_true rfl) (List.mem_of_getElem? (i := 1) rfl) rfl dX0_take_256 ?_
  refine k_get (v := .ref a5_1) E h (fun w h => List.mem_cons_of_mem _ (List.mem_append_left _ (List.mem_append_right _ h))) 1 rfl rfl 1 (Nat.le_of_ble_eq_true rfl) (List.mem_of_getElem? (i := 5) rfl) rfl dX0_take_259 ?_
  refine lv_iload_n hx hb dX0_take_262 rfl (lv_at hl 4 rfl) ?_
  refine k_iald (v := f5_1 p0.toNatClampNeg) E h 2 0 rfl rfl (vp_in_iff.mpr (by omega)) rfl dX0_take_263 ?_
  refine lv_iload_n hx hb dX0_take_264 rfl (lv_at hl 2 rfl) ?_
  refine lv_aload_n hx hb dX0_take_265 rfl (lv_at hl 3 rfl) ?_
  refine k_get (v := .ref o2) E h (fun w h => List.mem_cons_of_mem _ (List.mem_append_left _ (List.mem_append_left _ (List.mem_append_right _ h)))) 0 rfl rfl 3 (Nat.le_of_ble_eq_true rfl) (List.mem_of_getElem? (i := 6) rfl) rfl dX0_take_266 ?_
  refine k_get (v := .ref a2_1) E h (fun w h => List.mem_cons_of_mem _ (List.mem_append_right _ h)) 6 rfl rfl 1 (Nat.le_of_ble_eq_true rfl) (List.mem_of_getElem? (i := 7) rfl) rfl dX0_take_269 ?_
  refine lv_iload_n hx hb dX0_take_272 rfl (lv_at hl 1 rfl) ?_
  refine W.eq (g2 := F0 m 273 ls [.int (f5_3 p0.toNatClampNeg), .ref a2_1, .int (f5_2 p0.toNatClampNeg), .int (f5_1 p0.toNatClampNeg), .ref o0]) rfl ?_
  refine k_lald (v := f2_1 (f5_3 p0.toNatClampNeg).toNatClampNeg) E h 8 5 rfl rfl (vp_in_iff.mpr (by omega)) rfl dX0_take_273 ?_
  refine lv_aload_n hx hb dX0_take_274 rfl (lv_at hl 3 rfl) ?_
  refine k_get (v := .ref o2) E h (fun w h => List.mem_cons_of_mem _ (List.mem_append_left _ (List.mem_append_left _ (List.mem_append_right _ h)))) 0 rfl rfl 3 (Nat.le_of_ble_eq_true rfl) (List.mem_of_getElem? (i := 6) rfl) rfl dX0_take_275 ?_
  refine k_get (v := .ref a2_1) E h (fun w h => List.mem_cons_of_mem _ (List.mem_append_right _ h)) 6 rfl rfl 1 (Nat.le_of_ble_eq_true rfl) (List.mem_of_getElem? (i := 7) rfl) rfl dX0_take_278 ?_
  refine lv_iload hx hb dX0_take_281 (lv_at hl 0 rfl) ?_
  refine k_lald (v := f2_1 (f5_4 p0.toNatClampNeg).toNatClampNeg) E h 8 5 rfl rfl (vp_in_iff.mpr (by omega)) rfl dX0_take_283 ?_
  refine kc_v (wc := [(o0, .inr (0, [.int v0_0, .int v0_1, .int v0_2, .ref o2, .ref o5, .ref o3, .ref a0_6, .ref a0_7, .int v0_8, .ref a0_9])), (o2, .inr (2, [.ref a2_0, .ref a2_1, .ref a2_2, .ref a2_3, .int v2_4])), (a2_0, .inl (c2_0, 8, .inl f2_0)), (a0_6, .inl (c0_6, 30, .inl f0_6)), (a0_7, .inl (c0_7, 30, .inr (.inl f0_7)))]) (wr := [(o5, .inr (5, [.ref a5_0, .ref a5_1, .ref a5_2, .ref a5_3, .ref a5_4, .ref a5_5, .ref a5_6])), (a5_1, .inl (c5_1, 120, .inl f5_1)), (a5_2, .inl (c5_2, 120, .inl f5_2)), (a5_3, .inl (c5_3, 120, .inl f5_3)), (a5_4, .inl (c5_4, 120, .inl f5_4)), (a2_1, .inl (c2_1, 74, .inr (.inl f2_1)))]) h (va_runV (As := [.int (f5_1 p0.toNatClampNeg), .int (f5_2 p0.toNatClampNeg), .long (f2_1 (f5_3 p0.toNatClampNeg).toNatClampNeg), .long (f2_1 (f5_4 p0.toNatClampNeg).toNatClampNeg)]) (rest := []) E (c_X0_work l dC dI _ (o0 := o0) (v0_0 := v0_0) (v0_1 := v0_1) (v0_2 := v0_2) (o2 := o2) (o5 := o5) (o3 := o3) (a0_6 := a0_6) (a0_7 := a0_7) (v0_8 := v0_8) (a0_9 := a0_9) (a2_0 := a2_0) (a2_1 := a2_1) (a2_2 := a2_2) (a2_3 := a2_3) (v2_4 := v2_4) (c2_0 := c2_0) (f2_0 := f2_0) (c0_6 := c0_6) (f0_6 := f0_6) (c0_7 := c0_7) (f0_7 := f0_7) (p0 := f5_1 p0.toNatClampNeg) (p1 := f5_2 p0.toNatClampNeg) (p2 := f2_1 (f5_3 p0.toNatClampNeg).toNatClampNeg) (p3 := f2_1 (f5_4 p0.toNatClampNeg).toNatClampNeg)  (hQ := hQ) (hw := hw) (hp := (by first | decide | omega))) (cwV 4 E.2.2.2.2 gX0_take_X0_work rfl rfl rfl hdV_X0_work ⟨Nat.le_of_ble_eq_true rfl, Nat.le_of_ble_eq_true rfl⟩) (kPreV (q0 := 0) (ci := 0) (q := (RX0, TX0, 10)) h KX_true (fun _ _ _ => trivial) [0, 6, 7, 9, 10] [4, 6, 7] (by decide) rfl rfl rfl rfl) rfl rfl hl.1 rfl (lv_room (Nat.le_of_ble_eq_true rfl)) dX0_take_284 ⟨Nat.le_of_ble_eq_true rfl, Nat.le_of_ble_eq_true rfl⟩) [0, 6, 7, 9, 10] [1, 2, 3, 4, 5, 8] rfl rfl (by decide +kernel) (by decide +kernel) (fun u_57 H locs hw_57 h => ?_)
  obtain ⟨z_58, z_59, z_60⟩ := u_57
  have h : KS (dC, dI) A [(o5, .inr (5, [.ref a5_0, .ref a5_1, .ref a5_2, .ref a5_3, .ref a5_4, .ref a5_5, .ref a5_6])), (a5_1, .inl (c5_1, 120, .inl f5_1)), (a5_2, .inl (c5_2, 120, .inl f5_2)), (a5_3, .inl (c5_3, 120, .inl f5_3)), (a5_4, .inl (c5_4, 120, .inl f5_4)), (a2_1, .inl (c2_1, 74, .inr (.inl f2_1))), (o0, .inr (0, [.int v0_0, .int v0_1, .int v0_2, .ref o2, .ref o5, .ref o3, .ref a0_6, .ref a0_7, .int z_58, .ref a0_9])), (o2, .inr (2, [.ref a2_0, .ref a2_1, .ref a2_2, .ref a2_3, .int v2_4])), (a2_0, .inl (c2_0, 8, .inl f2_0)), (a0_6, .inl (c0_6, 30, .inl z_59)), (a0_7, .inl (c0_7, 30, .inr (.inl z_60)))] [(c5_1, .int), (c5_2, .int), (c5_3, .int), (c5_4, .int), (c2_0, .int), (c2_1, .long), (c0_6, .int), (c0_7, .long)] s H locs := h
  have hw_57 : IP z_59 ∧ (0 ≤ z_58.toInt ∧ z_58.toInt ≤ 30) := by first | exact hw_57 | (simp only [Int32.toInt_toInt64] at hw_57; exact hw_57)
  refine W.eq (g2 := F0 m 287 ls []) rfl ?_
  refine lv_iconst (v := 0) hx hb dX0_take_287 kic_0 ?_
  have hP9 := h.2.1.sub [6, 0, 1, 2, 3, 4, 7, 8, 5, 9, 10] rfl
  have hD9 := h.2.2.1.sub (ws' := [(o0, .inr (0, [.int v0_0, .int v0_1, .int v0_2, .ref o2, .ref o5, .ref o3, .ref a0_6, .ref a0_7, .int z_58, .ref a0_9])), (o5, .inr (5, [.ref a5_0, .ref a5_1, .ref a5_2, .ref a5_3, .ref a5_4, .ref a5_5, .ref a5_6])), (a5_1, .inl (c5_1, 120, .inl f5_1)), (a5_2, .inl (c5_2, 120, .inl f5_2)), (a5_3, .inl (c5_3, 120, .inl f5_3)), (a5_4, .inl (c5_4, 120, .inl f5_4)), (o2, .inr (2, [.ref a2_0, .ref a2_1, .ref a2_2, .ref a2_3, .int v2_4])), (a2_0, .inl (c2_0, 8, .inl f2_0)), (a2_1, .inl (c2_1, 74, .inr (.inl f2_1))), (a0_6, .inl (c0_6, 30, .inl z_59)), (a0_7, .inl (c0_7, 30, .inr (.inl z_60)))]) [6, 0, 1, 2, 3, 4, 7, 8, 5, 9, 10] (by decide +kernel) rfl
  exact W.iret (v := 0) hx hb hr (fun t ht hW => ⟨⟨0, (z_58, z_59, z_60), rfl, hw_57, (by rw [ht]; exact hP9), hD9⟩, h.2.2.2.1.F ht⟩) h.2.2.2.1.2.2 dX0_take_288 hlocks
set_option maxHeartbeats 4000000 in
set_option maxRecDepth 100000 in
theorem c_X2_putAndRemember (l : Launch) (dC : Nat → ClassId) (dI : Nat → Nat → Nat) (sz : Nat) (o2 : Nat) (a2_0 : Nat) (a2_1 : Nat) (a2_2 : Nat) (a2_3 : Nat) (v2_4 : Int32) (c2_0 : ClassId) (f2_0 : Nat → Int32) (c2_1 : ClassId) (f2_1 : Nat → Int64) (c2_2 : ClassId) (f2_2 : Nat → Int32) (c2_3 : ClassId) (f2_3 : Nat → Int64) (p0 : Int32) (p1 : Int64) (hIw : IW f2_0) (hN : IN f2_1) (hO : IP f2_2) (hM : IO f2_3) (hol : 0 ≤ v2_4.toInt ∧ v2_4.toInt ≤ 30) (hp : 0 ≤ p0.toInt ∧ p0.toInt < 74) : Met l yX2_putAndRemember wsX2_putAndRemember ({ frames := 2, cells := 0, slots := 0, locals := 49 } : Room) (va_Pc [.ref o2, .int p0, .long p1] (KPre (dC, dI) [(o2, .inr (2, [.ref a2_0, .ref a2_1, .ref a2_2, .ref a2_3, .int v2_4])), (a2_0, .inl (c2_0, 8, .inl f2_0)), (a2_1, .inl (c2_1, 74, .inr (.inl f2_1))), (a2_2, .inl (c2_2, 30, .inl f2_2)), (a2_3, .inl (c2_3, 30, .inr (.inl f2_3)))] [(c2_0, .int), (c2_1, .long), (c2_2, .int), (c2_3, .long)] sz (fun _ => True))) (va_Qv (fun (u : (Nat → Int64) × (Nat → Int32) × (Nat → Int64) × Int32) => IN u.1 ∧ IP u.2.1 ∧ IO u.2.2.1 ∧ (0 ≤ u.2.2.2.toInt ∧ u.2.2.2.toInt ≤ 30)) (KPost (dC, dI) (va_A [(o2, .inr (2, [.ref a2_0, .ref a2_1, .ref a2_2, .ref a2_3, .int v2_4])), (a2_0, .inl (c2_0, 8, .inl f2_0)), (a2_1, .inl (c2_1, 74, .inr (.inl f2_1))), (a2_2, .inl (c2_2, 30, .inl f2_2)), (a2_3, .inl (c2_3, 30, .inr (.inl f2_3)))] sz) (fun (u : (Nat → Int64) × (Nat → Int32) × (Nat → Int64) × Int32) => [(o2, .inr (2, [.ref a2_0, .ref a2_1, .ref a2_2, .ref a2_3, .int u.2.2.2])), (a2_0, .inl (c2_0, 8, .inl f2_0)), (a2_1, .inl (c2_1, 74, .inr (.inl u.1))), (a2_2, .inl (c2_2, 30, .inl u.2.1)), (a2_3, .inl (c2_3, 30, .inr (.inl u.2.2.1)))])) (va_A [(o2, .inr (2, [.ref a2_0, .ref a2_1, .ref a2_2, .ref a2_3, .int v2_4])), (a2_0, .inl (c2_0, 8, .inl f2_0)), (a2_1, .inl (c2_1, 74, .inr (.inl f2_1))), (a2_2, .inl (c2_2, 30, .inl f2_2)), (a2_3, .inl (c2_3, 30, .inr (.inl f2_3)))] sz)) 0 0 (va_A [(o2, .inr (2, [.ref a2_0, .ref a2_1, .ref a2_2, .ref a2_3, .int v2_4])), (a2_0, .inl (c2_0, 8, .inl f2_0)), (a2_1, .inl (c2_1, 74, .inr (.inl f2_1))), (a2_2, .inl (c2_2, 30, .inl f2_2)), (a2_3, .inl (c2_3, 30, .inr (.inl f2_3)))] sz) := by
  refine kMet (y := yX2_putAndRemember) (wsM := wsX2_putAndRemember) (cc := cX2_putAndRemember) (maxL := 4) (ret := none) (rm := ({ frames := 2, cells := 0, slots := 0, locals := 49 } : Room)) (mc := 0) (ms := 0) (av := [.ref o2, .int p0, .long p1]) (D := (dC, dI)) (wc := [(o2, .inr (2, [.ref a2_0, .ref a2_1, .ref a2_2, .ref a2_3, .int v2_4])), (a2_0, .inl (c2_0, 8, .inl f2_0)), (a2_1, .inl (c2_1, 74, .inr (.inl f2_1))), (a2_2, .inl (c2_2, 30, .inl f2_2)), (a2_3, .inl (c2_3, 30, .inr (.inl f2_3)))]) (tc := [(c2_0, .int), (c2_1, .long), (c2_2, .int), (c2_3, .long)]) (sz := sz) (X := fun _ => True) (Qc := fun A => va_Qv (fun (u : (Nat → Int64) × (Nat → Int32) × (Nat → Int64) × Int32) => IN u.1 ∧ IP u.2.1 ∧ IO u.2.2.1 ∧ (0 ≤ u.2.2.2.toInt ∧ u.2.2.2.toInt ≤ 30)) (KPost (dC, dI) A (fun (u : (Nat → Int64) × (Nat → Int32) × (Nat → Int64) × Int32) => [(o2, .inr (2, [.ref a2_0, .ref a2_1, .ref a2_2, .ref a2_3, .int u.2.2.2])), (a2_0, .inl (c2_0, 8, .inl f2_0)), (a2_1, .inl (c2_1, 74, .inr (.inl u.1))), (a2_2, .inl (c2_2, 30, .inl u.2.1)), (a2_3, .inl (c2_3, 30, .inr (.inl u.2.2.1)))])) A) (by decide) rfl (Nat.le_of_ble_eq_true rfl) ?_
  intro p e s m below meth c A ls E hr hlocks hnm hsz hAe hX h hl
  have hx := E.1
  have hb := E.2.1
  have hl : lv_has ls 4 [(0, .ref o2), (1, .int p0), (2, .long p1)] := hl
  refine lv_aload_n hx hb dX2_putAndRemember_0 rfl (lv_at hl 0 rfl) ?_
  refine k_get (v := .int v2_4) E h (fun w h => List.mem_cons_of_mem _ (List.mem_append_right _ h)) 0 rfl rfl 4 (Nat.le_of_ble_eq_true rfl) (List.mem_of_getElem? (i := 1) rfl) rfl dX2_putAndRemember_1 ?_
  refine lv_bipush (v := 30) hx hb dX2_putAndRemember_4 kbi_30 ?_
  refine lv_icmp_ge (tgt := 44) hx hb dX2_putAndRemember_6 rfl (fun c_1 => ?_) (fun c_1 => ?_)
  · skip
    have i_1 : 30 ≤ v2_4.toInt := (fa_le _ _).mp c_1
    refine lv_aload_n hx hb dX2_putAndRemember_44 rfl (lv_at hl 0 rfl) ?_
    refine lv_iload_n hx hb dX2_putAndRemember_45 rfl (lv_at hl 1 rfl) ?_
    refine lv_lload_n hx hb dX2_putAndRemember_46 rfl (lv_at hl 2 rfl) ?_
    refine kc_i (wc := [(o2, .inr (2, [.ref a2_0, .ref a2_1, .ref a2_2, .ref a2_3, .int v2_4])), (a2_0, .inl (c2_0, 8, .inl f2_0)), (a2_1, .inl (c2_1, 74, .inr (.inl f2_1)))]) (wr := [(a2_2, .inl (c2_2, 30, .inl f2_2)), (a2_3, .inl (c2_3, 30, .inr (.inl f2_3)))]) h (va_runV (As := [.int p0, .long p1]) (rest := []) E (c_X2_put l dC dI _ (o2 := o2) (a2_0 := a2_0) (a2_1 := a2_1) (a2_2 := a2_2) (a2_3 := a2_3) (v2_4 := v2_4) (c2_0 := c2_0) (f2_0 := f2_0) (c2_1 := c2_1) (f2_1 := f2_1) (p0 := p0) (p1 := p1)  (hp := (by first | decide | omega))) (cwV 2 E.2.2.2.2 gX2_putAndRemember_X2_put rfl rfl rfl hdV_X2_put ⟨Nat.le_of_ble_eq_true rfl, Nat.le_of_ble_eq_true rfl⟩) (kPreV (q0 := 0) (ci := 2) (q := (RX2, TX2, 5)) h KX_true (fun _ _ _ => trivial) [0, 1, 2] [0, 1] (by decide) rfl rfl rfl rfl) rfl rfl hl.1 rfl (lv_room (Nat.le_of_ble_eq_true rfl)) dX2_putAndRemember_47 ⟨Nat.le_of_ble_eq_true rfl, Nat.le_of_ble_eq_true rfl⟩) [0, 1, 2] [3, 4] rfl rfl (by decide) (by decide) (fun r_2 u_2 H locs hw_2 h => ?_)
    have h : KS (dC, dI) A [(a2_2, .inl (c2_2, 30, .inl f2_2)), (a2_3, .inl (c2_3, 30, .inr (.inl f2_3))), (o2, .inr (2, [.ref a2_0, .ref a2_1, .ref a2_2, .ref a2_3, .int v2_4])), (a2_0, .inl (c2_0, 8, .inl f2_0)), (a2_1, .inl (c2_1, 74, .inr (.inl (gput f2_0 f2_1 p0 p1))))] [(c2_0, .int), (c2_1, .long), (c2_2, .int), (c2_3, .long)] s H locs := h
    have hw_2 : r_2 = if kput f2_0 p0 p1 = f2_1 p0.toNatClampNeg then 0 else 1 := by first | exact hw_2 | (simp only [Int32.toInt_toInt64] at hw_2; exact hw_2)
    refine W.eq (g2 := F0 m 50 ls [.int r_2]) rfl ?_
    refine lv_pop hx hb dX2_putAndRemember_50 rfl ?_
    have hP9 := h.2.1.sub [2, 3, 4, 0, 1] rfl
    have hD9 := h.2.2.1.sub (ws' := [(o2, .inr (2, [.ref a2_0, .ref a2_1, .ref a2_2, .ref a2_3, .int v2_4])), (a2_0, .inl (c2_0, 8, .inl f2_0)), (a2_1, .inl (c2_1, 74, .inr (.inl (gput f2_0 f2_1 p0 p1)))), (a2_2, .inl (c2_2, 30, .inl f2_2)), (a2_3, .inl (c2_3, 30, .inr (.inl f2_3)))]) [2, 3, 4, 0, 1] (by decide) rfl
    exact W.vret hx hb hr (fun t ht hW => ⟨⟨(gput f2_0 f2_1 p0 p1, f2_2, f2_3, v2_4), rfl, ⟨IN_gput hIw hN hp.1, (by first | exact hO | exact IP_upd hO hp), (by first | exact hM | exact IO_upd hM (IN_at hN hp.1 hp.2)), (by show 0 ≤ (v2_4).toInt ∧ (v2_4).toInt ≤ 30; omega)⟩, (by rw [ht]; exact hP9), hD9⟩, h.2.2.2.1.F ht⟩) h.2.2.2.1.2.2 dX2_putAndRemember_51 hlocks
  · skip
    have i_1 : ¬ 30 ≤ v2_4.toInt := fun h9 => c_1 ((fa_le _ _).mpr h9)
    refine lv_aload_n hx hb dX2_putAndRemember_9 rfl (lv_at hl 0 rfl) ?_
    refine k_get (v := .ref a2_2) E h (fun w h => List.mem_cons_of_mem _ (List.mem_append_right _ h)) 0 rfl rfl 2 (Nat.le_of_ble_eq_true rfl) (List.mem_of_getElem? (i := 2) rfl) rfl dX2_putAndRemember_10 ?_
    refine lv_aload_n hx hb dX2_putAndRemember_13 rfl (lv_at hl 0 rfl) ?_
    refine k_get (v := .int v2_4) E h (fun w h => List.mem_cons_of_mem _ (List.mem_append_right _ h)) 0 rfl rfl 4 (Nat.le_of_ble_eq_true rfl) (List.mem_of_getElem? (i := 1) rfl) rfl dX2_putAndRemember_14 ?_
    refine lv_iload_n hx hb dX2_putAndRemember_17 rfl (lv_at hl 1 rfl) ?_
    refine k_iast (j := v2_4.toNatClampNeg) (ws' := [(o2, .inr (2, [.ref a2_0, .ref a2_1, .ref a2_2, .ref a2_3, .int v2_4])), (a2_0, .inl (c2_0, 8, .inl f2_0)), (a2_1, .inl (c2_1, 74, .inr (.inl f2_1))), (a2_2, .inl (c2_2, 30, .inl (upd f2_2 v2_4.toNatClampNeg p0))), (a2_3, .inl (c2_3, 30, .inr (.inl f2_3)))]) E h 3 2 rfl rfl (vp_in_iff.mpr (by omega)) rfl rfl dX2_putAndRemember_18 (fun H locs h => ?_)
    refine lv_aload_n hx hb dX2_putAndRemember_19 rfl (lv_at hl 0 rfl) ?_
    refine k_get (v := .ref a2_3) E h (fun w h => List.mem_cons_of_mem _ (List.mem_append_right _ h)) 0 rfl rfl 3 (Nat.le_of_ble_eq_true rfl) (List.mem_of_getElem? (i := 3) rfl) rfl dX2_putAndRemember_20 ?_
    refine lv_aload_n hx hb dX2_putAndRemember_23 rfl (lv_at hl 0 rfl) ?_
    refine k_get (v := .int v2_4) E h (fun w h => List.mem_cons_of_mem _ (List.mem_append_right _ h)) 0 rfl rfl 4 (Nat.le_of_ble_eq_true rfl) (List.mem_of_getElem? (i := 1) rfl) rfl dX2_putAndRemember_24 ?_
    refine lv_aload_n hx hb dX2_putAndRemember_27 rfl (lv_at hl 0 rfl) ?_
    refine W.eq (g2 := F0 m 28 ls [.ref o2, .int v2_4, .ref a2_3]) rfl ?_
    refine k_get (v := .ref a2_1) E h (fun w h => List.mem_cons_of_mem _ (List.mem_append_right _ h)) 0 rfl rfl 1 (Nat.le_of_ble_eq_true rfl) (List.mem_of_getElem? (i := 4) rfl) rfl dX2_putAndRemember_28 ?_
    refine lv_iload_n hx hb dX2_putAndRemember_31 rfl (lv_at hl 1 rfl) ?_
    refine k_lald (v := f2_1 p0.toNatClampNeg) E h 2 1 rfl rfl (vp_in_iff.mpr (by omega)) rfl dX2_putAndRemember_32 ?_
    refine k_last (j := v2_4.toNatClampNeg) (ws' := [(o2, .inr (2, [.ref a2_0, .ref a2_1, .ref a2_2, .ref a2_3, .int v2_4])), (a2_0, .inl (c2_0, 8, .inl f2_0)), (a2_1, .inl (c2_1, 74, .inr (.inl f2_1))), (a2_2, .inl (c2_2, 30, .inl (upd f2_2 v2_4.toNatClampNeg p0))), (a2_3, .inl (c2_3, 30, .inr (.inl (vp_updL f2_3 v2_4.toNatClampNeg (f2_1 p0.toNatClampNeg)))))]) E h 4 3 rfl rfl (vp_in_iff.mpr (by omega)) rfl rfl dX2_putAndRemember_33 (fun H locs h => ?_)
    refine lv_aload_n hx hb dX2_putAndRemember_34 rfl (lv_at hl 0 rfl) ?_
    refine lv_dup hx hb dX2_putAndRemember_35 rfl ?_
    refine k_get (v := .int v2_4) E h (fun w h => List.mem_cons_of_mem _ (List.mem_append_right _ h)) 0 rfl rfl 4 (Nat.le_of_ble_eq_true rfl) (List.mem_of_getElem? (i := 1) rfl) rfl dX2_putAndRemember_36 ?_
    refine lv_iconst (v := 1) hx hb dX2_putAndRemember_39 kic_1 ?_
    refine lv_iadd hx hb dX2_putAndRemember_40 ?_
    have e_3 : (v2_4 + (1 : Int32)).toInt = v2_4.toInt + 1 := by rw [Int32.toInt_add]; exact fb_bmod (z := v2_4.toInt + 1) (by omega) (by omega)
    refine k_put (v := .int (v2_4 + 1)) (ty := .int) (ws' := [(o2, .inr (2, [.ref a2_0, .ref a2_1, .ref a2_2, .ref a2_3, .int (v2_4 + 1)])), (a2_0, .inl (c2_0, 8, .inl f2_0)), (a2_1, .inl (c2_1, 74, .inr (.inl f2_1))), (a2_2, .inl (c2_2, 30, .inl (upd f2_2 v2_4.toNatClampNeg p0))), (a2_3, .inl (c2_3, 30, .inr (.inl (vp_updL f2_3 v2_4.toNatClampNeg (f2_1 p0.toNatClampNeg)))))]) E h (fun w h => List.mem_cons_of_mem _ (List.mem_append_right _ h)) tyX2_ok nmX2 0 rfl rfl 4 (by decide) (List.mem_of_getElem? (i := 1) rfl) rfl (by decide +kernel) rfl rfl (Nat.le_of_ble_eq_true rfl) rfl dX2_putAndRemember_41 (fun H locs h => ?_)
    refine lv_aload_n hx hb dX2_putAndRemember_44 rfl (lv_at hl 0 rfl) ?_
    refine lv_iload_n hx hb dX2_putAndRemember_45 rfl (lv_at hl 1 rfl) ?_
    refine W.eq (g2 := F0 m 46 ls [.int p0, .ref o2]) rfl ?_
    refine lv_lload_n hx hb dX2_putAndRemember_46 rfl (lv_at hl 2 rfl) ?_
    refine kc_i (wc := [(o2, .inr (2, [.ref a2_0, .ref a2_1, .ref a2_2, .ref a2_3, .int (v2_4 + 1)])), (a2_0, .inl (c2_0, 8, .inl f2_0)), (a2_1, .inl (c2_1, 74, .inr (.inl f2_1)))]) (wr := [(a2_2, .inl (c2_2, 30, .inl (upd f2_2 v2_4.toNatClampNeg p0))), (a2_3, .inl (c2_3, 30, .inr (.inl (vp_updL f2_3 v2_4.toNatClampNeg (f2_1 p0.toNatClampNeg)))))]) h (va_runV (As := [.int p0, .long p1]) (rest := []) E (c_X2_put l dC dI _ (o2 := o2) (a2_0 := a2_0) (a2_1 := a2_1) (a2_2 := a2_2) (a2_3 := a2_3) (v2_4 := (v2_4 + 1)) (c2_0 := c2_0) (f2_0 := f2_0) (c2_1 := c2_1) (f2_1 := f2_1) (p0 := p0) (p1 := p1)  (hp := (by first | decide | omega))) (cwV 2 E.2.2.2.2 gX2_putAndRemember_X2_put rfl rfl rfl hdV_X2_put ⟨Nat.le_of_ble_eq_true rfl, Nat.le_of_ble_eq_true rfl⟩) (kPreV (q0 := 0) (ci := 2) (q := (RX2, TX2, 5)) h KX_true (fun _ _ _ => trivial) [0, 1, 2] [0, 1] (by decide) rfl rfl rfl rfl) rfl rfl hl.1 rfl (lv_room (Nat.le_of_ble_eq_true rfl)) dX2_putAndRemember_47 ⟨Nat.le_of_ble_eq_true rfl, Nat.le_of_ble_eq_true rfl⟩) [0, 1, 2] [3, 4] rfl rfl (by decide) (by decide) (fun r_4 u_4 H locs hw_4 h => ?_)
    have h : KS (dC, dI) A [(a2_2, .inl (c2_2, 30, .inl (upd f2_2 v2_4.toNatClampNeg p0))), (a2_3, .inl (c2_3, 30, .inr (.inl (vp_updL f2_3 v2_4.toNatClampNeg (f2_1 p0.toNatClampNeg))))), (o2, .inr (2, [.ref a2_0, .ref a2_1, .ref a2_2, .ref a2_3, .int (v2_4 + 1)])), (a2_0, .inl (c2_0, 8, .inl f2_0)), (a2_1, .inl (c2_1, 74, .inr (.inl (gput f2_0 f2_1 p0 p1))))] [(c2_0, .int), (c2_1, .long), (c2_2, .int), (c2_3, .long)] s H locs := h
    have hw_4 : r_4 = if kput f2_0 p0 p1 = f2_1 p0.toNatClampNeg then 0 else 1 := by first | exact hw_4 | (simp only [Int32.toInt_toInt64] at hw_4; exact hw_4)
    refine W.eq (g2 := F0 m 50 ls [.int r_4]) rfl ?_
    refine lv_pop hx hb dX2_putAndRemember_50 rfl ?_
    have hP9 := h.2.1.sub [2, 3, 4, 0, 1] rfl
    have hD9 := h.2.2.1.sub (ws' := [(o2, .inr (2, [.ref a2_0, .ref a2_1, .ref a2_2, .ref a2_3, .int (v2_4 + 1)])), (a2_0, .inl (c2_0, 8, .inl f2_0)), (a2_1, .inl (c2_1, 74, .inr (.inl (gput f2_0 f2_1 p0 p1)))), (a2_2, .inl (c2_2, 30, .inl (upd f2_2 v2_4.toNatClampNeg p0))), (a2_3, .inl (c2_3, 30, .inr (.inl (vp_updL f2_3 v2_4.toNatClampNeg (f2_1 p0.toNatClampNeg)))))]) [2, 3, 4, 0, 1] (by decide) rfl
    exact W.vret hx hb hr (fun t ht hW => ⟨⟨(gput f2_0 f2_1 p0 p1, upd f2_2 v2_4.toNatClampNeg p0, vp_updL f2_3 v2_4.toNatClampNeg (f2_1 p0.toNatClampNeg), (v2_4 + 1)), rfl, ⟨IN_gput hIw hN hp.1, (by first | exact hO | exact IP_upd hO hp), (by first | exact hM | exact IO_upd hM (IN_at hN hp.1 hp.2)), (by show 0 ≤ ((v2_4 + 1)).toInt ∧ ((v2_4 + 1)).toInt ≤ 30; omega)⟩, (by rw [ht]; exact hP9), hD9⟩, h.2.2.2.1.F ht⟩) h.2.2.2.1.2.2 dX2_putAndRemember_51 hlocks
