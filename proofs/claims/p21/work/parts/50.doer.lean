set_option maxHeartbeats 4000000 in
set_option maxRecDepth 100000 in
theorem c_X0_putLater (l : Launch) (dC : Nat → ClassId) (dI : Nat → Nat → Nat) (sz : Nat) (o0 : Nat) (v0_0 : Int32) (v0_1 : Int32) (v0_2 : Int32) (o2 : Nat) (o5 : Nat) (o3 : Nat) (a0_6 : Nat) (a0_7 : Nat) (v0_8 : Int32) (a0_9 : Nat) (c0_6 : ClassId) (f0_6 : Nat → Int32) (c0_7 : ClassId) (f0_7 : Nat → Int64) (p0 : Int32) (p1 : Int64) (hQ : IP f0_6) (hw : 0 ≤ v0_8.toInt ∧ v0_8.toInt ≤ 30) (hp : 0 ≤ p0.toInt ∧ p0.toInt < 74) : Met l yX0_putLater wsX0_putLater ({ frames := 0, cells := 0, slots := 0, locals := 0 } : Room) (va_Pc [.ref o0, .int p0, .long p1] (KPre (dC, dI) [(o0, .inr (0, [.int v0_0, .int v0_1, .int v0_2, .ref o2, .ref o5, .ref o3, .ref a0_6, .ref a0_7, .int v0_8, .ref a0_9])), (a0_6, .inl (c0_6, 30, .inl f0_6)), (a0_7, .inl (c0_7, 30, .inr (.inl f0_7)))] [(c0_6, .int), (c0_7, .long)] sz (fun _ => True))) (va_Qv (fun (u : Int32 × (Nat → Int32) × (Nat → Int64)) => IP u.2.1 ∧ (0 ≤ u.1.toInt ∧ u.1.toInt ≤ 30)) (KPost (dC, dI) (va_A [(o0, .inr (0, [.int v0_0, .int v0_1, .int v0_2, .ref o2, .ref o5, .ref o3, .ref a0_6, .ref a0_7, .int v0_8, .ref a0_9])), (a0_6, .inl (c0_6, 30, .inl f0_6)), (a0_7, .inl (c0_7, 30, .inr (.inl f0_7)))] sz) (fun (u : Int32 × (Nat → Int32) × (Nat → Int64)) => [(o0, .inr (0, [.int v0_0, .int v0_1, .int v0_2, .ref o2, .ref o5, .ref o3, .ref a0_6, .ref a0_7, .int u.1, .ref a0_9])), (a0_6, .inl (c0_6, 30, .inl u.2.1)), (a0_7, .inl (c0_7, 30, .inr (.inl u.2.2)))])) (va_A [(o0, .inr (0, [.int v0_0, .int v0_1, .int v0_2, .ref o2, .ref o5, .ref o3, .ref a0_6, .ref a0_7, .int v0_8, .ref a0_9])), (a0_6, .inl (c0_6, 30, .inl f0_6)), (a0_7, .inl (c0_7, 30, .inr (.inl f0_7)))] sz)) 0 0 (va_A [(o0, .inr (0, [.int v0_0, .int v0_1, .int v0_2, .ref o2, .ref o5, .ref o3, .ref a0_6, .ref a0_7, .int v0_8, .ref a0_9])), (a0_6, .inl (c0_6, 30, .inl f0_6)), (a0_7, .inl (c0_7, 30, .inr (.inl f0_7)))] sz) := by
  refine kMet (y := yX0_putLater) (wsM := wsX0_putLater) (cc := cX0_putLater) (maxL := 4) (ret := none) (rm := ({ frames := 0, cells := 0, slots := 0, locals := 0 } : Room)) (mc := 0) (ms := 0) (av := [.ref o0, .int p0, .long p1]) (D := (dC, dI)) (wc := [(o0, .inr (0, [.int v0_0, .int v0_1, .int v0_2, .ref o2, .ref o5, .ref o3, .ref a0_6, .ref a0_7, .int v0_8, .ref a0_9])), (a0_6, .inl (c0_6, 30, .inl f0_6)), (a0_7, .inl (c0_7, 30, .inr (.inl f0_7)))]) (tc := [(c0_6, .int), (c0_7, .long)]) (sz := sz) (X := fun _ => True) (Qc := fun A => va_Qv (fun (u : Int32 × (Nat → Int32) × (Nat → Int64)) => IP u.2.1 ∧ (0 ≤ u.1.toInt ∧ u.1.toInt ≤ 30)) (KPost (dC, dI) A (fun (u : Int32 × (Nat → Int32) × (Nat → Int64)) => [(o0, .inr (0, [.int v0_0, .int v0_1, .int v0_2, .ref o2, .ref o5, .ref o3, .ref a0_6, .ref a0_7, .int u.1, .ref a0_9])), (a0_6, .inl (c0_6, 30, .inl u.2.1)), (a0_7, .inl (c0_7, 30, .inr (.inl u.2.2)))])) A) (by decide) rfl (Nat.le_of_ble_eq_true rfl) ?_
  intro p e s m below meth c A ls E hr hlocks hnm hsz hAe hX h hl
  have hx := E.1
  have hb := E.2.1
  have hl : lv_has ls 4 [(0, .ref o0), (1, .int p0), (2, .long p1)] := hl
  refine lv_aload_n hx hb dX0_putLater_0 rfl (lv_at hl 0 rfl) ?_
  refine k_get (v := .int v0_8) E h (fun w h => List.mem_cons_of_mem _ (List.mem_append_right _ h)) 0 rfl rfl 8 (Nat.le_of_ble_eq_true rfl) (List.mem_of_getElem? (i := 1) rfl) rfl dX0_putLater_1 ?_
  refine lv_bipush (v := 30) hx hb dX0_putLater_4 kbi_30 ?_
  refine lv_icmp_ge (tgt := 39) hx hb dX0_putLater_6 rfl (fun c_1 => ?_) (fun c_1 => ?_)
  · skip
    have i_1 : 30 ≤ v0_8.toInt := (fa_le _ _).mp c_1
    have hP9 := h.2.1.sub [0, 1, 2] rfl
    have hD9 := h.2.2.1.sub (ws' := [(o0, .inr (0, [.int v0_0, .int v0_1, .int v0_2, .ref o2, .ref o5, .ref o3, .ref a0_6, .ref a0_7, .int v0_8, .ref a0_9])), (a0_6, .inl (c0_6, 30, .inl f0_6)), (a0_7, .inl (c0_7, 30, .inr (.inl f0_7)))]) [0, 1, 2] (by decide) rfl
    exact W.vret hx hb hr (fun t ht hW => ⟨⟨(v0_8, f0_6, f0_7), rfl, ⟨(by first | exact hQ | exact IP_upd hQ (by omega)), (by show 0 ≤ (v0_8).toInt ∧ (v0_8).toInt ≤ 30; omega)⟩, (by rw [ht]; exact hP9), hD9⟩, h.2.2.2.1.F ht⟩) h.2.2.2.1.2.2 dX0_putLater_39 hlocks
  · skip
    have i_1 : ¬ 30 ≤ v0_8.toInt := fun h9 => c_1 ((fa_le _ _).mpr h9)
    refine lv_aload_n hx hb dX0_putLater_9 rfl (lv_at hl 0 rfl) ?_
    refine k_get (v := .ref a0_6) E h (fun w h => List.mem_cons_of_mem _ (List.mem_append_right _ h)) 0 rfl rfl 6 (Nat.le_of_ble_eq_true rfl) (List.mem_of_getElem? (i := 2) rfl) rfl dX0_putLater_10 ?_
    refine lv_aload_n hx hb dX0_putLater_13 rfl (lv_at hl 0 rfl) ?_
    refine k_get (v := .int v0_8) E h (fun w h => List.mem_cons_of_mem _ (List.mem_append_right _ h)) 0 rfl rfl 8 (Nat.le_of_ble_eq_true rfl) (List.mem_of_getElem? (i := 1) rfl) rfl dX0_putLater_14 ?_
    refine lv_iload_n hx hb dX0_putLater_17 rfl (lv_at hl 1 rfl) ?_
    refine k_iast (j := v0_8.toNatClampNeg) (ws' := [(o0, .inr (0, [.int v0_0, .int v0_1, .int v0_2, .ref o2, .ref o5, .ref o3, .ref a0_6, .ref a0_7, .int v0_8, .ref a0_9])), (a0_6, .inl (c0_6, 30, .inl (upd f0_6 v0_8.toNatClampNeg p0))), (a0_7, .inl (c0_7, 30, .inr (.inl f0_7)))]) E h 1 0 rfl rfl (vp_in_iff.mpr (by omega)) rfl rfl dX0_putLater_18 (fun H locs h => ?_)
    refine lv_aload_n hx hb dX0_putLater_19 rfl (lv_at hl 0 rfl) ?_
    refine k_get (v := .ref a0_7) E h (fun w h => List.mem_cons_of_mem _ (List.mem_append_right _ h)) 0 rfl rfl 7 (Nat.le_of_ble_eq_true rfl) (List.mem_of_getElem? (i := 3) rfl) rfl dX0_putLater_20 ?_
    refine lv_aload_n hx hb dX0_putLater_23 rfl (lv_at hl 0 rfl) ?_
    refine k_get (v := .int v0_8) E h (fun w h => List.mem_cons_of_mem _ (List.mem_append_right _ h)) 0 rfl rfl 8 (Nat.le_of_ble_eq_true rfl) (List.mem_of_getElem? (i := 1) rfl) rfl dX0_putLater_24 ?_
    refine lv_lload_n hx hb dX0_putLater_27 rfl (lv_at hl 2 rfl) ?_
    refine W.eq (g2 := F0 m 28 ls [.long p1, .int v0_8, .ref a0_7]) rfl ?_
    refine k_last (j := v0_8.toNatClampNeg) (ws' := [(o0, .inr (0, [.int v0_0, .int v0_1, .int v0_2, .ref o2, .ref o5, .ref o3, .ref a0_6, .ref a0_7, .int v0_8, .ref a0_9])), (a0_6, .inl (c0_6, 30, .inl (upd f0_6 v0_8.toNatClampNeg p0))), (a0_7, .inl (c0_7, 30, .inr (.inl (vp_updL f0_7 v0_8.toNatClampNeg p1))))]) E h 2 1 rfl rfl (vp_in_iff.mpr (by omega)) rfl rfl dX0_putLater_28 (fun H locs h => ?_)
    refine lv_aload_n hx hb dX0_putLater_29 rfl (lv_at hl 0 rfl) ?_
    refine lv_dup hx hb dX0_putLater_30 rfl ?_
    refine k_get (v := .int v0_8) E h (fun w h => List.mem_cons_of_mem _ (List.mem_append_right _ h)) 0 rfl rfl 8 (Nat.le_of_ble_eq_true rfl) (List.mem_of_getElem? (i := 1) rfl) rfl dX0_putLater_31 ?_
    refine lv_iconst (v := 1) hx hb dX0_putLater_34 kic_1 ?_
    refine lv_iadd hx hb dX0_putLater_35 ?_
    have e_2 : (v0_8 + (1 : Int32)).toInt = v0_8.toInt + 1 := by rw [Int32.toInt_add]; exact fb_bmod (z := v0_8.toInt + 1) (by omega) (by omega)
    refine k_put (v := .int (v0_8 + 1)) (ty := .int) (ws' := [(o0, .inr (0, [.int v0_0, .int v0_1, .int v0_2, .ref o2, .ref o5, .ref o3, .ref a0_6, .ref a0_7, .int (v0_8 + 1), .ref a0_9])), (a0_6, .inl (c0_6, 30, .inl (upd f0_6 v0_8.toNatClampNeg p0))), (a0_7, .inl (c0_7, 30, .inr (.inl (vp_updL f0_7 v0_8.toNatClampNeg p1))))]) E h (fun w h => List.mem_cons_of_mem _ (List.mem_append_right _ h)) tyX0_ok nmX0 0 rfl rfl 8 (by decide) (List.mem_of_getElem? (i := 1) rfl) rfl (by decide +kernel) rfl rfl (Nat.le_of_ble_eq_true rfl) rfl dX0_putLater_36 (fun H locs h => ?_)
    have hP9 := h.2.1.sub [0, 1, 2] rfl
    have hD9 := h.2.2.1.sub (ws' := [(o0, .inr (0, [.int v0_0, .int v0_1, .int v0_2, .ref o2, .ref o5, .ref o3, .ref a0_6, .ref a0_7, .int (v0_8 + 1), .ref a0_9])), (a0_6, .inl (c0_6, 30, .inl (upd f0_6 v0_8.toNatClampNeg p0))), (a0_7, .inl (c0_7, 30, .inr (.inl (vp_updL f0_7 v0_8.toNatClampNeg p1))))]) [0, 1, 2] (by decide) rfl
    exact W.vret hx hb hr (fun t ht hW => ⟨⟨((v0_8 + 1), upd f0_6 v0_8.toNatClampNeg p0, vp_updL f0_7 v0_8.toNatClampNeg p1), rfl, ⟨(by first | exact hQ | exact IP_upd hQ (by omega)), (by show 0 ≤ ((v0_8 + 1)).toInt ∧ ((v0_8 + 1)).toInt ≤ 30; omega)⟩, (by rw [ht]; exact hP9), hD9⟩, h.2.2.2.1.F ht⟩) h.2.2.2.1.2.2 dX0_putLater_39 hlocks
set_option maxHeartbeats 4000000 in
set_option maxRecDepth 100000 in
theorem c_X0_fetch (l : Launch) (dC : Nat → ClassId) (dI : Nat → Nat → Nat) (sz : Nat) (o0 : Nat) (v0_0 : Int32) (v0_1 : Int32) (v0_2 : Int32) (o2 : Nat) (o5 : Nat) (o3 : Nat) (a0_6 : Nat) (a0_7 : Nat) (v0_8 : Int32) (a0_9 : Nat) (a2_0 : Nat) (a2_1 : Nat) (a2_2 : Nat) (a2_3 : Nat) (v2_4 : Int32) (c2_1 : ClassId) (f2_1 : Nat → Int64) (c0_6 : ClassId) (f0_6 : Nat → Int32) (c0_7 : ClassId) (f0_7 : Nat → Int64) (p0 : Int32) (p1 : Int64) (hQ : IP f0_6) (hw : 0 ≤ v0_8.toInt ∧ v0_8.toInt ≤ 30) (hp : 0 ≤ p0.toInt ∧ p0.toInt < 8) : Met l yX0_fetch wsX0_fetch ({ frames := 1, cells := 0, slots := 0, locals := 23 } : Room) (va_Pc [.ref o0, .int p0, .long p1] (KPre (dC, dI) [(o0, .inr (0, [.int v0_0, .int v0_1, .int v0_2, .ref o2, .ref o5, .ref o3, .ref a0_6, .ref a0_7, .int v0_8, .ref a0_9])), (o2, .inr (2, [.ref a2_0, .ref a2_1, .ref a2_2, .ref a2_3, .int v2_4])), (a2_1, .inl (c2_1, 74, .inr (.inl f2_1))), (a0_6, .inl (c0_6, 30, .inl f0_6)), (a0_7, .inl (c0_7, 30, .inr (.inl f0_7)))] [(c2_1, .long), (c0_6, .int), (c0_7, .long)] sz (fun U => KAll (va_A [(o0, .inr (0, [.int v0_0, .int v0_1, .int v0_2, .ref o2, .ref o5, .ref o3, .ref a0_6, .ref a0_7, .int v0_8, .ref a0_9])), (o2, .inr (2, [.ref a2_0, .ref a2_1, .ref a2_2, .ref a2_3, .int v2_4])), (a2_1, .inl (c2_1, 74, .inr (.inl f2_1))), (a0_6, .inl (c0_6, 30, .inl f0_6)), (a0_7, .inl (c0_7, 30, .inr (.inl f0_7)))] sz) U))) (va_Qi (fun (r : Int32) (u : Int32 × (Nat → Int32) × (Nat → Int64)) => IP u.2.1 ∧ (0 ≤ u.1.toInt ∧ u.1.toInt ≤ 30)) (KPost (dC, dI) (va_A [(o0, .inr (0, [.int v0_0, .int v0_1, .int v0_2, .ref o2, .ref o5, .ref o3, .ref a0_6, .ref a0_7, .int v0_8, .ref a0_9])), (o2, .inr (2, [.ref a2_0, .ref a2_1, .ref a2_2, .ref a2_3, .int v2_4])), (a2_1, .inl (c2_1, 74, .inr (.inl f2_1))), (a0_6, .inl (c0_6, 30, .inl f0_6)), (a0_7, .inl (c0_7, 30, .inr (.inl f0_7)))] sz) (fun (u : Int32 × (Nat → Int32) × (Nat → Int64)) => [(o0, .inr (0, [.int v0_0, .int v0_1, .int v0_2, .ref o2, .ref o5, .ref o3, .ref a0_6, .ref a0_7, .int u.1, .ref a0_9])), (o2, .inr (2, [.ref a2_0, .ref a2_1, .ref a2_2, .ref a2_3, .int v2_4])), (a2_1, .inl (c2_1, 74, .inr (.inl f2_1))), (a0_6, .inl (c0_6, 30, .inl u.2.1)), (a0_7, .inl (c0_7, 30, .inr (.inl u.2.2)))])) (va_A [(o0, .inr (0, [.int v0_0, .int v0_1, .int v0_2, .ref o2, .ref o5, .ref o3, .ref a0_6, .ref a0_7, .int v0_8, .ref a0_9])), (o2, .inr (2, [.ref a2_0, .ref a2_1, .ref a2_2, .ref a2_3, .int v2_4])), (a2_1, .inl (c2_1, 74, .inr (.inl f2_1))), (a0_6, .inl (c0_6, 30, .inl f0_6)), (a0_7, .inl (c0_7, 30, .inr (.inl f0_7)))] sz)) 0 0 (va_A [(o0, .inr (0, [.int v0_0, .int v0_1, .int v0_2, .ref o2, .ref o5, .ref o3, .ref a0_6, .ref a0_7, .int v0_8, .ref a0_9])), (o2, .inr (2, [.ref a2_0, .ref a2_1, .ref a2_2, .ref a2_3, .int v2_4])), (a2_1, .inl (c2_1, 74, .inr (.inl f2_1))), (a0_6, .inl (c0_6, 30, .inl f0_6)), (a0_7, .inl (c0_7, 30, .inr (.inl f0_7)))] sz) := by
  refine kMet (y := yX0_fetch) (wsM := wsX0_fetch) (cc := cX0_fetch) (maxL := 4) (ret := (some .int)) (rm := ({ frames := 1, cells := 0, slots := 0, locals := 23 } : Room)) (mc := 0) (ms := 0) (av := [.ref o0, .int p0, .long p1]) (D := (dC, dI)) (wc := [(o0, .inr (0, [.int v0_0, .int v0_1, .int v0_2, .ref o2, .ref o5, .ref o3, .ref a0_6, .ref a0_7, .int v0_8, .ref a0_9])), (o2, .inr (2, [.ref a2_0, .ref a2_1, .ref a2_2, .ref a2_3, .int v2_4])), (a2_1, .inl (c2_1, 74, .inr (.inl f2_1))), (a0_6, .inl (c0_6, 30, .inl f0_6)), (a0_7, .inl (c0_7, 30, .inr (.inl f0_7)))]) (tc := [(c2_1, .long), (c0_6, .int), (c0_7, .long)]) (sz := sz) (X := fun U => KAll (va_A [(o0, .inr (0, [.int v0_0, .int v0_1, .int v0_2, .ref o2, .ref o5, .ref o3, .ref a0_6, .ref a0_7, .int v0_8, .ref a0_9])), (o2, .inr (2, [.ref a2_0, .ref a2_1, .ref a2_2, .ref a2_3, .int v2_4])), (a2_1, .inl (c2_1, 74, .inr (.inl f2_1))), (a0_6, .inl (c0_6, 30, .inl f0_6)), (a0_7, .inl (c0_7, 30, .inr (.inl f0_7)))] sz) U) (Qc := fun A => va_Qi (fun (r : Int32) (u : Int32 × (Nat → Int32) × (Nat → Int64)) => IP u.2.1 ∧ (0 ≤ u.1.toInt ∧ u.1.toInt ≤ 30)) (KPost (dC, dI) A (fun (u : Int32 × (Nat → Int32) × (Nat → Int64)) => [(o0, .inr (0, [.int v0_0, .int v0_1, .int v0_2, .ref o2, .ref o5, .ref o3, .ref a0_6, .ref a0_7, .int u.1, .ref a0_9])), (o2, .inr (2, [.ref a2_0, .ref a2_1, .ref a2_2, .ref a2_3, .int v2_4])), (a2_1, .inl (c2_1, 74, .inr (.inl f2_1))), (a0_6, .inl (c0_6, 30, .inl u.2.1)), (a0_7, .inl (c0_7, 30, .inr (.inl u.2.2)))])) A) (by decide) rfl (Nat.le_of_ble_eq_true rfl) ?_
  intro p e s m below meth c A ls E hr hlocks hnm hsz hAe hX h hl
  have hx := E.1
  have hb := E.2.1
  have hl : lv_has ls 4 [(0, .ref o0), (1, .int p0), (2, .long p1)] := hl
  have hX : KAll A s := by rw [← hAe]; exact hX
  obtain ⟨⟨tD, hZD, hTD⟩, ⟨tX, hZX, hTX⟩, ⟨tY, hZY, hTY⟩, ⟨tP, hZP, hTP⟩, ⟨tL, hZL, hTL⟩, ⟨tM, hZM, hTM⟩, hN0_134, hN0_60, hN0_96, hN1_83, hN1_87, hN3_49, hN3_52, hN4_44, hN4_69, hN5_33, hN6_102, hN6_67, hF37, hF40, hF50, hF53⟩ := id hX
  refine lv_lload_n hx hb dX0_fetch_0 rfl (lv_at hl 2 rfl) ?_
  refine kc_i (wc := []) (wr := [(o0, .inr (0, [.int v0_0, .int v0_1, .int v0_2, .ref o2, .ref o5, .ref o3, .ref a0_6, .ref a0_7, .int v0_8, .ref a0_9])), (o2, .inr (2, [.ref a2_0, .ref a2_1, .ref a2_2, .ref a2_3, .int v2_4])), (a2_1, .inl (c2_1, 74, .inr (.inl f2_1))), (a0_6, .inl (c0_6, 30, .inl f0_6)), (a0_7, .inl (c0_7, 30, .inr (.inl f0_7)))]) h (va_runSN (As := [.long p1]) (rest := []) E (c_X7_isCell l dC dI _ (p0 := p1)  ) ⟨va_cnB 1 E.2.2.2.2 gX0_fetch_X7_isCell_n134 rfl rfl rfl hN0_134 (E.2.2.2.2 _ (List.mem_of_getElem? (i := 4) rfl)) (by decide +kernel) ⟨Nat.le_of_ble_eq_true rfl, Nat.le_of_ble_eq_true rfl⟩, E.2.2.2.2 _ (List.mem_of_getElem? (i := 3) rfl), trivial⟩ (kPreS h KX_true (fun _ _ _ => trivial) [] [] (by decide) rfl rfl) rfl rfl hl.1 rfl (lv_room (Nat.le_of_ble_eq_true rfl)) dX0_fetch_1 ⟨Nat.le_of_ble_eq_true rfl, Nat.le_of_ble_eq_true rfl⟩) [] [0, 1, 2, 3, 4] rfl rfl (by decide) (by decide) (fun r_1 u_1 H locs hw_1 h => ?_)
  have h : KS (dC, dI) A [(o0, .inr (0, [.int v0_0, .int v0_1, .int v0_2, .ref o2, .ref o5, .ref o3, .ref a0_6, .ref a0_7, .int v0_8, .ref a0_9])), (o2, .inr (2, [.ref a2_0, .ref a2_1, .ref a2_2, .ref a2_3, .int v2_4])), (a2_1, .inl (c2_1, 74, .inr (.inl f2_1))), (a0_6, .inl (c0_6, 30, .inl f0_6)), (a0_7, .inl (c0_7, 30, .inr (.inl f0_7)))] [(c2_1, .long), (c0_6, .int), (c0_7, .long)] s H locs := h
  have hw_1 : r_1 = if 0 ≤ p1.toInt ∧ p1.toInt < 64 then 1 else 0 := by first | exact hw_1 | (simp only [Int32.toInt_toInt64] at hw_1; exact hw_1)
  refine W.eq (g2 := F0 m 4 ls [.int r_1]) rfl ?_
  refine lv_if_ne (tgt := 9) hx hb dX0_fetch_4 rfl (fun c_2 => ?_) (fun c_2 => ?_)
  · skip
    have b_2 := kb1 hw_1 c_2
    refine lv_aload_n hx hb dX0_fetch_9 rfl (lv_at hl 0 rfl) ?_
    refine lv_iload_n hx hb dX0_fetch_10 rfl (lv_at hl 1 rfl) ?_
    refine lv_aload_n hx hb dX0_fetch_11 rfl (lv_at hl 0 rfl) ?_
    refine k_get (v := .ref o2) E h (fun w h => List.mem_cons_of_mem _ (List.mem_append_left _ (List.mem_append_right _ h))) 0 rfl rfl 3 (Nat.le_of_ble_eq_true rfl) (List.mem_of_getElem? (i := 1) rfl) rfl dX0_fetch_12 ?_
    refine k_get (v := .ref a2_1) E h (fun w h => List.mem_cons_of_mem _ (List.mem_append_right _ h)) 1 rfl rfl 1 (Nat.le_of_ble_eq_true rfl) (List.mem_of_getElem? (i := 2) rfl) rfl dX0_fetch_15 ?_
    refine lv_bipush (v := 10) hx hb dX0_fetch_18 kbi_10 ?_
    refine lv_lload_n hx hb dX0_fetch_20 rfl (lv_at hl 2 rfl) ?_
    refine lv_l2i (v := p1.toInt32) hx hb dX0_fetch_21 rfl ?_
    have e_3 : (p1.toInt32).toInt = p1.toInt := kl2i (by omega) (by omega)
    refine lv_iadd hx hb dX0_fetch_22 ?_
    have e_4 : ((10 : Int32) + p1.toInt32).toInt = 10 + p1.toInt32.toInt := by rw [Int32.toInt_add]; exact fb_bmod (z := 10 + p1.toInt32.toInt) (by omega) (by omega)
    refine k_lald (v := f2_1 (10 + p1.toInt32).toNatClampNeg) E h 2 0 rfl rfl (vp_in_iff.mpr (by omega)) rfl dX0_fetch_23 ?_
    refine kc_v (wc := [(o0, .inr (0, [.int v0_0, .int v0_1, .int v0_2, .ref o2, .ref o5, .ref o3, .ref a0_6, .ref a0_7, .int v0_8, .ref a0_9])), (a0_6, .inl (c0_6, 30, .inl f0_6)), (a0_7, .inl (c0_7, 30, .inr (.inl f0_7)))]) (wr := [(o2, .inr (2, [.ref a2_0, .ref a2_1, .ref a2_2, .ref a2_3, .int v2_4])), (a2_1, .inl (c2_1, 74, .inr (.inl f2_1)))]) h (va_runV (As := [.int p0, .long (f2_1 (10 + p1.toInt32).toNatClampNeg)]) (rest := []) E (c_X0_putLater l dC dI _ (o0 := o0) (v0_0 := v0_0) (v0_1 := v0_1) (v0_2 := v0_2) (o2 := o2) (o5 := o5) (o3 := o3) (a0_6 := a0_6) (a0_7 := a0_7) (v0_8 := v0_8) (a0_9 := a0_9) (c0_6 := c0_6) (f0_6 := f0_6) (c0_7 := c0_7) (f0_7 := f0_7) (p0 := p0) (p1 := f2_1 (10 + p1.toInt32).toNatClampNeg)  (hQ := hQ) (hw := hw) (hp := (by first | decide | omega))) (cwV 2 E.2.2.2.2 gX0_fetch_X0_putLater rfl rfl rfl hdV_X0_putLater ⟨Nat.le_of_ble_eq_true rfl, Nat.le_of_ble_eq_true rfl⟩) (kPreV (q0 := 0) (ci := 0) (q := (RX0, TX0, 10)) h KX_true (fun _ _ _ => trivial) [0, 3, 4] [1, 2] (by decide) rfl rfl rfl rfl) rfl rfl hl.1 rfl (lv_room (Nat.le_of_ble_eq_true rfl)) dX0_fetch_24 ⟨Nat.le_of_ble_eq_true rfl, Nat.le_of_ble_eq_true rfl⟩) [0, 3, 4] [1, 2] rfl rfl (by decide) (by decide) (fun u_5 H locs hw_5 h => ?_)
    obtain ⟨z_6, z_7, z_8⟩ := u_5
    have h : KS (dC, dI) A [(o2, .inr (2, [.ref a2_0, .ref a2_1, .ref a2_2, .ref a2_3, .int v2_4])), (a2_1, .inl (c2_1, 74, .inr (.inl f2_1))), (o0, .inr (0, [.int v0_0, .int v0_1, .int v0_2, .ref o2, .ref o5, .ref o3, .ref a0_6, .ref a0_7, .int z_6, .ref a0_9])), (a0_6, .inl (c0_6, 30, .inl z_7)), (a0_7, .inl (c0_7, 30, .inr (.inl z_8)))] [(c2_1, .long), (c0_6, .int), (c0_7, .long)] s H locs := h
    have hw_5 : IP z_7 ∧ (0 ≤ z_6.toInt ∧ z_6.toInt ≤ 30) := by first | exact hw_5 | (simp only [Int32.toInt_toInt64] at hw_5; exact hw_5)
    refine W.eq (g2 := F0 m 27 ls []) rfl ?_
    refine lv_iconst (v := 0) hx hb dX0_fetch_27 kic_0 ?_
    have hP9 := h.2.1.sub [2, 0, 1, 3, 4] rfl
    have hD9 := h.2.2.1.sub (ws' := [(o0, .inr (0, [.int v0_0, .int v0_1, .int v0_2, .ref o2, .ref o5, .ref o3, .ref a0_6, .ref a0_7, .int z_6, .ref a0_9])), (o2, .inr (2, [.ref a2_0, .ref a2_1, .ref a2_2, .ref a2_3, .int v2_4])), (a2_1, .inl (c2_1, 74, .inr (.inl f2_1))), (a0_6, .inl (c0_6, 30, .inl z_7)), (a0_7, .inl (c0_7, 30, .inr (.inl z_8)))]) [2, 0, 1, 3, 4] (by decide) rfl
    exact W.iret (v := 0) hx hb hr (fun t ht hW => ⟨⟨0, (z_6, z_7, z_8), rfl, hw_5, (by rw [ht]; exact hP9), hD9⟩, h.2.2.2.1.F ht⟩) h.2.2.2.1.2.2 dX0_fetch_28 hlocks
  · skip
    have b_2 := kb0 hw_1 c_2
    refine lv_iconst (v := 2) hx hb dX0_fetch_7 kic_2 ?_
    have hP9 := h.2.1.sub [0, 1, 2, 3, 4] rfl
    have hD9 := h.2.2.1.sub (ws' := [(o0, .inr (0, [.int v0_0, .int v0_1, .int v0_2, .ref o2, .ref o5, .ref o3, .ref a0_6, .ref a0_7, .int v0_8, .ref a0_9])), (o2, .inr (2, [.ref a2_0, .ref a2_1, .ref a2_2, .ref a2_3, .int v2_4])), (a2_1, .inl (c2_1, 74, .inr (.inl f2_1))), (a0_6, .inl (c0_6, 30, .inl f0_6)), (a0_7, .inl (c0_7, 30, .inr (.inl f0_7)))]) [0, 1, 2, 3, 4] (by decide) rfl
    exact W.iret (v := 2) hx hb hr (fun t ht hW => ⟨⟨2, (v0_8, f0_6, f0_7), rfl, ⟨hQ, hw⟩, (by rw [ht]; exact hP9), hD9⟩, h.2.2.2.1.F ht⟩) h.2.2.2.1.2.2 dX0_fetch_8 hlocks
set_option maxHeartbeats 4000000 in
set_option maxRecDepth 100000 in
theorem c_X0_keep (l : Launch) (dC : Nat → ClassId) (dI : Nat → Nat → Nat) (sz : Nat) (o0 : Nat) (v0_0 : Int32) (v0_1 : Int32) (v0_2 : Int32) (o2 : Nat) (o5 : Nat) (o3 : Nat) (a0_6 : Nat) (a0_7 : Nat) (v0_8 : Int32) (a0_9 : Nat) (c0_6 : ClassId) (f0_6 : Nat → Int32) (c0_7 : ClassId) (f0_7 : Nat → Int64) (p0 : Int64) (p1 : Int64) (hQ : IP f0_6) (hw : 0 ≤ v0_8.toInt ∧ v0_8.toInt ≤ 30) : Met l yX0_keep wsX0_keep ({ frames := 1, cells := 0, slots := 0, locals := 23 } : Room) (va_Pc [.ref o0, .long p0, .long p1] (KPre (dC, dI) [(o0, .inr (0, [.int v0_0, .int v0_1, .int v0_2, .ref o2, .ref o5, .ref o3, .ref a0_6, .ref a0_7, .int v0_8, .ref a0_9])), (a0_6, .inl (c0_6, 30, .inl f0_6)), (a0_7, .inl (c0_7, 30, .inr (.inl f0_7)))] [(c0_6, .int), (c0_7, .long)] sz (fun U => KAll (va_A [(o0, .inr (0, [.int v0_0, .int v0_1, .int v0_2, .ref o2, .ref o5, .ref o3, .ref a0_6, .ref a0_7, .int v0_8, .ref a0_9])), (a0_6, .inl (c0_6, 30, .inl f0_6)), (a0_7, .inl (c0_7, 30, .inr (.inl f0_7)))] sz) U))) (va_Qi (fun (r : Int32) (u : Int32 × (Nat → Int32) × (Nat → Int64)) => IP u.2.1 ∧ (0 ≤ u.1.toInt ∧ u.1.toInt ≤ 30)) (KPost (dC, dI) (va_A [(o0, .inr (0, [.int v0_0, .int v0_1, .int v0_2, .ref o2, .ref o5, .ref o3, .ref a0_6, .ref a0_7, .int v0_8, .ref a0_9])), (a0_6, .inl (c0_6, 30, .inl f0_6)), (a0_7, .inl (c0_7, 30, .inr (.inl f0_7)))] sz) (fun (u : Int32 × (Nat → Int32) × (Nat → Int64)) => [(o0, .inr (0, [.int v0_0, .int v0_1, .int v0_2, .ref o2, .ref o5, .ref o3, .ref a0_6, .ref a0_7, .int u.1, .ref a0_9])), (a0_6, .inl (c0_6, 30, .inl u.2.1)), (a0_7, .inl (c0_7, 30, .inr (.inl u.2.2)))])) (va_A [(o0, .inr (0, [.int v0_0, .int v0_1, .int v0_2, .ref o2, .ref o5, .ref o3, .ref a0_6, .ref a0_7, .int v0_8, .ref a0_9])), (a0_6, .inl (c0_6, 30, .inl f0_6)), (a0_7, .inl (c0_7, 30, .inr (.inl f0_7)))] sz)) 0 0 (va_A [(o0, .inr (0, [.int v0_0, .int v0_1, .int v0_2, .ref o2, .ref o5, .ref o3, .ref a0_6, .ref a0_7, .int v0_8, .ref a0_9])), (a0_6, .inl (c0_6, 30, .inl f0_6)), (a0_7, .inl (c0_7, 30, .inr (.inl f0_7)))] sz) := by
  refine kMet (y := yX0_keep) (wsM := wsX0_keep) (cc := cX0_keep) (maxL := 5) (ret := (some .int)) (rm := ({ frames := 1, cells := 0, slots := 0, locals := 23 } : Room)) (mc := 0) (ms := 0) (av := [.ref o0, .long p0, .long p1]) (D := (dC, dI)) (wc := [(o0, .inr (0, [.int v0_0, .int v0_1, .int v0_2, .ref o2, .ref o5, .ref o3, .ref a0_6, .ref a0_7, .int v0_8, .ref a0_9])), (a0_6, .inl (c0_6, 30, .inl f0_6)), (a0_7, .inl (c0_7, 30, .inr (.inl f0_7)))]) (tc := [(c0_6, .int), (c0_7, .long)]) (sz := sz) (X := fun U => KAll (va_A [(o0, .inr (0, [.int v0_0, .int v0_1, .int v0_2, .ref o2, .ref o5, .ref o3, .ref a0_6, .ref a0_7, .int v0_8, .ref a0_9])), (a0_6, .inl (c0_6, 30, .inl f0_6)), (a0_7, .inl (c0_7, 30, .inr (.inl f0_7)))] sz) U) (Qc := fun A => va_Qi (fun (r : Int32) (u : Int32 × (Nat → Int32) × (Nat → Int64)) => IP u.2.1 ∧ (0 ≤ u.1.toInt ∧ u.1.toInt ≤ 30)) (KPost (dC, dI) A (fun (u : Int32 × (Nat → Int32) × (Nat → Int64)) => [(o0, .inr (0, [.int v0_0, .int v0_1, .int v0_2, .ref o2, .ref o5, .ref o3, .ref a0_6, .ref a0_7, .int u.1, .ref a0_9])), (a0_6, .inl (c0_6, 30, .inl u.2.1)), (a0_7, .inl (c0_7, 30, .inr (.inl u.2.2)))])) A) (by decide) rfl (Nat.le_of_ble_eq_true rfl) ?_
  intro p e s m below meth c A ls E hr hlocks hnm hsz hAe hX h hl
  have hx := E.1
  have hb := E.2.1
  have hl : lv_has ls 5 [(0, .ref o0), (1, .long p0), (3, .long p1)] := hl
  have hX : KAll A s := by rw [← hAe]; exact hX
  obtain ⟨⟨tD, hZD, hTD⟩, ⟨tX, hZX, hTX⟩, ⟨tY, hZY, hTY⟩, ⟨tP, hZP, hTP⟩, ⟨tL, hZL, hTL⟩, ⟨tM, hZM, hTM⟩, hN0_134, hN0_60, hN0_96, hN1_83, hN1_87, hN3_49, hN3_52, hN4_44, hN4_69, hN5_33, hN6_102, hN6_67, hF37, hF40, hF50, hF53⟩ := id hX
  refine lv_lload_n hx hb dX0_keep_0 rfl (lv_at hl 1 rfl) ?_
  refine kc_i (wc := []) (wr := [(o0, .inr (0, [.int v0_0, .int v0_1, .int v0_2, .ref o2, .ref o5, .ref o3, .ref a0_6, .ref a0_7, .int v0_8, .ref a0_9])), (a0_6, .inl (c0_6, 30, .inl f0_6)), (a0_7, .inl (c0_7, 30, .inr (.inl f0_7)))]) h (va_runSN (As := [.long p0]) (rest := []) E (c_X7_isCell l dC dI _ (p0 := p0)  ) ⟨va_cnB 1 E.2.2.2.2 gX0_keep_X7_isCell_n134 rfl rfl rfl hN0_134 (E.2.2.2.2 _ (List.mem_of_getElem? (i := 2) rfl)) (by decide +kernel) ⟨Nat.le_of_ble_eq_true rfl, Nat.le_of_ble_eq_true rfl⟩, E.2.2.2.2 _ (List.mem_of_getElem? (i := 1) rfl), trivial⟩ (kPreS h KX_true (fun _ _ _ => trivial) [] [] (by decide) rfl rfl) rfl rfl hl.1 rfl (lv_room (Nat.le_of_ble_eq_true rfl)) dX0_keep_1 ⟨Nat.le_of_ble_eq_true rfl, Nat.le_of_ble_eq_true rfl⟩) [] [0, 1, 2] rfl rfl (by decide) (by decide) (fun r_1 u_1 H locs hw_1 h => ?_)
  have h : KS (dC, dI) A [(o0, .inr (0, [.int v0_0, .int v0_1, .int v0_2, .ref o2, .ref o5, .ref o3, .ref a0_6, .ref a0_7, .int v0_8, .ref a0_9])), (a0_6, .inl (c0_6, 30, .inl f0_6)), (a0_7, .inl (c0_7, 30, .inr (.inl f0_7)))] [(c0_6, .int), (c0_7, .long)] s H locs := h
  have hw_1 : r_1 = if 0 ≤ p0.toInt ∧ p0.toInt < 64 then 1 else 0 := by first | exact hw_1 | (simp only [Int32.toInt_toInt64] at hw_1; exact hw_1)
  refine W.eq (g2 := F0 m 4 ls [.int r_1]) rfl ?_
  refine lv_if_ne (tgt := 9) hx hb dX0_keep_4 rfl (fun c_2 => ?_) (fun c_2 => ?_)
  · skip
    have b_2 := kb1 hw_1 c_2
    refine lv_aload_n hx hb dX0_keep_9 rfl (lv_at hl 0 rfl) ?_
    refine lv_bipush (v := 10) hx hb dX0_keep_10 kbi_10 ?_
    refine lv_lload_n hx hb dX0_keep_12 rfl (lv_at hl 1 rfl) ?_
    refine lv_l2i (v := p0.toInt32) hx hb dX0_keep_13 rfl ?_
    have e_3 : (p0.toInt32).toInt = p0.toInt := kl2i (by omega) (by omega)
    refine lv_iadd hx hb dX0_keep_14 ?_
    have e_4 : ((10 : Int32) + p0.toInt32).toInt = 10 + p0.toInt32.toInt := by rw [Int32.toInt_add]; exact fb_bmod (z := 10 + p0.toInt32.toInt) (by omega) (by omega)
    refine lv_lload_n hx hb dX0_keep_15 rfl (lv_at hl 2 rfl) ?_
    refine kc_v (wc := [(o0, .inr (0, [.int v0_0, .int v0_1, .int v0_2, .ref o2, .ref o5, .ref o3, .ref a0_6, .ref a0_7, .int v0_8, .ref a0_9])), (a0_6, .inl (c0_6, 30, .inl f0_6)), (a0_7, .inl (c0_7, 30, .inr (.inl f0_7)))]) (wr := []) h (va_runV (As := [.int (10 + p0.toInt32), .long p1]) (rest := []) E (c_X0_putLater l dC dI _ (o0 := o0) (v0_0 := v0_0) (v0_1 := v0_1) (v0_2 := v0_2) (o2 := o2) (o5 := o5) (o3 := o3) (a0_6 := a0_6) (a0_7 := a0_7) (v0_8 := v0_8) (a0_9 := a0_9) (c0_6 := c0_6) (f0_6 := f0_6) (c0_7 := c0_7) (f0_7 := f0_7) (p0 := 10 + p0.toInt32) (p1 := p1)  (hQ := hQ) (hw := hw) (hp := (by first | decide | omega))) (cwV 2 E.2.2.2.2 gX0_keep_X0_putLater rfl rfl rfl hdV_X0_putLater ⟨Nat.le_of_ble_eq_true rfl, Nat.le_of_ble_eq_true rfl⟩) (kPreV (q0 := 0) (ci := 0) (q := (RX0, TX0, 10)) h KX_true (fun _ _ _ => trivial) [0, 1, 2] [0, 1] (by decide) rfl rfl rfl rfl) rfl rfl hl.1 rfl (lv_room (Nat.le_of_ble_eq_true rfl)) dX0_keep_16 ⟨Nat.le_of_ble_eq_true rfl, Nat.le_of_ble_eq_true rfl⟩) [0, 1, 2] [] rfl rfl (by decide) (by decide) (fun u_5 H locs hw_5 h => ?_)
    obtain ⟨z_6, z_7, z_8⟩ := u_5
    have h : KS (dC, dI) A [(o0, .inr (0, [.int v0_0, .int v0_1, .int v0_2, .ref o2, .ref o5, .ref o3, .ref a0_6, .ref a0_7, .int z_6, .ref a0_9])), (a0_6, .inl (c0_6, 30, .inl z_7)), (a0_7, .inl (c0_7, 30, .inr (.inl z_8)))] [(c0_6, .int), (c0_7, .long)] s H locs := h
    have hw_5 : IP z_7 ∧ (0 ≤ z_6.toInt ∧ z_6.toInt ≤ 30) := by first | exact hw_5 | (simp only [Int32.toInt_toInt64] at hw_5; exact hw_5)
    refine W.eq (g2 := F0 m 19 ls []) rfl ?_
    refine lv_iconst (v := 0) hx hb dX0_keep_19 kic_0 ?_
    have hP9 := h.2.1.sub [0, 1, 2] rfl
    have hD9 := h.2.2.1.sub (ws' := [(o0, .inr (0, [.int v0_0, .int v0_1, .int v0_2, .ref o2, .ref o5, .ref o3, .ref a0_6, .ref a0_7, .int z_6, .ref a0_9])), (a0_6, .inl (c0_6, 30, .inl z_7)), (a0_7, .inl (c0_7, 30, .inr (.inl z_8)))]) [0, 1, 2] (by decide) rfl
    exact W.iret (v := 0) hx hb hr (fun t ht hW => ⟨⟨0, (z_6, z_7, z_8), rfl, hw_5, (by rw [ht]; exact hP9), hD9⟩, h.2.2.2.1.F ht⟩) h.2.2.2.1.2.2 dX0_keep_20 hlocks
  · skip
    have b_2 := kb0 hw_1 c_2
    refine lv_iconst (v := 2) hx hb dX0_keep_7 kic_2 ?_
    have hP9 := h.2.1.sub [0, 1, 2] rfl
    have hD9 := h.2.2.1.sub (ws' := [(o0, .inr (0, [.int v0_0, .int v0_1, .int v0_2, .ref o2, .ref o5, .ref o3, .ref a0_6, .ref a0_7, .int v0_8, .ref a0_9])), (a0_6, .inl (c0_6, 30, .inl f0_6)), (a0_7, .inl (c0_7, 30, .inr (.inl f0_7)))]) [0, 1, 2] (by decide) rfl
    exact W.iret (v := 2) hx hb hr (fun t ht hW => ⟨⟨2, (v0_8, f0_6, f0_7), rfl, ⟨hQ, hw⟩, (by rw [ht]; exact hP9), hD9⟩, h.2.2.2.1.F ht⟩) h.2.2.2.1.2.2 dX0_keep_8 hlocks
set_option maxHeartbeats 4000000 in
set_option maxRecDepth 100000 in
theorem c_X0_work (l : Launch) (dC : Nat → ClassId) (dI : Nat → Nat → Nat) (sz : Nat) (o0 : Nat) (v0_0 : Int32) (v0_1 : Int32) (v0_2 : Int32) (o2 : Nat) (o5 : Nat) (o3 : Nat) (a0_6 : Nat) (a0_7 : Nat) (v0_8 : Int32) (a0_9 : Nat) (a2_0 : Nat) (a2_1 : Nat) (a2_2 : Nat) (a2_3 : Nat) (v2_4 : Int32) (c2_0 : ClassId) (f2_0 : Nat → Int32) (c0_6 : ClassId) (f0_6 : Nat → Int32) (c0_7 : ClassId) (f0_7 : Nat → Int64) (p0 : Int32) (p1 : Int32) (p2 : Int64) (p3 : Int64) (hQ : IP f0_6) (hw : 0 ≤ v0_8.toInt ∧ v0_8.toInt ≤ 30) (hp : 0 ≤ p1.toInt ∧ p1.toInt < 8) : Met l yX0_work wsX0_work ({ frames := 1, cells := 0, slots := 0, locals := 24 } : Room) (va_Pc [.ref o0, .int p0, .int p1, .long p2, .long p3] (KPre (dC, dI) [(o0, .inr (0, [.int v0_0, .int v0_1, .int v0_2, .ref o2, .ref o5, .ref o3, .ref a0_6, .ref a0_7, .int v0_8, .ref a0_9])), (o2, .inr (2, [.ref a2_0, .ref a2_1, .ref a2_2, .ref a2_3, .int v2_4])), (a2_0, .inl (c2_0, 8, .inl f2_0)), (a0_6, .inl (c0_6, 30, .inl f0_6)), (a0_7, .inl (c0_7, 30, .inr (.inl f0_7)))] [(c2_0, .int), (c0_6, .int), (c0_7, .long)] sz (fun _ => True))) (va_Qv (fun (u : Int32 × (Nat → Int32) × (Nat → Int64)) => IP u.2.1 ∧ (0 ≤ u.1.toInt ∧ u.1.toInt ≤ 30)) (KPost (dC, dI) (va_A [(o0, .inr (0, [.int v0_0, .int v0_1, .int v0_2, .ref o2, .ref o5, .ref o3, .ref a0_6, .ref a0_7, .int v0_8, .ref a0_9])), (o2, .inr (2, [.ref a2_0, .ref a2_1, .ref a2_2, .ref a2_3, .int v2_4])), (a2_0, .inl (c2_0, 8, .inl f2_0)), (a0_6, .inl (c0_6, 30, .inl f0_6)), (a0_7, .inl (c0_7, 30, .inr (.inl f0_7)))] sz) (fun (u : Int32 × (Nat → Int32) × (Nat → Int64)) => [(o0, .inr (0, [.int v0_0, .int v0_1, .int v0_2, .ref o2, .ref o5, .ref o3, .ref a0_6, .ref a0_7, .int u.1, .ref a0_9])), (o2, .inr (2, [.ref a2_0, .ref a2_1, .ref a2_2, .ref a2_3, .int v2_4])), (a2_0, .inl (c2_0, 8, .inl f2_0)), (a0_6, .inl (c0_6, 30, .inl u.2.1)), (a0_7, .inl (c0_7, 30, .inr (.inl u.2.2)))])) (va_A [(o0, .inr (0, [.int v0_0, .int v0_1, .int v0_2, .ref o2, .ref o5, .ref o3, .ref a0_6, .ref a0_7, .int v0_8, .ref a0_9])), (o2, .inr (2, [.ref a2_0, .ref a2_1, .ref a2_2, .ref a2_3, .int v2_4])), (a2_0, .inl (c2_0, 8, .inl f2_0)), (a0_6, .inl (c0_6, 30, .inl f0_6)), (a0_7, .inl (c0_7, 30, .inr (.inl f0_7)))] sz)) 0 0 (va_A [(o0, .inr (0, [.int v0_0, .int v0_1, .int v0_2, .ref o2, .ref o5, .ref o3, .ref a0_6, .ref a0_7, .int v0_8, .ref a0_9])), (o2, .inr (2, [.ref a2_0, .ref a2_1, .ref a2_2, .ref a2_3, .int v2_4])), (a2_0, .inl (c2_0, 8, .inl f2_0)), (a0_6, .inl (c0_6, 30, .inl f0_6)), (a0_7, .inl (c0_7, 30, .inr (.inl f0_7)))] sz) := by
  refine kMet (y := yX0_work) (wsM := wsX0_work) (cc := cX0_work) (maxL := 10) (ret := none) (rm := ({ frames := 1, cells := 0, slots := 0, locals := 24 } : Room)) (mc := 0) (ms := 0) (av := [.ref o0, .int p0, .int p1, .long p2, .long p3]) (D := (dC, dI)) (wc := [(o0, .inr (0, [.int v0_0, .int v0_1, .int v0_2, .ref o2, .ref o5, .ref o3, .ref a0_6, .ref a0_7, .int v0_8, .ref a0_9])), (o2, .inr (2, [.ref a2_0, .ref a2_1, .ref a2_2, .ref a2_3, .int v2_4])), (a2_0, .inl (c2_0, 8, .inl f2_0)), (a0_6, .inl (c0_6, 30, .inl f0_6)), (a0_7, .inl (c0_7, 30, .inr (.inl f0_7)))]) (tc := [(c2_0, .int), (c0_6, .int), (c0_7, .long)]) (sz := sz) (X := fun _ => True) (Qc := fun A => va_Qv (fun (u : Int32 × (Nat → Int32) × (Nat → Int64)) => IP u.2.1 ∧ (0 ≤ u.1.toInt ∧ u.1.toInt ≤ 30)) (KPost (dC, dI) A (fun (u : Int32 × (Nat → Int32) × (Nat → Int64)) => [(o0, .inr (0, [.int v0_0, .int v0_1, .int v0_2, .ref o2, .ref o5, .ref o3, .ref a0_6, .ref a0_7, .int u.1, .ref a0_9])), (o2, .inr (2, [.ref a2_0, .ref a2_1, .ref a2_2, .ref a2_3, .int v2_4])), (a2_0, .inl (c2_0, 8, .inl f2_0)), (a0_6, .inl (c0_6, 30, .inl u.2.1)), (a0_7, .inl (c0_7, 30, .inr (.inl u.2.2)))])) A) (by decide) rfl (Nat.le_of_ble_eq_true rfl) ?_
  intro p e s m below meth c A ls E hr hlocks hnm hsz hAe hX h hl
  have hx := E.1
  have hb := E.2.1
  have hl : lv_has ls 10 [(0, .ref o0), (1, .int p0), (2, .int p1), (3, .long p2), (5, .long p3)] := hl
  refine lv_lconst (v := 0) hx hb dX0_work_0 (by decide) ?_
  refine lv_lstore (lv' := [(7, .long 0), (0, .ref o0), (1, .int p0), (2, .int p1), (3, .long p2), (5, .long p3)]) hx hb dX0_work_1 hl (by decide) rfl (fun ls hl => ?_)
  refine lv_iconst (v := 0) hx hb dX0_work_3 kic_0 ?_
  refine lv_istore (lv' := [(9, .int 0), (7, .long 0), (0, .ref o0), (1, .int p0), (2, .int p1), (3, .long p2), (5, .long p3)]) hx hb dX0_work_4 hl (Nat.le_of_ble_eq_true rfl) rfl (fun ls hl => ?_)
  refine lv_iload_n hx hb dX0_work_6 rfl (lv_at hl 3 rfl) ?_
  by_cases s_1 : p0 = 2
  · refine k_topi (y := 2) s_1 ?_
    have i_1 : p0.toInt = 2 := (fa_eq _ _).mp s_1
    refine lv_tableIn (off := 29) (tgt := 36) hx hb dX0_work_7 (by decide) (by decide) rfl (by decide) ?_
    refine lv_lload_n hx hb dX0_work_36 rfl (lv_at hl 5 rfl) ?_
    refine lv_lload hx hb dX0_work_37 (lv_at hl 6 rfl) ?_
    refine lv_ladd hx hb dX0_work_39 ?_
    refine lv_lstore (lv' := [(7, .long (p2 + p3)), (9, .int 0), (0, .ref o0), (1, .int p0), (2, .int p1), (3, .long p2), (5, .long p3)]) hx hb dX0_work_40 hl (by decide) rfl (fun ls hl => ?_)
    refine lv_lload hx hb dX0_work_42 (lv_at hl 0 rfl) ?_
    refine lv_aload_n hx hb dX0_work_44 rfl (lv_at hl 2 rfl) ?_
    refine k_get (v := .ref o2) E h (fun w h => List.mem_cons_of_mem _ (List.mem_append_left _ (List.mem_append_right _ h))) 0 rfl rfl 3 (Nat.le_of_ble_eq_true rfl) (List.mem_of_getElem? (i := 1) rfl) rfl dX0_work_45 ?_
    refine lv_iload_n hx hb dX0_work_48 rfl (lv_at hl 4 rfl) ?_
    refine lv_lload hx hb dX0_work_49 (lv_at hl 0 rfl) ?_
    refine kc_l (wc := [(o2, .inr (2, [.ref a2_0, .ref a2_1, .ref a2_2, .ref a2_3, .int v2_4])), (a2_0, .inl (c2_0, 8, .inl f2_0))]) (wr := [(o0, .inr (0, [.int v0_0, .int v0_1, .int v0_2, .ref o2, .ref o5, .ref o3, .ref a0_6, .ref a0_7, .int v0_8, .ref a0_9])), (a0_6, .inl (c0_6, 30, .inl f0_6)), (a0_7, .inl (c0_7, 30, .inr (.inl f0_7)))]) h (va_runV (As := [.int p1, .long (p2 + p3)]) (rest := [.long (p2 + p3)]) E (c_X2_cutFor l dC dI _ (o2 := o2) (a2_0 := a2_0) (a2_1 := a2_1) (a2_2 := a2_2) (a2_3 := a2_3) (v2_4 := v2_4) (c2_0 := c2_0) (f2_0 := f2_0) (p0 := p1) (p1 := p2 + p3)  (hp := (by first | decide | omega))) (cwV 2 E.2.2.2.2 gX0_work_X2_cutFor rfl rfl rfl hdV_X2_cutFor ⟨Nat.le_of_ble_eq_true rfl, Nat.le_of_ble_eq_true rfl⟩) (kPreV (q0 := 1) (ci := 2) (q := (RX2, TX2, 5)) h KX_true (fun _ _ _ => trivial) [1, 2] [0] (by decide) rfl rfl rfl rfl) rfl rfl hl.1 rfl (lv_room (Nat.le_of_ble_eq_true rfl)) dX0_work_51 ⟨Nat.le_of_ble_eq_true rfl, Nat.le_of_ble_eq_true rfl⟩) [1, 2] [0, 3, 4] rfl rfl (by decide) (by decide) (fun r_2 u_2 H locs hw_2 h => ?_)
    have h : KS (dC, dI) A [(o0, .inr (0, [.int v0_0, .int v0_1, .int v0_2, .ref o2, .ref o5, .ref o3, .ref a0_6, .ref a0_7, .int v0_8, .ref a0_9])), (a0_6, .inl (c0_6, 30, .inl f0_6)), (a0_7, .inl (c0_7, 30, .inr (.inl f0_7))), (o2, .inr (2, [.ref a2_0, .ref a2_1, .ref a2_2, .ref a2_3, .int v2_4])), (a2_0, .inl (c2_0, 8, .inl f2_0))] [(c2_0, .int), (c0_6, .int), (c0_7, .long)] s H locs := h
    have hw_2 : r_2 = kput f2_0 p1 (p2 + p3) := by first | exact hw_2 | (simp only [Int32.toInt_toInt64] at hw_2; exact hw_2)
    refine k_topl (y := kput f2_0 p1 (p2 + p3)) (hw_2) ?_
    refine W.eq (g2 := F0 m 54 ls [.long (kput f2_0 p1 (p2 + p3)), .long (p2 + p3)]) rfl ?_
    refine W.lcmp hx hb dX0_work_54 ?_
    refine lv_if_eq (tgt := 62) hx hb dX0_work_55 rfl (fun c_3 => ?_) (fun c_3 => ?_)
    · skip
      have i_3 : (p2 + p3).toInt = (kput f2_0 p1 (p2 + p3)).toInt := by have z := keq_p c_3; first | exact z | (simp only [Int32.toInt_toInt64] at z; exact z)
      have j_3 := keq64_p c_3
      refine lv_iconst (v := 0) hx hb dX0_work_62 kic_0 ?_
      refine lv_istore (lv' := [(9, .int 0), (7, .long (p2 + p3)), (0, .ref o0), (1, .int p0), (2, .int p1), (3, .long p2), (5, .long p3)]) hx hb dX0_work_63 hl (Nat.le_of_ble_eq_true rfl) rfl (fun ls hl => ?_)
      refine lv_goto (tgt := 109) hx hb dX0_work_65 rfl ?_
      refine lv_aload_n hx hb dX0_work_109 rfl (lv_at hl 2 rfl) ?_
      refine lv_iload_n hx hb dX0_work_110 rfl (lv_at hl 4 rfl) ?_
      refine lv_lload hx hb dX0_work_111 (lv_at hl 1 rfl) ?_
      refine kc_v (wc := [(o0, .inr (0, [.int v0_0, .int v0_1, .int v0_2, .ref o2, .ref o5, .ref o3, .ref a0_6, .ref a0_7, .int v0_8, .ref a0_9])), (a0_6, .inl (c0_6, 30, .inl f0_6)), (a0_7, .inl (c0_7, 30, .inr (.inl f0_7)))]) (wr := [(o2, .inr (2, [.ref a2_0, .ref a2_1, .ref a2_2, .ref a2_3, .int v2_4])), (a2_0, .inl (c2_0, 8, .inl f2_0))]) h (va_runV (As := [.int p1, .long (p2 + p3)]) (rest := []) E (c_X0_putLater l dC dI _ (o0 := o0) (v0_0 := v0_0) (v0_1 := v0_1) (v0_2 := v0_2) (o2 := o2) (o5 := o5) (o3 := o3) (a0_6 := a0_6) (a0_7 := a0_7) (v0_8 := v0_8) (a0_9 := a0_9) (c0_6 := c0_6) (f0_6 := f0_6) (c0_7 := c0_7) (f0_7 := f0_7) (p0 := p1) (p1 := p2 + p3)  (hQ := hQ) (hw := hw) (hp := (by first | decide | omega))) (cwV 2 E.2.2.2.2 gX0_work_X0_putLater rfl rfl rfl hdV_X0_putLater ⟨Nat.le_of_ble_eq_true rfl, Nat.le_of_ble_eq_true rfl⟩) (kPreV (q0 := 0) (ci := 0) (q := (RX0, TX0, 10)) h KX_true (fun _ _ _ => trivial) [0, 1, 2] [1, 2] (by decide) rfl rfl rfl rfl) rfl rfl hl.1 rfl (lv_room (Nat.le_of_ble_eq_true rfl)) dX0_work_113 ⟨Nat.le_of_ble_eq_true rfl, Nat.le_of_ble_eq_true rfl⟩) [0, 1, 2] [3, 4] rfl rfl (by decide) (by decide) (fun u_4 H locs hw_4 h => ?_)
      obtain ⟨z_5, z_6, z_7⟩ := u_4
      have h : KS (dC, dI) A [(o2, .inr (2, [.ref a2_0, .ref a2_1, .ref a2_2, .ref a2_3, .int v2_4])), (a2_0, .inl (c2_0, 8, .inl f2_0)), (o0, .inr (0, [.int v0_0, .int v0_1, .int v0_2, .ref o2, .ref o5, .ref o3, .ref a0_6, .ref a0_7, .int z_5, .ref a0_9])), (a0_6, .inl (c0_6, 30, .inl z_6)), (a0_7, .inl (c0_7, 30, .inr (.inl z_7)))] [(c2_0, .int), (c0_6, .int), (c0_7, .long)] s H locs := h
      have hw_4 : IP z_6 ∧ (0 ≤ z_5.toInt ∧ z_5.toInt ≤ 30) := by first | exact hw_4 | (simp only [Int32.toInt_toInt64] at hw_4; exact hw_4)
      have hQ := hw_4.1
      have hw := hw_4.2
      refine W.eq (g2 := F0 m 116 ls []) rfl ?_
      refine lv_aload_n hx hb dX0_work_116 rfl (lv_at hl 2 rfl) ?_
      refine lv_bipush (v := 8) hx hb dX0_work_117 kbi_8 ?_
      refine lv_aload_n hx hb dX0_work_119 rfl (lv_at hl 2 rfl) ?_
      refine k_get (v := .ref o2) E h (fun w h => List.mem_cons_of_mem _ (List.mem_append_left _ (List.mem_append_right _ h))) 2 rfl rfl 3 (Nat.le_of_ble_eq_true rfl) (List.mem_of_getElem? (i := 1) rfl) rfl dX0_work_120 ?_
      refine lv_iload_n hx hb dX0_work_123 rfl (lv_at hl 4 rfl) ?_
      refine lv_lload hx hb dX0_work_124 (lv_at hl 1 rfl) ?_
      refine kc_l (wc := [(o2, .inr (2, [.ref a2_0, .ref a2_1, .ref a2_2, .ref a2_3, .int v2_4])), (a2_0, .inl (c2_0, 8, .inl f2_0))]) (wr := [(o0, .inr (0, [.int v0_0, .int v0_1, .int v0_2, .ref o2, .ref o5, .ref o3, .ref a0_6, .ref a0_7, .int z_5, .ref a0_9])), (a0_6, .inl (c0_6, 30, .inl z_6)), (a0_7, .inl (c0_7, 30, .inr (.inl z_7)))]) h (va_runV (As := [.int p1, .long (p2 + p3)]) (rest := [.int 8, .ref o0]) E (c_X2_cutFor l dC dI _ (o2 := o2) (a2_0 := a2_0) (a2_1 := a2_1) (a2_2 := a2_2) (a2_3 := a2_3) (v2_4 := v2_4) (c2_0 := c2_0) (f2_0 := f2_0) (p0 := p1) (p1 := p2 + p3)  (hp := (by first | decide | omega))) (cwV 2 E.2.2.2.2 gX0_work_X2_cutFor rfl rfl rfl hdV_X2_cutFor ⟨Nat.le_of_ble_eq_true rfl, Nat.le_of_ble_eq_true rfl⟩) (kPreV (q0 := 0) (ci := 2) (q := (RX2, TX2, 5)) h KX_true (fun _ _ _ => trivial) [0, 1] [0] (by decide) rfl rfl rfl rfl) rfl rfl hl.1 rfl (lv_room (Nat.le_of_ble_eq_true rfl)) dX0_work_126 ⟨Nat.le_of_ble_eq_true rfl, Nat.le_of_ble_eq_true rfl⟩) [0, 1] [2, 3, 4] rfl rfl (by decide) (by decide) (fun r_8 u_8 H locs hw_8 h => ?_)
      have h : KS (dC, dI) A [(o0, .inr (0, [.int v0_0, .int v0_1, .int v0_2, .ref o2, .ref o5, .ref o3, .ref a0_6, .ref a0_7, .int z_5, .ref a0_9])), (a0_6, .inl (c0_6, 30, .inl z_6)), (a0_7, .inl (c0_7, 30, .inr (.inl z_7))), (o2, .inr (2, [.ref a2_0, .ref a2_1, .ref a2_2, .ref a2_3, .int v2_4])), (a2_0, .inl (c2_0, 8, .inl f2_0))] [(c2_0, .int), (c0_6, .int), (c0_7, .long)] s H locs := h
      have hw_8 : r_8 = kput f2_0 p1 (p2 + p3) := by first | exact hw_8 | (simp only [Int32.toInt_toInt64] at hw_8; exact hw_8)
      refine k_topl (y := kput f2_0 p1 (p2 + p3)) (hw_8) ?_
      refine W.eq (g2 := F0 m 129 ls [.long (kput f2_0 p1 (p2 + p3)), .int 8, .ref o0]) rfl ?_
      refine lv_lconst (v := 0) hx hb dX0_work_129 (by decide) ?_
      refine W.lcmp hx hb dX0_work_130 ?_
      refine lv_if_ne (tgt := 138) hx hb dX0_work_131 rfl (fun c_9 => ?_) (fun c_9 => ?_)
      · skip
        have i_9 : ¬ (kput f2_0 p1 (p2 + p3)).toInt = 0 := by have z := keq_n c_9; first | exact z | (simp only [Int32.toInt_toInt64] at z; exact z)
        have j_9 := keq64_n c_9
        refine lv_lconst (v := 0) hx hb dX0_work_138 (by decide) ?_
        refine kc_v (wc := [(o0, .inr (0, [.int v0_0, .int v0_1, .int v0_2, .ref o2, .ref o5, .ref o3, .ref a0_6, .ref a0_7, .int z_5, .ref a0_9])), (a0_6, .inl (c0_6, 30, .inl z_6)), (a0_7, .inl (c0_7, 30, .inr (.inl z_7)))]) (wr := [(o2, .inr (2, [.ref a2_0, .ref a2_1, .ref a2_2, .ref a2_3, .int v2_4])), (a2_0, .inl (c2_0, 8, .inl f2_0))]) h (va_runV (As := [.int 8, .long 0]) (rest := []) E (c_X0_putLater l dC dI _ (o0 := o0) (v0_0 := v0_0) (v0_1 := v0_1) (v0_2 := v0_2) (o2 := o2) (o5 := o5) (o3 := o3) (a0_6 := a0_6) (a0_7 := a0_7) (v0_8 := z_5) (a0_9 := a0_9) (c0_6 := c0_6) (f0_6 := z_6) (c0_7 := c0_7) (f0_7 := z_7) (p0 := 8) (p1 := 0)  (hQ := hQ) (hw := hw) (hp := (by first | decide | omega))) (cwV 2 E.2.2.2.2 gX0_work_X0_putLater rfl rfl rfl hdV_X0_putLater ⟨Nat.le_of_ble_eq_true rfl, Nat.le_of_ble_eq_true rfl⟩) (kPreV (q0 := 0) (ci := 0) (q := (RX0, TX0, 10)) h KX_true (fun _ _ _ => trivial) [0, 1, 2] [1, 2] (by decide) rfl rfl rfl rfl) rfl rfl hl.1 rfl (lv_room (Nat.le_of_ble_eq_true rfl)) dX0_work_139 ⟨Nat.le_of_ble_eq_true rfl, Nat.le_of_ble_eq_true rfl⟩) [0, 1, 2] [3, 4] rfl rfl (by decide) (by decide) (fun u_10 H locs hw_10 h => ?_)
        obtain ⟨z_11, z_12, z_13⟩ := u_10
        have h : KS (dC, dI) A [(o2, .inr (2, [.ref a2_0, .ref a2_1, .ref a2_2, .ref a2_3, .int v2_4])), (a2_0, .inl (c2_0, 8, .inl f2_0)), (o0, .inr (0, [.int v0_0, .int v0_1, .int v0_2, .ref o2, .ref o5, .ref o3, .ref a0_6, .ref a0_7, .int z_11, .ref a0_9])), (a0_6, .inl (c0_6, 30, .inl z_12)), (a0_7, .inl (c0_7, 30, .inr (.inl z_13)))] [(c2_0, .int), (c0_6, .int), (c0_7, .long)] s H locs := h
        have hw_10 : IP z_12 ∧ (0 ≤ z_11.toInt ∧ z_11.toInt ≤ 30) := by first | exact hw_10 | (simp only [Int32.toInt_toInt64] at hw_10; exact hw_10)
        have hQ := hw_10.1
        have hw := hw_10.2
        refine W.eq (g2 := F0 m 142 ls []) rfl ?_
        refine lv_aload_n hx hb dX0_work_142 rfl (lv_at hl 2 rfl) ?_
        refine lv_bipush (v := 9) hx hb dX0_work_143 kbi_9 ?_
        refine lv_iload hx hb dX0_work_145 (lv_at hl 0 rfl) ?_
        refine lv_if_eq (tgt := 154) hx hb dX0_work_147 rfl (fun _ => ?_) (fun c_14 => absurd (by decide) c_14)
        refine lv_lconst (v := 0) hx hb dX0_work_154 (by decide) ?_
        refine kc_v (wc := [(o0, .inr (0, [.int v0_0, .int v0_1, .int v0_2, .ref o2, .ref o5, .ref o3, .ref a0_6, .ref a0_7, .int z_11, .ref a0_9])), (a0_6, .inl (c0_6, 30, .inl z_12)), (a0_7, .inl (c0_7, 30, .inr (.inl z_13)))]) (wr := [(o2, .inr (2, [.ref a2_0, .ref a2_1, .ref a2_2, .ref a2_3, .int v2_4])), (a2_0, .inl (c2_0, 8, .inl f2_0))]) h (va_runV (As := [.int 9, .long 0]) (rest := []) E (c_X0_putLater l dC dI _ (o0 := o0) (v0_0 := v0_0) (v0_1 := v0_1) (v0_2 := v0_2) (o2 := o2) (o5 := o5) (o3 := o3) (a0_6 := a0_6) (a0_7 := a0_7) (v0_8 := z_11) (a0_9 := a0_9) (c0_6 := c0_6) (f0_6 := z_12) (c0_7 := c0_7) (f0_7 := z_13) (p0 := 9) (p1 := 0)  (hQ := hQ) (hw := hw) (hp := (by first | decide | omega))) (cwV 2 E.2.2.2.2 gX0_work_X0_putLater rfl rfl rfl hdV_X0_putLater ⟨Nat.le_of_ble_eq_true rfl, Nat.le_of_ble_eq_true rfl⟩) (kPreV (q0 := 2) (ci := 0) (q := (RX0, TX0, 10)) h KX_true (fun _ _ _ => trivial) [2, 3, 4] [1, 2] (by decide) rfl rfl rfl rfl) rfl rfl hl.1 rfl (lv_room (Nat.le_of_ble_eq_true rfl)) dX0_work_155 ⟨Nat.le_of_ble_eq_true rfl, Nat.le_of_ble_eq_true rfl⟩) [2, 3, 4] [0, 1] rfl rfl (by decide) (by decide) (fun u_15 H locs hw_15 h => ?_)
        obtain ⟨z_16, z_17, z_18⟩ := u_15
        have h : KS (dC, dI) A [(o2, .inr (2, [.ref a2_0, .ref a2_1, .ref a2_2, .ref a2_3, .int v2_4])), (a2_0, .inl (c2_0, 8, .inl f2_0)), (o0, .inr (0, [.int v0_0, .int v0_1, .int v0_2, .ref o2, .ref o5, .ref o3, .ref a0_6, .ref a0_7, .int z_16, .ref a0_9])), (a0_6, .inl (c0_6, 30, .inl z_17)), (a0_7, .inl (c0_7, 30, .inr (.inl z_18)))] [(c2_0, .int), (c0_6, .int), (c0_7, .long)] s H locs := h
        have hw_15 : IP z_17 ∧ (0 ≤ z_16.toInt ∧ z_16.toInt ≤ 30) := by first | exact hw_15 | (simp only [Int32.toInt_toInt64] at hw_15; exact hw_15)
        have hQ := hw_15.1
        have hw := hw_15.2
        refine W.eq (g2 := F0 m 158 ls []) rfl ?_
        have hP9 := h.2.1.sub [2, 0, 1, 3, 4] rfl
        have hD9 := h.2.2.1.sub (ws' := [(o0, .inr (0, [.int v0_0, .int v0_1, .int v0_2, .ref o2, .ref o5, .ref o3, .ref a0_6, .ref a0_7, .int z_16, .ref a0_9])), (o2, .inr (2, [.ref a2_0, .ref a2_1, .ref a2_2, .ref a2_3, .int v2_4])), (a2_0, .inl (c2_0, 8, .inl f2_0)), (a0_6, .inl (c0_6, 30, .inl z_17)), (a0_7, .inl (c0_7, 30, .inr (.inl z_18)))]) [2, 0, 1, 3, 4] (by decide) rfl
        exact W.vret hx hb hr (fun t ht hW => ⟨⟨(z_16, z_17, z_18), rfl, hw_15, (by rw [ht]; exact hP9), hD9⟩, h.2.2.2.1.F ht⟩) h.2.2.2.1.2.2 dX0_work_158 hlocks
      · skip
        have i_9 : (kput f2_0 p1 (p2 + p3)).toInt = 0 := by have z := keq_p c_9; first | exact z | (simp only [Int32.toInt_toInt64] at z; exact z)
        have j_9 := keq64_p c_9
        refine lv_lconst (v := 1) hx hb dX0_work_134 (by decide) ?_
        refine lv_goto (tgt := 139) hx hb dX0_work_135 rfl ?_
        refine kc_v (wc := [(o0, .inr (0, [.int v0_0, .int v0_1, .int v0_2, .ref o2, .ref o5, .ref o3, .ref a0_6, .ref a0_7, .int z_5, .ref a0_9])), (a0_6, .inl (c0_6, 30, .inl z_6)), (a0_7, .inl (c0_7, 30, .inr (.inl z_7)))]) (wr := [(o2, .inr (2, [.ref a2_0, .ref a2_1, .ref a2_2, .ref a2_3, .int v2_4])), (a2_0, .inl (c2_0, 8, .inl f2_0))]) h (va_runV (As := [.int 8, .long 1]) (rest := []) E (c_X0_putLater l dC dI _ (o0 := o0) (v0_0 := v0_0) (v0_1 := v0_1) (v0_2 := v0_2) (o2 := o2) (o5 := o5) (o3 := o3) (a0_6 := a0_6) (a0_7 := a0_7) (v0_8 := z_5) (a0_9 := a0_9) (c0_6 := c0_6) (f0_6 := z_6) (c0_7 := c0_7) (f0_7 := z_7) (p0 := 8) (p1 := 1)  (hQ := hQ) (hw := hw) (hp := (by first | decide | omega))) (cwV 2 E.2.2.2.2 gX0_work_X0_putLater rfl rfl rfl hdV_X0_putLater ⟨Nat.le_of_ble_eq_true rfl, Nat.le_of_ble_eq_true rfl⟩) (kPreV (q0 := 0) (ci := 0) (q := (RX0, TX0, 10)) h KX_true (fun _ _ _ => trivial) [0, 1, 2] [1, 2] (by decide) rfl rfl rfl rfl) rfl rfl hl.1 rfl (lv_room (Nat.le_of_ble_eq_true rfl)) dX0_work_139 ⟨Nat.le_of_ble_eq_true rfl, Nat.le_of_ble_eq_true rfl⟩) [0, 1, 2] [3, 4] rfl rfl (by decide) (by decide) (fun u_19 H locs hw_19 h => ?_)
        obtain ⟨z_20, z_21, z_22⟩ := u_19
        have h : KS (dC, dI) A [(o2, .inr (2, [.ref a2_0, .ref a2_1, .ref a2_2, .ref a2_3, .int v2_4])), (a2_0, .inl (c2_0, 8, .inl f2_0)), (o0, .inr (0, [.int v0_0, .int v0_1, .int v0_2, .ref o2, .ref o5, .ref o3, .ref a0_6, .ref a0_7, .int z_20, .ref a0_9])), (a0_6, .inl (c0_6, 30, .inl z_21)), (a0_7, .inl (c0_7, 30, .inr (.inl z_22)))] [(c2_0, .int), (c0_6, .int), (c0_7, .long)] s H locs := h
        have hw_19 : IP z_21 ∧ (0 ≤ z_20.toInt ∧ z_20.toInt ≤ 30) := by first | exact hw_19 | (simp only [Int32.toInt_toInt64] at hw_19; exact hw_19)
        have hQ := hw_19.1
        have hw := hw_19.2
        refine W.eq (g2 := F0 m 142 ls []) rfl ?_
        refine lv_aload_n hx hb dX0_work_142 rfl (lv_at hl 2 rfl) ?_
        refine lv_bipush (v := 9) hx hb dX0_work_143 kbi_9 ?_
        refine lv_iload hx hb dX0_work_145 (lv_at hl 0 rfl) ?_
        refine lv_if_eq (tgt := 154) hx hb dX0_work_147 rfl (fun _ => ?_) (fun c_23 => absurd (by decide) c_23)
        refine lv_lconst (v := 0) hx hb dX0_work_154 (by decide) ?_
        refine kc_v (wc := [(o0, .inr (0, [.int v0_0, .int v0_1, .int v0_2, .ref o2, .ref o5, .ref o3, .ref a0_6, .ref a0_7, .int z_20, .ref a0_9])), (a0_6, .inl (c0_6, 30, .inl z_21)), (a0_7, .inl (c0_7, 30, .inr (.inl z_22)))]) (wr := [(o2, .inr (2, [.ref a2_0, .ref a2_1, .ref a2_2, .ref a2_3, .int v2_4])), (a2_0, .inl (c2_0, 8, .inl f2_0))]) h (va_runV (As := [.int 9, .long 0]) (rest := []) E (c_X0_putLater l dC dI _ (o0 := o0) (v0_0 := v0_0) (v0_1 := v0_1) (v0_2 := v0_2) (o2 := o2) (o5 := o5) (o3 := o3) (a0_6 := a0_6) (a0_7 := a0_7) (v0_8 := z_20) (a0_9 := a0_9) (c0_6 := c0_6) (f0_6 := z_21) (c0_7 := c0_7) (f0_7 := z_22) (p0 := 9) (p1 := 0)  (hQ := hQ) (hw := hw) (hp := (by first | decide | omega))) (cwV 2 E.2.2.2.2 gX0_work_X0_putLater rfl rfl rfl hdV_X0_putLater ⟨Nat.le_of_ble_eq_true rfl, Nat.le_of_ble_eq_true rfl⟩) (kPreV (q0 := 2) (ci := 0) (q := (RX0, TX0, 10)) h KX_true (fun _ _ _ => trivial) [2, 3, 4] [1, 2] (by decide) rfl rfl rfl rfl) rfl rfl hl.1 rfl (lv_room (Nat.le_of_ble_eq_true rfl)) dX0_work_155 ⟨Nat.le_of_ble_eq_true rfl, Nat.le_of_ble_eq_true rfl⟩) [2, 3, 4] [0, 1] rfl rfl (by decide) (by decide) (fun u_24 H locs hw_24 h => ?_)
        obtain ⟨z_25, z_26, z_27⟩ := u_24
        have h : KS (dC, dI) A [(o2, .inr (2, [.ref a2_0, .ref a2_1, .ref a2_2, .ref a2_3, .int v2_4])), (a2_0, .inl (c2_0, 8, .inl f2_0)), (o0, .inr (0, [.int v0_0, .int v0_1, .int v0_2, .ref o2, .ref o5, .ref o3, .ref a0_6, .ref a0_7, .int z_25, .ref a0_9])), (a0_6, .inl (c0_6, 30, .inl z_26)), (a0_7, .inl (c0_7, 30, .inr (.inl z_27)))] [(c2_0, .int), (c0_6, .int), (c0_7, .long)] s H locs := h
        have hw_24 : IP z_26 ∧ (0 ≤ z_25.toInt ∧ z_25.toInt ≤ 30) := by first | exact hw_24 | (simp only [Int32.toInt_toInt64] at hw_24; exact hw_24)
        have hQ := hw_24.1
        have hw := hw_24.2
        refine W.eq (g2 := F0 m 158 ls []) rfl ?_
        have hP9 := h.2.1.sub [2, 0, 1, 3, 4] rfl
        have hD9 := h.2.2.1.sub (ws' := [(o0, .inr (0, [.int v0_0, .int v0_1, .int v0_2, .ref o2, .ref o5, .ref o3, .ref a0_6, .ref a0_7, .int z_25, .ref a0_9])), (o2, .inr (2, [.ref a2_0, .ref a2_1, .ref a2_2, .ref a2_3, .int v2_4])), (a2_0, .inl (c2_0, 8, .inl f2_0)), (a0_6, .inl (c0_6, 30, .inl z_26)), (a0_7, .inl (c0_7, 30, .inr (.inl z_27)))]) [2, 0, 1, 3, 4] (by decide) rfl
        exact W.vret hx hb hr (fun t ht hW => ⟨⟨(z_25, z_26, z_27), rfl, hw_24, (by rw [ht]; exact hP9), hD9⟩, h.2.2.2.1.F ht⟩) h.2.2.2.1.2.2 dX0_work_158 hlocks
    · skip
      have i_3 : ¬ (p2 + p3).toInt = (kput f2_0 p1 (p2 + p3)).toInt := by have z := keq_n c_3; first | exact z | (simp only [Int32.toInt_toInt64] at z; exact z)
      have j_3 := keq64_n c_3
      refine lv_iconst (v := 1) hx hb dX0_work_58 kic_1 ?_
      refine lv_goto (tgt := 63) hx hb dX0_work_59 rfl ?_
      refine lv_istore (lv' := [(9, .int 1), (7, .long (p2 + p3)), (0, .ref o0), (1, .int p0), (2, .int p1), (3, .long p2), (5, .long p3)]) hx hb dX0_work_63 hl (Nat.le_of_ble_eq_true rfl) rfl (fun ls hl => ?_)
      refine lv_goto (tgt := 109) hx hb dX0_work_65 rfl ?_
      refine lv_aload_n hx hb dX0_work_109 rfl (lv_at hl 2 rfl) ?_
      refine lv_iload_n hx hb dX0_work_110 rfl (lv_at hl 4 rfl) ?_
      refine lv_lload hx hb dX0_work_111 (lv_at hl 1 rfl) ?_
      refine kc_v (wc := [(o0, .inr (0, [.int v0_0, .int v0_1, .int v0_2, .ref o2, .ref o5, .ref o3, .ref a0_6, .ref a0_7, .int v0_8, .ref a0_9])), (a0_6, .inl (c0_6, 30, .inl f0_6)), (a0_7, .inl (c0_7, 30, .inr (.inl f0_7)))]) (wr := [(o2, .inr (2, [.ref a2_0, .ref a2_1, .ref a2_2, .ref a2_3, .int v2_4])), (a2_0, .inl (c2_0, 8, .inl f2_0))]) h (va_runV (As := [.int p1, .long (p2 + p3)]) (rest := []) E (c_X0_putLater l dC dI _ (o0 := o0) (v0_0 := v0_0) (v0_1 := v0_1) (v0_2 := v0_2) (o2 := o2) (o5 := o5) (o3 := o3) (a0_6 := a0_6) (a0_7 := a0_7) (v0_8 := v0_8) (a0_9 := a0_9) (c0_6 := c0_6) (f0_6 := f0_6) (c0_7 := c0_7) (f0_7 := f0_7) (p0 := p1) (p1 := p2 + p3)  (hQ := hQ) (hw := hw) (hp := (by first | decide | omega))) (cwV 2 E.2.2.2.2 gX0_work_X0_putLater rfl rfl rfl hdV_X0_putLater ⟨Nat.le_of_ble_eq_true rfl, Nat.le_of_ble_eq_true rfl⟩) (kPreV (q0 := 0) (ci := 0) (q := (RX0, TX0, 10)) h KX_true (fun _ _ _ => trivial) [0, 1, 2] [1, 2] (by decide) rfl rfl rfl rfl) rfl rfl hl.1 rfl (lv_room (Nat.le_of_ble_eq_true rfl)) dX0_work_113 ⟨Nat.le_of_ble_eq_true rfl, Nat.le_of_ble_eq_true rfl⟩) [0, 1, 2] [3, 4] rfl rfl (by decide) (by decide) (fun u_28 H locs hw_28 h => ?_)
      obtain ⟨z_29, z_30, z_31⟩ := u_28
      have h : KS (dC, dI) A [(o2, .inr (2, [.ref a2_0, .ref a2_1, .ref a2_2, .ref a2_3, .int v2_4])), (a2_0, .inl (c2_0, 8, .inl f2_0)), (o0, .inr (0, [.int v0_0, .int v0_1, .int v0_2, .ref o2, .ref o5, .ref o3, .ref a0_6, .ref a0_7, .int z_29, .ref a0_9])), (a0_6, .inl (c0_6, 30, .inl z_30)), (a0_7, .inl (c0_7, 30, .inr (.inl z_31)))] [(c2_0, .int), (c0_6, .int), (c0_7, .long)] s H locs := h
      have hw_28 : IP z_30 ∧ (0 ≤ z_29.toInt ∧ z_29.toInt ≤ 30) := by first | exact hw_28 | (simp only [Int32.toInt_toInt64] at hw_28; exact hw_28)
      have hQ := hw_28.1
      have hw := hw_28.2
      refine W.eq (g2 := F0 m 116 ls []) rfl ?_
      refine lv_aload_n hx hb dX0_work_116 rfl (lv_at hl 2 rfl) ?_
      refine lv_bipush (v := 8) hx hb dX0_work_117 kbi_8 ?_
      refine lv_aload_n hx hb dX0_work_119 rfl (lv_at hl 2 rfl) ?_
      refine k_get (v := .ref o2) E h (fun w h => List.mem_cons_of_mem _ (List.mem_append_left _ (List.mem_append_right _ h))) 2 rfl rfl 3 (Nat.le_of_ble_eq_true rfl) (List.mem_of_getElem? (i := 1) rfl) rfl dX0_work_120 ?_
      refine lv_iload_n hx hb dX0_work_123 rfl (lv_at hl 4 rfl) ?_
      refine lv_lload hx hb dX0_work_124 (lv_at hl 1 rfl) ?_
      refine kc_l (wc := [(o2, .inr (2, [.ref a2_0, .ref a2_1, .ref a2_2, .ref a2_3, .int v2_4])), (a2_0, .inl (c2_0, 8, .inl f2_0))]) (wr := [(o0, .inr (0, [.int v0_0, .int v0_1, .int v0_2, .ref o2, .ref o5, .ref o3, .ref a0_6, .ref a0_7, .int z_29, .ref a0_9])), (a0_6, .inl (c0_6, 30, .inl z_30)), (a0_7, .inl (c0_7, 30, .inr (.inl z_31)))]) h (va_runV (As := [.int p1, .long (p2 + p3)]) (rest := [.int 8, .ref o0]) E (c_X2_cutFor l dC dI _ (o2 := o2) (a2_0 := a2_0) (a2_1 := a2_1) (a2_2 := a2_2) (a2_3 := a2_3) (v2_4 := v2_4) (c2_0 := c2_0) (f2_0 := f2_0) (p0 := p1) (p1 := p2 + p3)  (hp := (by first | decide | omega))) (cwV 2 E.2.2.2.2 gX0_work_X2_cutFor rfl rfl rfl hdV_X2_cutFor ⟨Nat.le_of_ble_eq_true rfl, Nat.le_of_ble_eq_true rfl⟩) (kPreV (q0 := 0) (ci := 2) (q := (RX2, TX2, 5)) h KX_true (fun _ _ _ => trivial) [0, 1] [0] (by decide) rfl rfl rfl rfl) rfl rfl hl.1 rfl (lv_room (Nat.le_of_ble_eq_true rfl)) dX0_work_126 ⟨Nat.le_of_ble_eq_true rfl, Nat.le_of_ble_eq_true rfl⟩) [0, 1] [2, 3, 4] rfl rfl (by decide) (by decide) (fun r_32 u_32 H locs hw_32 h => ?_)
      have h : KS (dC, dI) A [(o0, .inr (0, [.int v0_0, .int v0_1, .int v0_2, .ref o2, .ref o5, .ref o3, .ref a0_6, .ref a0_7, .int z_29, .ref a0_9])), (a0_6, .inl (c0_6, 30, .inl z_30)), (a0_7, .inl (c0_7, 30, .inr (.inl z_31))), (o2, .inr (2, [.ref a2_0, .ref a2_1, .ref a2_2, .ref a2_3, .int v2_4])), (a2_0, .inl (c2_0, 8, .inl f2_0))] [(c2_0, .int), (c0_6, .int), (c0_7, .long)] s H locs := h
      have hw_32 : r_32 = kput f2_0 p1 (p2 + p3) := by first | exact hw_32 | (simp only [Int32.toInt_toInt64] at hw_32; exact hw_32)
      refine k_topl (y := kput f2_0 p1 (p2 + p3)) (hw_32) ?_
      refine W.eq (g2 := F0 m 129 ls [.long (kput f2_0 p1 (p2 + p3)), .int 8, .ref o0]) rfl ?_
      refine lv_lconst (v := 0) hx hb dX0_work_129 (by decide) ?_
      refine W.lcmp hx hb dX0_work_130 ?_
      refine lv_if_ne (tgt := 138) hx hb dX0_work_131 rfl (fun c_33 => ?_) (fun c_33 => ?_)
      · skip
        have i_33 : ¬ (kput f2_0 p1 (p2 + p3)).toInt = 0 := by have z := keq_n c_33; first | exact z | (simp only [Int32.toInt_toInt64] at z; exact z)
        have j_33 := keq64_n c_33
        refine lv_lconst (v := 0) hx hb dX0_work_138 (by decide) ?_
        refine kc_v (wc := [(o0, .inr (0, [.int v0_0, .int v0_1, .int v0_2, .ref o2, .ref o5, .ref o3, .ref a0_6, .ref a0_7, .int z_29, .ref a0_9])), (a0_6, .inl (c0_6, 30, .inl z_30)), (a0_7, .inl (c0_7, 30, .inr (.inl z_31)))]) (wr := [(o2, .inr (2, [.ref a2_0, .ref a2_1, .ref a2_2, .ref a2_3, .int v2_4])), (a2_0, .inl (c2_0, 8, .inl f2_0))]) h (va_runV (As := [.int 8, .long 0]) (rest := []) E (c_X0_putLater l dC dI _ (o0 := o0) (v0_0 := v0_0) (v0_1 := v0_1) (v0_2 := v0_2) (o2 := o2) (o5 := o5) (o3 := o3) (a0_6 := a0_6) (a0_7 := a0_7) (v0_8 := z_29) (a0_9 := a0_9) (c0_6 := c0_6) (f0_6 := z_30) (c0_7 := c0_7) (f0_7 := z_31) (p0 := 8) (p1 := 0)  (hQ := hQ) (hw := hw) (hp := (by first | decide | omega))) (cwV 2 E.2.2.2.2 gX0_work_X0_putLater rfl rfl rfl hdV_X0_putLater ⟨Nat.le_of_ble_eq_true rfl, Nat.le_of_ble_eq_true rfl⟩) (kPreV (q0 := 0) (ci := 0) (q := (RX0, TX0, 10)) h KX_true (fun _ _ _ => trivial) [0, 1, 2] [1, 2] (by decide) rfl rfl rfl rfl) rfl rfl hl.1 rfl (lv_room (Nat.le_of_ble_eq_true rfl)) dX0_work_139 ⟨Nat.le_of_ble_eq_true rfl, Nat.le_of_ble_eq_true rfl⟩) [0, 1, 2] [3, 4] rfl rfl (by decide) (by decide) (fun u_34 H locs hw_34 h => ?_)
        obtain ⟨z_35, z_36, z_37⟩ := u_34
        have h : KS (dC, dI) A [(o2, .inr (2, [.ref a2_0, .ref a2_1, .ref a2_2, .ref a2_3, .int v2_4])), (a2_0, .inl (c2_0, 8, .inl f2_0)), (o0, .inr (0, [.int v0_0, .int v0_1, .int v0_2, .ref o2, .ref o5, .ref o3, .ref a0_6, .ref a0_7, .int z_35, .ref a0_9])), (a0_6, .inl (c0_6, 30, .inl z_36)), (a0_7, .inl (c0_7, 30, .inr (.inl z_37)))] [(c2_0, .int), (c0_6, .int), (c0_7, .long)] s H locs := h
        have hw_34 : IP z_36 ∧ (0 ≤ z_35.toInt ∧ z_35.toInt ≤ 30) := by first | exact hw_34 | (simp only [Int32.toInt_toInt64] at hw_34; exact hw_34)
        have hQ := hw_34.1
        have hw := hw_34.2
        refine W.eq (g2 := F0 m 142 ls []) rfl ?_
        refine lv_aload_n hx hb dX0_work_142 rfl (lv_at hl 2 rfl) ?_
        refine lv_bipush (v := 9) hx hb dX0_work_143 kbi_9 ?_
        refine lv_iload hx hb dX0_work_145 (lv_at hl 0 rfl) ?_
        refine lv_if_eq (tgt := 154) hx hb dX0_work_147 rfl (fun c_38 => absurd c_38 (by decide)) (fun _ => ?_)
        refine lv_lconst (v := 1) hx hb dX0_work_150 (by decide) ?_
        refine lv_goto (tgt := 155) hx hb dX0_work_151 rfl ?_
        refine kc_v (wc := [(o0, .inr (0, [.int v0_0, .int v0_1, .int v0_2, .ref o2, .ref o5, .ref o3, .ref a0_6, .ref a0_7, .int z_35, .ref a0_9])), (a0_6, .inl (c0_6, 30, .inl z_36)), (a0_7, .inl (c0_7, 30, .inr (.inl z_37)))]) (wr := [(o2, .inr (2, [.ref a2_0, .ref a2_1, .ref a2_2, .ref a2_3, .int v2_4])), (a2_0, .inl (c2_0, 8, .inl f2_0))]) h (va_runV (As := [.int 9, .long 1]) (rest := []) E (c_X0_putLater l dC dI _ (o0 := o0) (v0_0 := v0_0) (v0_1 := v0_1) (v0_2 := v0_2) (o2 := o2) (o5 := o5) (o3 := o3) (a0_6 := a0_6) (a0_7 := a0_7) (v0_8 := z_35) (a0_9 := a0_9) (c0_6 := c0_6) (f0_6 := z_36) (c0_7 := c0_7) (f0_7 := z_37) (p0 := 9) (p1 := 1)  (hQ := hQ) (hw := hw) (hp := (by first | decide | omega))) (cwV 2 E.2.2.2.2 gX0_work_X0_putLater rfl rfl rfl hdV_X0_putLater ⟨Nat.le_of_ble_eq_true rfl, Nat.le_of_ble_eq_true rfl⟩) (kPreV (q0 := 2) (ci := 0) (q := (RX0, TX0, 10)) h KX_true (fun _ _ _ => trivial) [2, 3, 4] [1, 2] (by decide) rfl rfl rfl rfl) rfl rfl hl.1 rfl (lv_room (Nat.le_of_ble_eq_true rfl)) dX0_work_155 ⟨Nat.le_of_ble_eq_true rfl, Nat.le_of_ble_eq_true rfl⟩) [2, 3, 4] [0, 1] rfl rfl (by decide) (by decide) (fun u_39 H locs hw_39 h => ?_)
        obtain ⟨z_40, z_41, z_42⟩ := u_39
        have h : KS (dC, dI) A [(o2, .inr (2, [.ref a2_0, .ref a2_1, .ref a2_2, .ref a2_3, .int v2_4])), (a2_0, .inl (c2_0, 8, .inl f2_0)), (o0, .inr (0, [.int v0_0, .int v0_1, .int v0_2, .ref o2, .ref o5, .ref o3, .ref a0_6, .ref a0_7, .int z_40, .ref a0_9])), (a0_6, .inl (c0_6, 30, .inl z_41)), (a0_7, .inl (c0_7, 30, .inr (.inl z_42)))] [(c2_0, .int), (c0_6, .int), (c0_7, .long)] s H locs := h
        have hw_39 : IP z_41 ∧ (0 ≤ z_40.toInt ∧ z_40.toInt ≤ 30) := by first | exact hw_39 | (simp only [Int32.toInt_toInt64] at hw_39; exact hw_39)
        have hQ := hw_39.1
        have hw := hw_39.2
        refine W.eq (g2 := F0 m 158 ls []) rfl ?_
        have hP9 := h.2.1.sub [2, 0, 1, 3, 4] rfl
        have hD9 := h.2.2.1.sub (ws' := [(o0, .inr (0, [.int v0_0, .int v0_1, .int v0_2, .ref o2, .ref o5, .ref o3, .ref a0_6, .ref a0_7, .int z_40, .ref a0_9])), (o2, .inr (2, [.ref a2_0, .ref a2_1, .ref a2_2, .ref a2_3, .int v2_4])), (a2_0, .inl (c2_0, 8, .inl f2_0)), (a0_6, .inl (c0_6, 30, .inl z_41)), (a0_7, .inl (c0_7, 30, .inr (.inl z_42)))]) [2, 0, 1, 3, 4] (by decide) rfl
        exact W.vret hx hb hr (fun t ht hW => ⟨⟨(z_40, z_41, z_42), rfl, hw_39, (by rw [ht]; exact hP9), hD9⟩, h.2.2.2.1.F ht⟩) h.2.2.2.1.2.2 dX0_work_158 hlocks
      · skip
        have i_33 : (kput f2_0 p1 (p2 + p3)).toInt = 0 := by have z := keq_p c_33; first | exact z | (simp only [Int32.toInt_toInt64] at z; exact z)
        have j_33 := keq64_p c_33
        refine lv_lconst (v := 1) hx hb dX0_work_134 (by decide) ?_
        refine lv_goto (tgt := 139) hx hb dX0_work_135 rfl ?_
        refine kc_v (wc := [(o0, .inr (0, [.int v0_0, .int v0_1, .int v0_2, .ref o2, .ref o5, .ref o3, .ref a0_6, .ref a0_7, .int z_29, .ref a0_9])), (a0_6, .inl (c0_6, 30, .inl z_30)), (a0_7, .inl (c0_7, 30, .inr (.inl z_31)))]) (wr := [(o2, .inr (2, [.ref a2_0, .ref a2_1, .ref a2_2, .ref a2_3, .int v2_4])), (a2_0, .inl (c2_0, 8, .inl f2_0))]) h (va_runV (As := [.int 8, .long 1]) (rest := []) E (c_X0_putLater l dC dI _ (o0 := o0) (v0_0 := v0_0) (v0_1 := v0_1) (v0_2 := v0_2) (o2 := o2) (o5 := o5) (o3 := o3) (a0_6 := a0_6) (a0_7 := a0_7) (v0_8 := z_29) (a0_9 := a0_9) (c0_6 := c0_6) (f0_6 := z_30) (c0_7 := c0_7) (f0_7 := z_31) (p0 := 8) (p1 := 1)  (hQ := hQ) (hw := hw) (hp := (by first | decide | omega))) (cwV 2 E.2.2.2.2 gX0_work_X0_putLater rfl rfl rfl hdV_X0_putLater ⟨Nat.le_of_ble_eq_true rfl, Nat.le_of_ble_eq_true rfl⟩) (kPreV (q0 := 0) (ci := 0) (q := (RX0, TX0, 10)) h KX_true (fun _ _ _ => trivial) [0, 1, 2] [1, 2] (by decide) rfl rfl rfl rfl) rfl rfl hl.1 rfl (lv_room (Nat.le_of_ble_eq_true rfl)) dX0_work_139 ⟨Nat.le_of_ble_eq_true rfl, Nat.le_of_ble_eq_true rfl⟩) [0, 1, 2] [3, 4] rfl rfl (by decide) (by decide) (fun u_43 H locs hw_43 h => ?_)
        obtain ⟨z_44, z_45, z_46⟩ := u_43
        have h : KS (dC, dI) A [(o2, .inr (2, [.ref a2_0, .ref a2_1, .ref a2_2, .ref a2_3, .int v2_4])), (a2_0, .inl (c2_0, 8, .inl f2_0)), (o0, .inr (0, [.int v0_0, .int v0_1, .int v0_2, .ref o2, .ref o5, .ref o3, .ref a0_6, .ref a0_7, .int z_44, .ref a0_9])), (a0_6, .inl (c0_6, 30, .inl z_45)), (a0_7, .inl (c0_7, 30, .inr (.inl z_46)))] [(c2_0, .int), (c0_6, .int), (c0_7, .long)] s H locs := h
        have hw_43 : IP z_45 ∧ (0 ≤ z_44.toInt ∧ z_44.toInt ≤ 30) := by first | exact hw_43 | (simp only [Int32.toInt_toInt64] at hw_43; exact hw_43)
        have hQ := hw_43.1
        have hw := hw_43.2
        refine W.eq (g2 := F0 m 142 ls []) rfl ?_
        refine lv_aload_n hx hb dX0_work_142 rfl (lv_at hl 2 rfl) ?_
        refine lv_bipush (v := 9) hx hb dX0_work_143 kbi_9 ?_
        refine lv_iload hx hb dX0_work_145 (lv_at hl 0 rfl) ?_
        refine lv_if_eq (tgt := 154) hx hb dX0_work_147 rfl (fun c_47 => absurd c_47 (by decide)) (fun _ => ?_)
        refine lv_lconst (v := 1) hx hb dX0_work_150 (by decide) ?_
        refine lv_goto (tgt := 155) hx hb dX0_work_151 rfl ?_
        refine kc_v (wc := [(o0, .inr (0, [.int v0_0, .int v0_1, .int v0_2, .ref o2, .ref o5, .ref o3, .ref a0_6, .ref a0_7, .int z_44, .ref a0_9])), (a0_6, .inl (c0_6, 30, .inl z_45)), (a0_7, .inl (c0_7, 30, .inr (.inl z_46)))]) (wr := [(o2, .inr (2, [.ref a2_0, .ref a2_1, .ref a2_2, .ref a2_3, .int v2_4])), (a2_0, .inl (c2_0, 8, .inl f2_0))]) h (va_runV (As := [.int 9, .long 1]) (rest := []) E (c_X0_putLater l dC dI _ (o0 := o0) (v0_0 := v0_0) (v0_1 := v0_1) (v0_2 := v0_2) (o2 := o2) (o5 := o5) (o3 := o3) (a0_6 := a0_6) (a0_7 := a0_7) (v0_8 := z_44) (a0_9 := a0_9) (c0_6 := c0_6) (f0_6 := z_45) (c0_7 := c0_7) (f0_7 := z_46) (p0 := 9) (p1 := 1)  (hQ := hQ) (hw := hw) (hp := (by first | decide | omega))) (cwV 2 E.2.2.2.2 gX0_work_X0_putLater rfl rfl rfl hdV_X0_putLater ⟨Nat.le_of_ble_eq_true rfl, Nat.le_of_ble_eq_true rfl⟩) (kPreV (q0 := 2) (ci := 0) (q := (RX0, TX0, 10)) h KX_true (fun _ _ _ => trivial) [2, 3, 4] [1, 2] (by decide) rfl rfl rfl rfl) rfl rfl hl.1 rfl (lv_room (Nat.le_of_ble_eq_true rfl)) dX0_work_155 ⟨Nat.le_of_ble_eq_true rfl, Nat.le_of_ble_eq_true rfl⟩) [2, 3, 4] [0, 1] rfl rfl (by decide) (by decide) (fun u_48 H locs hw_48 h => ?_)
        obtain ⟨z_49, z_50, z_51⟩ := u_48
        have h : KS (dC, dI) A [(o2, .inr (2, [.ref a2_0, .ref a2_1, .ref a2_2, .ref a2_3, .int v2_4])), (a2_0, .inl (c2_0, 8, .inl f2_0)), (o0, .inr (0, [.int v0_0, .int v0_1, .int v0_2, .ref o2, .ref o5, .ref o3, .ref a0_6, .ref a0_7, .int z_49, .ref a0_9])), (a0_6, .inl (c0_6, 30, .inl z_50)), (a0_7, .inl (c0_7, 30, .inr (.inl z_51)))] [(c2_0, .int), (c0_6, .int), (c0_7, .long)] s H locs := h
        have hw_48 : IP z_50 ∧ (0 ≤ z_49.toInt ∧ z_49.toInt ≤ 30) := by first | exact hw_48 | (simp only [Int32.toInt_toInt64] at hw_48; exact hw_48)
        have hQ := hw_48.1
        have hw := hw_48.2
        refine W.eq (g2 := F0 m 158 ls []) rfl ?_
        have hP9 := h.2.1.sub [2, 0, 1, 3, 4] rfl
        have hD9 := h.2.2.1.sub (ws' := [(o0, .inr (0, [.int v0_0, .int v0_1, .int v0_2, .ref o2, .ref o5, .ref o3, .ref a0_6, .ref a0_7, .int z_49, .ref a0_9])), (o2, .inr (2, [.ref a2_0, .ref a2_1, .ref a2_2, .ref a2_3, .int v2_4])), (a2_0, .inl (c2_0, 8, .inl f2_0)), (a0_6, .inl (c0_6, 30, .inl z_50)), (a0_7, .inl (c0_7, 30, .inr (.inl z_51)))]) [2, 0, 1, 3, 4] (by decide) rfl
        exact W.vret hx hb hr (fun t ht hW => ⟨⟨(z_49, z_50, z_51), rfl, hw_48, (by rw [ht]; exact hP9), hD9⟩, h.2.2.2.1.F ht⟩) h.2.2.2.1.2.2 dX0_work_158 hlocks
  have i_1 : ¬ p0.toInt = 2 := fun h9 => s_1 ((fa_eq _ _).mpr h9)
  by_cases s_52 : p0 = 3
  · refine k_topi (y := 3) s_52 ?_
    have i_52 : p0.toInt = 3 := (fa_eq _ _).mp s_52
    refine lv_tableIn (off := 61) (tgt := 68) hx hb dX0_work_7 (by decide) (by decide) rfl (by decide) ?_
    refine lv_lload_n hx hb dX0_work_68 rfl (lv_at hl 5 rfl) ?_
    refine lv_lload hx hb dX0_work_69 (lv_at hl 6 rfl) ?_
    refine lv_lsub hx hb dX0_work_71 ?_
    refine lv_lstore (lv' := [(7, .long (p2 - p3)), (9, .int 0), (0, .ref o0), (1, .int p0), (2, .int p1), (3, .long p2), (5, .long p3)]) hx hb dX0_work_72 hl (by decide) rfl (fun ls hl => ?_)
    refine lv_lload hx hb dX0_work_74 (lv_at hl 6 rfl) ?_
    refine lv_lload_n hx hb dX0_work_76 rfl (lv_at hl 5 rfl) ?_
    refine W.lcmp hx hb dX0_work_77 ?_
    refine lv_if_le (tgt := 85) hx hb dX0_work_78 rfl (fun c_53 => ?_) (fun c_53 => ?_)
    · skip
      have i_53 : p3.toInt ≤ p2.toInt := by have z := kle_p c_53; first | exact z | (simp only [Int32.toInt_toInt64] at z; exact z)
      refine lv_iconst (v := 0) hx hb dX0_work_85 kic_0 ?_
      refine lv_istore (lv' := [(9, .int 0), (7, .long (p2 - p3)), (0, .ref o0), (1, .int p0), (2, .int p1), (3, .long p2), (5, .long p3)]) hx hb dX0_work_86 hl (Nat.le_of_ble_eq_true rfl) rfl (fun ls hl => ?_)
      refine lv_goto (tgt := 109) hx hb dX0_work_88 rfl ?_
      refine lv_aload_n hx hb dX0_work_109 rfl (lv_at hl 2 rfl) ?_
      refine lv_iload_n hx hb dX0_work_110 rfl (lv_at hl 4 rfl) ?_
      refine lv_lload hx hb dX0_work_111 (lv_at hl 1 rfl) ?_
      refine kc_v (wc := [(o0, .inr (0, [.int v0_0, .int v0_1, .int v0_2, .ref o2, .ref o5, .ref o3, .ref a0_6, .ref a0_7, .int v0_8, .ref a0_9])), (a0_6, .inl (c0_6, 30, .inl f0_6)), (a0_7, .inl (c0_7, 30, .inr (.inl f0_7)))]) (wr := [(o2, .inr (2, [.ref a2_0, .ref a2_1, .ref a2_2, .ref a2_3, .int v2_4])), (a2_0, .inl (c2_0, 8, .inl f2_0))]) h (va_runV (As := [.int p1, .long (p2 - p3)]) (rest := []) E (c_X0_putLater l dC dI _ (o0 := o0) (v0_0 := v0_0) (v0_1 := v0_1) (v0_2 := v0_2) (o2 := o2) (o5 := o5) (o3 := o3) (a0_6 := a0_6) (a0_7 := a0_7) (v0_8 := v0_8) (a0_9 := a0_9) (c0_6 := c0_6) (f0_6 := f0_6) (c0_7 := c0_7) (f0_7 := f0_7) (p0 := p1) (p1 := p2 - p3)  (hQ := hQ) (hw := hw) (hp := (by first | decide | omega))) (cwV 2 E.2.2.2.2 gX0_work_X0_putLater rfl rfl rfl hdV_X0_putLater ⟨Nat.le_of_ble_eq_true rfl, Nat.le_of_ble_eq_true rfl⟩) (kPreV (q0 := 0) (ci := 0) (q := (RX0, TX0, 10)) h KX_true (fun _ _ _ => trivial) [0, 3, 4] [1, 2] (by decide) rfl rfl rfl rfl) rfl rfl hl.1 rfl (lv_room (Nat.le_of_ble_eq_true rfl)) dX0_work_113 ⟨Nat.le_of_ble_eq_true rfl, Nat.le_of_ble_eq_true rfl⟩) [0, 3, 4] [1, 2] rfl rfl (by decide) (by decide) (fun u_54 H locs hw_54 h => ?_)
      obtain ⟨z_55, z_56, z_57⟩ := u_54
      have h : KS (dC, dI) A [(o2, .inr (2, [.ref a2_0, .ref a2_1, .ref a2_2, .ref a2_3, .int v2_4])), (a2_0, .inl (c2_0, 8, .inl f2_0)), (o0, .inr (0, [.int v0_0, .int v0_1, .int v0_2, .ref o2, .ref o5, .ref o3, .ref a0_6, .ref a0_7, .int z_55, .ref a0_9])), (a0_6, .inl (c0_6, 30, .inl z_56)), (a0_7, .inl (c0_7, 30, .inr (.inl z_57)))] [(c2_0, .int), (c0_6, .int), (c0_7, .long)] s H locs := h
      have hw_54 : IP z_56 ∧ (0 ≤ z_55.toInt ∧ z_55.toInt ≤ 30) := by first | exact hw_54 | (simp only [Int32.toInt_toInt64] at hw_54; exact hw_54)
      have hQ := hw_54.1
      have hw := hw_54.2
      refine W.eq (g2 := F0 m 116 ls []) rfl ?_
      refine lv_aload_n hx hb dX0_work_116 rfl (lv_at hl 2 rfl) ?_
      refine lv_bipush (v := 8) hx hb dX0_work_117 kbi_8 ?_
      refine lv_aload_n hx hb dX0_work_119 rfl (lv_at hl 2 rfl) ?_
      refine k_get (v := .ref o2) E h (fun w h => List.mem_cons_of_mem _ (List.mem_append_left _ (List.mem_append_right _ h))) 2 rfl rfl 3 (Nat.le_of_ble_eq_true rfl) (List.mem_of_getElem? (i := 1) rfl) rfl dX0_work_120 ?_
      refine lv_iload_n hx hb dX0_work_123 rfl (lv_at hl 4 rfl) ?_
      refine lv_lload hx hb dX0_work_124 (lv_at hl 1 rfl) ?_
      refine kc_l (wc := [(o2, .inr (2, [.ref a2_0, .ref a2_1, .ref a2_2, .ref a2_3, .int v2_4])), (a2_0, .inl (c2_0, 8, .inl f2_0))]) (wr := [(o0, .inr (0, [.int v0_0, .int v0_1, .int v0_2, .ref o2, .ref o5, .ref o3, .ref a0_6, .ref a0_7, .int z_55, .ref a0_9])), (a0_6, .inl (c0_6, 30, .inl z_56)), (a0_7, .inl (c0_7, 30, .inr (.inl z_57)))]) h (va_runV (As := [.int p1, .long (p2 - p3)]) (rest := [.int 8, .ref o0]) E (c_X2_cutFor l dC dI _ (o2 := o2) (a2_0 := a2_0) (a2_1 := a2_1) (a2_2 := a2_2) (a2_3 := a2_3) (v2_4 := v2_4) (c2_0 := c2_0) (f2_0 := f2_0) (p0 := p1) (p1 := p2 - p3)  (hp := (by first | decide | omega))) (cwV 2 E.2.2.2.2 gX0_work_X2_cutFor rfl rfl rfl hdV_X2_cutFor ⟨Nat.le_of_ble_eq_true rfl, Nat.le_of_ble_eq_true rfl⟩) (kPreV (q0 := 0) (ci := 2) (q := (RX2, TX2, 5)) h KX_true (fun _ _ _ => trivial) [0, 1] [0] (by decide) rfl rfl rfl rfl) rfl rfl hl.1 rfl (lv_room (Nat.le_of_ble_eq_true rfl)) dX0_work_126 ⟨Nat.le_of_ble_eq_true rfl, Nat.le_of_ble_eq_true rfl⟩) [0, 1] [2, 3, 4] rfl rfl (by decide) (by decide) (fun r_58 u_58 H locs hw_58 h => ?_)
      have h : KS (dC, dI) A [(o0, .inr (0, [.int v0_0, .int v0_1, .int v0_2, .ref o2, .ref o5, .ref o3, .ref a0_6, .ref a0_7, .int z_55, .ref a0_9])), (a0_6, .inl (c0_6, 30, .inl z_56)), (a0_7, .inl (c0_7, 30, .inr (.inl z_57))), (o2, .inr (2, [.ref a2_0, .ref a2_1, .ref a2_2, .ref a2_3, .int v2_4])), (a2_0, .inl (c2_0, 8, .inl f2_0))] [(c2_0, .int), (c0_6, .int), (c0_7, .long)] s H locs := h
      have hw_58 : r_58 = kput f2_0 p1 (p2 - p3) := by first | exact hw_58 | (simp only [Int32.toInt_toInt64] at hw_58; exact hw_58)
      refine k_topl (y := kput f2_0 p1 (p2 - p3)) (hw_58) ?_
      refine W.eq (g2 := F0 m 129 ls [.long (kput f2_0 p1 (p2 - p3)), .int 8, .ref o0]) rfl ?_
      refine lv_lconst (v := 0) hx hb dX0_work_129 (by decide) ?_
      refine W.lcmp hx hb dX0_work_130 ?_
      refine lv_if_ne (tgt := 138) hx hb dX0_work_131 rfl (fun c_59 => ?_) (fun c_59 => ?_)
      · skip
        have i_59 : ¬ (kput f2_0 p1 (p2 - p3)).toInt = 0 := by have z := keq_n c_59; first | exact z | (simp only [Int32.toInt_toInt64] at z; exact z)
        have j_59 := keq64_n c_59
        refine lv_lconst (v := 0) hx hb dX0_work_138 (by decide) ?_
        refine kc_v (wc := [(o0, .inr (0, [.int v0_0, .int v0_1, .int v0_2, .ref o2, .ref o5, .ref o3, .ref a0_6, .ref a0_7, .int z_55, .ref a0_9])), (a0_6, .inl (c0_6, 30, .inl z_56)), (a0_7, .inl (c0_7, 30, .inr (.inl z_57)))]) (wr := [(o2, .inr (2, [.ref a2_0, .ref a2_1, .ref a2_2, .ref a2_3, .int v2_4])), (a2_0, .inl (c2_0, 8, .inl f2_0))]) h (va_runV (As := [.int 8, .long 0]) (rest := []) E (c_X0_putLater l dC dI _ (o0 := o0) (v0_0 := v0_0) (v0_1 := v0_1) (v0_2 := v0_2) (o2 := o2) (o5 := o5) (o3 := o3) (a0_6 := a0_6) (a0_7 := a0_7) (v0_8 := z_55) (a0_9 := a0_9) (c0_6 := c0_6) (f0_6 := z_56) (c0_7 := c0_7) (f0_7 := z_57) (p0 := 8) (p1 := 0)  (hQ := hQ) (hw := hw) (hp := (by first | decide | omega))) (cwV 2 E.2.2.2.2 gX0_work_X0_putLater rfl rfl rfl hdV_X0_putLater ⟨Nat.le_of_ble_eq_true rfl, Nat.le_of_ble_eq_true rfl⟩) (kPreV (q0 := 0) (ci := 0) (q := (RX0, TX0, 10)) h KX_true (fun _ _ _ => trivial) [0, 1, 2] [1, 2] (by decide) rfl rfl rfl rfl) rfl rfl hl.1 rfl (lv_room (Nat.le_of_ble_eq_true rfl)) dX0_work_139 ⟨Nat.le_of_ble_eq_true rfl, Nat.le_of_ble_eq_true rfl⟩) [0, 1, 2] [3, 4] rfl rfl (by decide) (by decide) (fun u_60 H locs hw_60 h => ?_)
        obtain ⟨z_61, z_62, z_63⟩ := u_60
        have h : KS (dC, dI) A [(o2, .inr (2, [.ref a2_0, .ref a2_1, .ref a2_2, .ref a2_3, .int v2_4])), (a2_0, .inl (c2_0, 8, .inl f2_0)), (o0, .inr (0, [.int v0_0, .int v0_1, .int v0_2, .ref o2, .ref o5, .ref o3, .ref a0_6, .ref a0_7, .int z_61, .ref a0_9])), (a0_6, .inl (c0_6, 30, .inl z_62)), (a0_7, .inl (c0_7, 30, .inr (.inl z_63)))] [(c2_0, .int), (c0_6, .int), (c0_7, .long)] s H locs := h
        have hw_60 : IP z_62 ∧ (0 ≤ z_61.toInt ∧ z_61.toInt ≤ 30) := by first | exact hw_60 | (simp only [Int32.toInt_toInt64] at hw_60; exact hw_60)
        have hQ := hw_60.1
        have hw := hw_60.2
        refine W.eq (g2 := F0 m 142 ls []) rfl ?_
        refine lv_aload_n hx hb dX0_work_142 rfl (lv_at hl 2 rfl) ?_
        refine lv_bipush (v := 9) hx hb dX0_work_143 kbi_9 ?_
        refine lv_iload hx hb dX0_work_145 (lv_at hl 0 rfl) ?_
        refine lv_if_eq (tgt := 154) hx hb dX0_work_147 rfl (fun _ => ?_) (fun c_64 => absurd (by decide) c_64)
        refine lv_lconst (v := 0) hx hb dX0_work_154 (by decide) ?_
        refine kc_v (wc := [(o0, .inr (0, [.int v0_0, .int v0_1, .int v0_2, .ref o2, .ref o5, .ref o3, .ref a0_6, .ref a0_7, .int z_61, .ref a0_9])), (a0_6, .inl (c0_6, 30, .inl z_62)), (a0_7, .inl (c0_7, 30, .inr (.inl z_63)))]) (wr := [(o2, .inr (2, [.ref a2_0, .ref a2_1, .ref a2_2, .ref a2_3, .int v2_4])), (a2_0, .inl (c2_0, 8, .inl f2_0))]) h (va_runV (As := [.int 9, .long 0]) (rest := []) E (c_X0_putLater l dC dI _ (o0 := o0) (v0_0 := v0_0) (v0_1 := v0_1) (v0_2 := v0_2) (o2 := o2) (o5 := o5) (o3 := o3) (a0_6 := a0_6) (a0_7 := a0_7) (v0_8 := z_61) (a0_9 := a0_9) (c0_6 := c0_6) (f0_6 := z_62) (c0_7 := c0_7) (f0_7 := z_63) (p0 := 9) (p1 := 0)  (hQ := hQ) (hw := hw) (hp := (by first | decide | omega))) (cwV 2 E.2.2.2.2 gX0_work_X0_putLater rfl rfl rfl hdV_X0_putLater ⟨Nat.le_of_ble_eq_true rfl, Nat.le_of_ble_eq_true rfl⟩) (kPreV (q0 := 2) (ci := 0) (q := (RX0, TX0, 10)) h KX_true (fun _ _ _ => trivial) [2, 3, 4] [1, 2] (by decide) rfl rfl rfl rfl) rfl rfl hl.1 rfl (lv_room (Nat.le_of_ble_eq_true rfl)) dX0_work_155 ⟨Nat.le_of_ble_eq_true rfl, Nat.le_of_ble_eq_true rfl⟩) [2, 3, 4] [0, 1] rfl rfl (by decide) (by decide) (fun u_65 H locs hw_65 h => ?_)
        obtain ⟨z_66, z_67, z_68⟩ := u_65
        have h : KS (dC, dI) A [(o2, .inr (2, [.ref a2_0, .ref a2_1, .ref a2_2, .ref a2_3, .int v2_4])), (a2_0, .inl (c2_0, 8, .inl f2_0)), (o0, .inr (0, [.int v0_0, .int v0_1, .int v0_2, .ref o2, .ref o5, .ref o3, .ref a0_6, .ref a0_7, .int z_66, .ref a0_9])), (a0_6, .inl (c0_6, 30, .inl z_67)), (a0_7, .inl (c0_7, 30, .inr (.inl z_68)))] [(c2_0, .int), (c0_6, .int), (c0_7, .long)] s H locs := h
        have hw_65 : IP z_67 ∧ (0 ≤ z_66.toInt ∧ z_66.toInt ≤ 30) := by first | exact hw_65 | (simp only [Int32.toInt_toInt64] at hw_65; exact hw_65)
        have hQ := hw_65.1
        have hw := hw_65.2
        refine W.eq (g2 := F0 m 158 ls []) rfl ?_
        have hP9 := h.2.1.sub [2, 0, 1, 3, 4] rfl
        have hD9 := h.2.2.1.sub (ws' := [(o0, .inr (0, [.int v0_0, .int v0_1, .int v0_2, .ref o2, .ref o5, .ref o3, .ref a0_6, .ref a0_7, .int z_66, .ref a0_9])), (o2, .inr (2, [.ref a2_0, .ref a2_1, .ref a2_2, .ref a2_3, .int v2_4])), (a2_0, .inl (c2_0, 8, .inl f2_0)), (a0_6, .inl (c0_6, 30, .inl z_67)), (a0_7, .inl (c0_7, 30, .inr (.inl z_68)))]) [2, 0, 1, 3, 4] (by decide) rfl
        exact W.vret hx hb hr (fun t ht hW => ⟨⟨(z_66, z_67, z_68), rfl, hw_65, (by rw [ht]; exact hP9), hD9⟩, h.2.2.2.1.F ht⟩) h.2.2.2.1.2.2 dX0_work_158 hlocks
      · skip
        have i_59 : (kput f2_0 p1 (p2 - p3)).toInt = 0 := by have z := keq_p c_59; first | exact z | (simp only [Int32.toInt_toInt64] at z; exact z)
        have j_59 := keq64_p c_59
        refine lv_lconst (v := 1) hx hb dX0_work_134 (by decide) ?_
        refine lv_goto (tgt := 139) hx hb dX0_work_135 rfl ?_
        refine kc_v (wc := [(o0, .inr (0, [.int v0_0, .int v0_1, .int v0_2, .ref o2, .ref o5, .ref o3, .ref a0_6, .ref a0_7, .int z_55, .ref a0_9])), (a0_6, .inl (c0_6, 30, .inl z_56)), (a0_7, .inl (c0_7, 30, .inr (.inl z_57)))]) (wr := [(o2, .inr (2, [.ref a2_0, .ref a2_1, .ref a2_2, .ref a2_3, .int v2_4])), (a2_0, .inl (c2_0, 8, .inl f2_0))]) h (va_runV (As := [.int 8, .long 1]) (rest := []) E (c_X0_putLater l dC dI _ (o0 := o0) (v0_0 := v0_0) (v0_1 := v0_1) (v0_2 := v0_2) (o2 := o2) (o5 := o5) (o3 := o3) (a0_6 := a0_6) (a0_7 := a0_7) (v0_8 := z_55) (a0_9 := a0_9) (c0_6 := c0_6) (f0_6 := z_56) (c0_7 := c0_7) (f0_7 := z_57) (p0 := 8) (p1 := 1)  (hQ := hQ) (hw := hw) (hp := (by first | decide | omega))) (cwV 2 E.2.2.2.2 gX0_work_X0_putLater rfl rfl rfl hdV_X0_putLater ⟨Nat.le_of_ble_eq_true rfl, Nat.le_of_ble_eq_true rfl⟩) (kPreV (q0 := 0) (ci := 0) (q := (RX0, TX0, 10)) h KX_true (fun _ _ _ => trivial) [0, 1, 2] [1, 2] (by decide) rfl rfl rfl rfl) rfl rfl hl.1 rfl (lv_room (Nat.le_of_ble_eq_true rfl)) dX0_work_139 ⟨Nat.le_of_ble_eq_true rfl, Nat.le_of_ble_eq_true rfl⟩) [0, 1, 2] [3, 4] rfl rfl (by decide) (by decide) (fun u_69 H locs hw_69 h => ?_)
        obtain ⟨z_70, z_71, z_72⟩ := u_69
        have h : KS (dC, dI) A [(o2, .inr (2, [.ref a2_0, .ref a2_1, .ref a2_2, .ref a2_3, .int v2_4])), (a2_0, .inl (c2_0, 8, .inl f2_0)), (o0, .inr (0, [.int v0_0, .int v0_1, .int v0_2, .ref o2, .ref o5, .ref o3, .ref a0_6, .ref a0_7, .int z_70, .ref a0_9])), (a0_6, .inl (c0_6, 30, .inl z_71)), (a0_7, .inl (c0_7, 30, .inr (.inl z_72)))] [(c2_0, .int), (c0_6, .int), (c0_7, .long)] s H locs := h
        have hw_69 : IP z_71 ∧ (0 ≤ z_70.toInt ∧ z_70.toInt ≤ 30) := by first | exact hw_69 | (simp only [Int32.toInt_toInt64] at hw_69; exact hw_69)
        have hQ := hw_69.1
        have hw := hw_69.2
        refine W.eq (g2 := F0 m 142 ls []) rfl ?_
        refine lv_aload_n hx hb dX0_work_142 rfl (lv_at hl 2 rfl) ?_
        refine lv_bipush (v := 9) hx hb dX0_work_143 kbi_9 ?_
        refine lv_iload hx hb dX0_work_145 (lv_at hl 0 rfl) ?_
        refine lv_if_eq (tgt := 154) hx hb dX0_work_147 rfl (fun _ => ?_) (fun c_73 => absurd (by decide) c_73)
        refine lv_lconst (v := 0) hx hb dX0_work_154 (by decide) ?_
        refine kc_v (wc := [(o0, .inr (0, [.int v0_0, .int v0_1, .int v0_2, .ref o2, .ref o5, .ref o3, .ref a0_6, .ref a0_7, .int z_70, .ref a0_9])), (a0_6, .inl (c0_6, 30, .inl z_71)), (a0_7, .inl (c0_7, 30, .inr (.inl z_72)))]) (wr := [(o2, .inr (2, [.ref a2_0, .ref a2_1, .ref a2_2, .ref a2_3, .int v2_4])), (a2_0, .inl (c2_0, 8, .inl f2_0))]) h (va_runV (As := [.int 9, .long 0]) (rest := []) E (c_X0_putLater l dC dI _ (o0 := o0) (v0_0 := v0_0) (v0_1 := v0_1) (v0_2 := v0_2) (o2 := o2) (o5 := o5) (o3 := o3) (a0_6 := a0_6) (a0_7 := a0_7) (v0_8 := z_70) (a0_9 := a0_9) (c0_6 := c0_6) (f0_6 := z_71) (c0_7 := c0_7) (f0_7 := z_72) (p0 := 9) (p1 := 0)  (hQ := hQ) (hw := hw) (hp := (by first | decide | omega))) (cwV 2 E.2.2.2.2 gX0_work_X0_putLater rfl rfl rfl hdV_X0_putLater ⟨Nat.le_of_ble_eq_true rfl, Nat.le_of_ble_eq_true rfl⟩) (kPreV (q0 := 2) (ci := 0) (q := (RX0, TX0, 10)) h KX_true (fun _ _ _ => trivial) [2, 3, 4] [1, 2] (by decide) rfl rfl rfl rfl) rfl rfl hl.1 rfl (lv_room (Nat.le_of_ble_eq_true rfl)) dX0_work_155 ⟨Nat.le_of_ble_eq_true rfl, Nat.le_of_ble_eq_true rfl⟩) [2, 3, 4] [0, 1] rfl rfl (by decide) (by decide) (fun u_74 H locs hw_74 h => ?_)
        obtain ⟨z_75, z_76, z_77⟩ := u_74
        have h : KS (dC, dI) A [(o2, .inr (2, [.ref a2_0, .ref a2_1, .ref a2_2, .ref a2_3, .int v2_4])), (a2_0, .inl (c2_0, 8, .inl f2_0)), (o0, .inr (0, [.int v0_0, .int v0_1, .int v0_2, .ref o2, .ref o5, .ref o3, .ref a0_6, .ref a0_7, .int z_75, .ref a0_9])), (a0_6, .inl (c0_6, 30, .inl z_76)), (a0_7, .inl (c0_7, 30, .inr (.inl z_77)))] [(c2_0, .int), (c0_6, .int), (c0_7, .long)] s H locs := h
        have hw_74 : IP z_76 ∧ (0 ≤ z_75.toInt ∧ z_75.toInt ≤ 30) := by first | exact hw_74 | (simp only [Int32.toInt_toInt64] at hw_74; exact hw_74)
        have hQ := hw_74.1
        have hw := hw_74.2
        refine W.eq (g2 := F0 m 158 ls []) rfl ?_
        have hP9 := h.2.1.sub [2, 0, 1, 3, 4] rfl
        have hD9 := h.2.2.1.sub (ws' := [(o0, .inr (0, [.int v0_0, .int v0_1, .int v0_2, .ref o2, .ref o5, .ref o3, .ref a0_6, .ref a0_7, .int z_75, .ref a0_9])), (o2, .inr (2, [.ref a2_0, .ref a2_1, .ref a2_2, .ref a2_3, .int v2_4])), (a2_0, .inl (c2_0, 8, .inl f2_0)), (a0_6, .inl (c0_6, 30, .inl z_76)), (a0_7, .inl (c0_7, 30, .inr (.inl z_77)))]) [2, 0, 1, 3, 4] (by decide) rfl
        exact W.vret hx hb hr (fun t ht hW => ⟨⟨(z_75, z_76, z_77), rfl, hw_74, (by rw [ht]; exact hP9), hD9⟩, h.2.2.2.1.F ht⟩) h.2.2.2.1.2.2 dX0_work_158 hlocks
    · skip
      have i_53 : ¬ p3.toInt ≤ p2.toInt := by have z := kle_n c_53; first | exact z | (simp only [Int32.toInt_toInt64] at z; exact z)
      refine lv_iconst (v := 1) hx hb dX0_work_81 kic_1 ?_
      refine lv_goto (tgt := 86) hx hb dX0_work_82 rfl ?_
      refine lv_istore (lv' := [(9, .int 1), (7, .long (p2 - p3)), (0, .ref o0), (1, .int p0), (2, .int p1), (3, .long p2), (5, .long p3)]) hx hb dX0_work_86 hl (Nat.le_of_ble_eq_true rfl) rfl (fun ls hl => ?_)
      refine lv_goto (tgt := 109) hx hb dX0_work_88 rfl ?_
      refine lv_aload_n hx hb dX0_work_109 rfl (lv_at hl 2 rfl) ?_
      refine lv_iload_n hx hb dX0_work_110 rfl (lv_at hl 4 rfl) ?_
      refine lv_lload hx hb dX0_work_111 (lv_at hl 1 rfl) ?_
      refine kc_v (wc := [(o0, .inr (0, [.int v0_0, .int v0_1, .int v0_2, .ref o2, .ref o5, .ref o3, .ref a0_6, .ref a0_7, .int v0_8, .ref a0_9])), (a0_6, .inl (c0_6, 30, .inl f0_6)), (a0_7, .inl (c0_7, 30, .inr (.inl f0_7)))]) (wr := [(o2, .inr (2, [.ref a2_0, .ref a2_1, .ref a2_2, .ref a2_3, .int v2_4])), (a2_0, .inl (c2_0, 8, .inl f2_0))]) h (va_runV (As := [.int p1, .long (p2 - p3)]) (rest := []) E (c_X0_putLater l dC dI _ (o0 := o0) (v0_0 := v0_0) (v0_1 := v0_1) (v0_2 := v0_2) (o2 := o2) (o5 := o5) (o3 := o3) (a0_6 := a0_6) (a0_7 := a0_7) (v0_8 := v0_8) (a0_9 := a0_9) (c0_6 := c0_6) (f0_6 := f0_6) (c0_7 := c0_7) (f0_7 := f0_7) (p0 := p1) (p1 := p2 - p3)  (hQ := hQ) (hw := hw) (hp := (by first | decide | omega))) (cwV 2 E.2.2.2.2 gX0_work_X0_putLater rfl rfl rfl hdV_X0_putLater ⟨Nat.le_of_ble_eq_true rfl, Nat.le_of_ble_eq_true rfl⟩) (kPreV (q0 := 0) (ci := 0) (q := (RX0, TX0, 10)) h KX_true (fun _ _ _ => trivial) [0, 3, 4] [1, 2] (by decide) rfl rfl rfl rfl) rfl rfl hl.1 rfl (lv_room (Nat.le_of_ble_eq_true rfl)) dX0_work_113 ⟨Nat.le_of_ble_eq_true rfl, Nat.le_of_ble_eq_true rfl⟩) [0, 3, 4] [1, 2] rfl rfl (by decide) (by decide) (fun u_78 H locs hw_78 h => ?_)
      obtain ⟨z_79, z_80, z_81⟩ := u_78
      have h : KS (dC, dI) A [(o2, .inr (2, [.ref a2_0, .ref a2_1, .ref a2_2, .ref a2_3, .int v2_4])), (a2_0, .inl (c2_0, 8, .inl f2_0)), (o0, .inr (0, [.int v0_0, .int v0_1, .int v0_2, .ref o2, .ref o5, .ref o3, .ref a0_6, .ref a0_7, .int z_79, .ref a0_9])), (a0_6, .inl (c0_6, 30, .inl z_80)), (a0_7, .inl (c0_7, 30, .inr (.inl z_81)))] [(c2_0, .int), (c0_6, .int), (c0_7, .long)] s H locs := h
      have hw_78 : IP z_80 ∧ (0 ≤ z_79.toInt ∧ z_79.toInt ≤ 30) := by first | exact hw_78 | (simp only [Int32.toInt_toInt64] at hw_78; exact hw_78)
      have hQ := hw_78.1
      have hw := hw_78.2
      refine W.eq (g2 := F0 m 116 ls []) rfl ?_
      refine lv_aload_n hx hb dX0_work_116 rfl (lv_at hl 2 rfl) ?_
      refine lv_bipush (v := 8) hx hb dX0_work_117 kbi_8 ?_
      refine lv_aload_n hx hb dX0_work_119 rfl (lv_at hl 2 rfl) ?_
      refine k_get (v := .ref o2) E h (fun w h => List.mem_cons_of_mem _ (List.mem_append_left _ (List.mem_append_right _ h))) 2 rfl rfl 3 (Nat.le_of_ble_eq_true rfl) (List.mem_of_getElem? (i := 1) rfl) rfl dX0_work_120 ?_
      refine lv_iload_n hx hb dX0_work_123 rfl (lv_at hl 4 rfl) ?_
      refine lv_lload hx hb dX0_work_124 (lv_at hl 1 rfl) ?_
      refine kc_l (wc := [(o2, .inr (2, [.ref a2_0, .ref a2_1, .ref a2_2, .ref a2_3, .int v2_4])), (a2_0, .inl (c2_0, 8, .inl f2_0))]) (wr := [(o0, .inr (0, [.int v0_0, .int v0_1, .int v0_2, .ref o2, .ref o5, .ref o3, .ref a0_6, .ref a0_7, .int z_79, .ref a0_9])), (a0_6, .inl (c0_6, 30, .inl z_80)), (a0_7, .inl (c0_7, 30, .inr (.inl z_81)))]) h (va_runV (As := [.int p1, .long (p2 - p3)]) (rest := [.int 8, .ref o0]) E (c_X2_cutFor l dC dI _ (o2 := o2) (a2_0 := a2_0) (a2_1 := a2_1) (a2_2 := a2_2) (a2_3 := a2_3) (v2_4 := v2_4) (c2_0 := c2_0) (f2_0 := f2_0) (p0 := p1) (p1 := p2 - p3)  (hp := (by first | decide | omega))) (cwV 2 E.2.2.2.2 gX0_work_X2_cutFor rfl rfl rfl hdV_X2_cutFor ⟨Nat.le_of_ble_eq_true rfl, Nat.le_of_ble_eq_true rfl⟩) (kPreV (q0 := 0) (ci := 2) (q := (RX2, TX2, 5)) h KX_true (fun _ _ _ => trivial) [0, 1] [0] (by decide) rfl rfl rfl rfl) rfl rfl hl.1 rfl (lv_room (Nat.le_of_ble_eq_true rfl)) dX0_work_126 ⟨Nat.le_of_ble_eq_true rfl, Nat.le_of_ble_eq_true rfl⟩) [0, 1] [2, 3, 4] rfl rfl (by decide) (by decide) (fun r_82 u_82 H locs hw_82 h => ?_)
      have h : KS (dC, dI) A [(o0, .inr (0, [.int v0_0, .int v0_1, .int v0_2, .ref o2, .ref o5, .ref o3, .ref a0_6, .ref a0_7, .int z_79, .ref a0_9])), (a0_6, .inl (c0_6, 30, .inl z_80)), (a0_7, .inl (c0_7, 30, .inr (.inl z_81))), (o2, .inr (2, [.ref a2_0, .ref a2_1, .ref a2_2, .ref a2_3, .int v2_4])), (a2_0, .inl (c2_0, 8, .inl f2_0))] [(c2_0, .int), (c0_6, .int), (c0_7, .long)] s H locs := h
      have hw_82 : r_82 = kput f2_0 p1 (p2 - p3) := by first | exact hw_82 | (simp only [Int32.toInt_toInt64] at hw_82; exact hw_82)
      refine k_topl (y := kput f2_0 p1 (p2 - p3)) (hw_82) ?_
      refine W.eq (g2 := F0 m 129 ls [.long (kput f2_0 p1 (p2 - p3)), .int 8, .ref o0]) rfl ?_
      refine lv_lconst (v := 0) hx hb dX0_work_129 (by decide) ?_
      refine W.lcmp hx hb dX0_work_130 ?_
      refine lv_if_ne (tgt := 138) hx hb dX0_work_131 rfl (fun c_83 => ?_) (fun c_83 => ?_)
      · skip
        have i_83 : ¬ (kput f2_0 p1 (p2 - p3)).toInt = 0 := by have z := keq_n c_83; first | exact z | (simp only [Int32.toInt_toInt64] at z; exact z)
        have j_83 := keq64_n c_83
        refine lv_lconst (v := 0) hx hb dX0_work_138 (by decide) ?_
        refine kc_v (wc := [(o0, .inr (0, [.int v0_0, .int v0_1, .int v0_2, .ref o2, .ref o5, .ref o3, .ref a0_6, .ref a0_7, .int z_79, .ref a0_9])), (a0_6, .inl (c0_6, 30, .inl z_80)), (a0_7, .inl (c0_7, 30, .inr (.inl z_81)))]) (wr := [(o2, .inr (2, [.ref a2_0, .ref a2_1, .ref a2_2, .ref a2_3, .int v2_4])), (a2_0, .inl (c2_0, 8, .inl f2_0))]) h (va_runV (As := [.int 8, .long 0]) (rest := []) E (c_X0_putLater l dC dI _ (o0 := o0) (v0_0 := v0_0) (v0_1 := v0_1) (v0_2 := v0_2) (o2 := o2) (o5 := o5) (o3 := o3) (a0_6 := a0_6) (a0_7 := a0_7) (v0_8 := z_79) (a0_9 := a0_9) (c0_6 := c0_6) (f0_6 := z_80) (c0_7 := c0_7) (f0_7 := z_81) (p0 := 8) (p1 := 0)  (hQ := hQ) (hw := hw) (hp := (by first | decide | omega))) (cwV 2 E.2.2.2.2 gX0_work_X0_putLater rfl rfl rfl hdV_X0_putLater ⟨Nat.le_of_ble_eq_true rfl, Nat.le_of_ble_eq_true rfl⟩) (kPreV (q0 := 0) (ci := 0) (q := (RX0, TX0, 10)) h KX_true (fun _ _ _ => trivial) [0, 1, 2] [1, 2] (by decide) rfl rfl rfl rfl) rfl rfl hl.1 rfl (lv_room (Nat.le_of_ble_eq_true rfl)) dX0_work_139 ⟨Nat.le_of_ble_eq_true rfl, Nat.le_of_ble_eq_true rfl⟩) [0, 1, 2] [3, 4] rfl rfl (by decide) (by decide) (fun u_84 H locs hw_84 h => ?_)
        obtain ⟨z_85, z_86, z_87⟩ := u_84
        have h : KS (dC, dI) A [(o2, .inr (2, [.ref a2_0, .ref a2_1, .ref a2_2, .ref a2_3, .int v2_4])), (a2_0, .inl (c2_0, 8, .inl f2_0)), (o0, .inr (0, [.int v0_0, .int v0_1, .int v0_2, .ref o2, .ref o5, .ref o3, .ref a0_6, .ref a0_7, .int z_85, .ref a0_9])), (a0_6, .inl (c0_6, 30, .inl z_86)), (a0_7, .inl (c0_7, 30, .inr (.inl z_87)))] [(c2_0, .int), (c0_6, .int), (c0_7, .long)] s H locs := h
        have hw_84 : IP z_86 ∧ (0 ≤ z_85.toInt ∧ z_85.toInt ≤ 30) := by first | exact hw_84 | (simp only [Int32.toInt_toInt64] at hw_84; exact hw_84)
        have hQ := hw_84.1
        have hw := hw_84.2
        refine W.eq (g2 := F0 m 142 ls []) rfl ?_
        refine lv_aload_n hx hb dX0_work_142 rfl (lv_at hl 2 rfl) ?_
        refine lv_bipush (v := 9) hx hb dX0_work_143 kbi_9 ?_
        refine lv_iload hx hb dX0_work_145 (lv_at hl 0 rfl) ?_
        refine lv_if_eq (tgt := 154) hx hb dX0_work_147 rfl (fun c_88 => absurd c_88 (by decide)) (fun _ => ?_)
        refine lv_lconst (v := 1) hx hb dX0_work_150 (by decide) ?_
        refine lv_goto (tgt := 155) hx hb dX0_work_151 rfl ?_
        refine kc_v (wc := [(o0, .inr (0, [.int v0_0, .int v0_1, .int v0_2, .ref o2, .ref o5, .ref o3, .ref a0_6, .ref a0_7, .int z_85, .ref a0_9])), (a0_6, .inl (c0_6, 30, .inl z_86)), (a0_7, .inl (c0_7, 30, .inr (.inl z_87)))]) (wr := [(o2, .inr (2, [.ref a2_0, .ref a2_1, .ref a2_2, .ref a2_3, .int v2_4])), (a2_0, .inl (c2_0, 8, .inl f2_0))]) h (va_runV (As := [.int 9, .long 1]) (rest := []) E (c_X0_putLater l dC dI _ (o0 := o0) (v0_0 := v0_0) (v0_1 := v0_1) (v0_2 := v0_2) (o2 := o2) (o5 := o5) (o3 := o3) (a0_6 := a0_6) (a0_7 := a0_7) (v0_8 := z_85) (a0_9 := a0_9) (c0_6 := c0_6) (f0_6 := z_86) (c0_7 := c0_7) (f0_7 := z_87) (p0 := 9) (p1 := 1)  (hQ := hQ) (hw := hw) (hp := (by first | decide | omega))) (cwV 2 E.2.2.2.2 gX0_work_X0_putLater rfl rfl rfl hdV_X0_putLater ⟨Nat.le_of_ble_eq_true rfl, Nat.le_of_ble_eq_true rfl⟩) (kPreV (q0 := 2) (ci := 0) (q := (RX0, TX0, 10)) h KX_true (fun _ _ _ => trivial) [2, 3, 4] [1, 2] (by decide) rfl rfl rfl rfl) rfl rfl hl.1 rfl (lv_room (Nat.le_of_ble_eq_true rfl)) dX0_work_155 ⟨Nat.le_of_ble_eq_true rfl, Nat.le_of_ble_eq_true rfl⟩) [2, 3, 4] [0, 1] rfl rfl (by decide) (by decide) (fun u_89 H locs hw_89 h => ?_)
        obtain ⟨z_90, z_91, z_92⟩ := u_89
        have h : KS (dC, dI) A [(o2, .inr (2, [.ref a2_0, .ref a2_1, .ref a2_2, .ref a2_3, .int v2_4])), (a2_0, .inl (c2_0, 8, .inl f2_0)), (o0, .inr (0, [.int v0_0, .int v0_1, .int v0_2, .ref o2, .ref o5, .ref o3, .ref a0_6, .ref a0_7, .int z_90, .ref a0_9])), (a0_6, .inl (c0_6, 30, .inl z_91)), (a0_7, .inl (c0_7, 30, .inr (.inl z_92)))] [(c2_0, .int), (c0_6, .int), (c0_7, .long)] s H locs := h
        have hw_89 : IP z_91 ∧ (0 ≤ z_90.toInt ∧ z_90.toInt ≤ 30) := by first | exact hw_89 | (simp only [Int32.toInt_toInt64] at hw_89; exact hw_89)
        have hQ := hw_89.1
        have hw := hw_89.2
        refine W.eq (g2 := F0 m 158 ls []) rfl ?_
        have hP9 := h.2.1.sub [2, 0, 1, 3, 4] rfl
        have hD9 := h.2.2.1.sub (ws' := [(o0, .inr (0, [.int v0_0, .int v0_1, .int v0_2, .ref o2, .ref o5, .ref o3, .ref a0_6, .ref a0_7, .int z_90, .ref a0_9])), (o2, .inr (2, [.ref a2_0, .ref a2_1, .ref a2_2, .ref a2_3, .int v2_4])), (a2_0, .inl (c2_0, 8, .inl f2_0)), (a0_6, .inl (c0_6, 30, .inl z_91)), (a0_7, .inl (c0_7, 30, .inr (.inl z_92)))]) [2, 0, 1, 3, 4] (by decide) rfl
        exact W.vret hx hb hr (fun t ht hW => ⟨⟨(z_90, z_91, z_92), rfl, hw_89, (by rw [ht]; exact hP9), hD9⟩, h.2.2.2.1.F ht⟩) h.2.2.2.1.2.2 dX0_work_158 hlocks
      · skip
        have i_83 : (kput f2_0 p1 (p2 - p3)).toInt = 0 := by have z := keq_p c_83; first | exact z | (simp only [Int32.toInt_toInt64] at z; exact z)
        have j_83 := keq64_p c_83
        refine lv_lconst (v := 1) hx hb dX0_work_134 (by decide) ?_
        refine lv_goto (tgt := 139) hx hb dX0_work_135 rfl ?_
        refine kc_v (wc := [(o0, .inr (0, [.int v0_0, .int v0_1, .int v0_2, .ref o2, .ref o5, .ref o3, .ref a0_6, .ref a0_7, .int z_79, .ref a0_9])), (a0_6, .inl (c0_6, 30, .inl z_80)), (a0_7, .inl (c0_7, 30, .inr (.inl z_81)))]) (wr := [(o2, .inr (2, [.ref a2_0, .ref a2_1, .ref a2_2, .ref a2_3, .int v2_4])), (a2_0, .inl (c2_0, 8, .inl f2_0))]) h (va_runV (As := [.int 8, .long 1]) (rest := []) E (c_X0_putLater l dC dI _ (o0 := o0) (v0_0 := v0_0) (v0_1 := v0_1) (v0_2 := v0_2) (o2 := o2) (o5 := o5) (o3 := o3) (a0_6 := a0_6) (a0_7 := a0_7) (v0_8 := z_79) (a0_9 := a0_9) (c0_6 := c0_6) (f0_6 := z_80) (c0_7 := c0_7) (f0_7 := z_81) (p0 := 8) (p1 := 1)  (hQ := hQ) (hw := hw) (hp := (by first | decide | omega))) (cwV 2 E.2.2.2.2 gX0_work_X0_putLater rfl rfl rfl hdV_X0_putLater ⟨Nat.le_of_ble_eq_true rfl, Nat.le_of_ble_eq_true rfl⟩) (kPreV (q0 := 0) (ci := 0) (q := (RX0, TX0, 10)) h KX_true (fun _ _ _ => trivial) [0, 1, 2] [1, 2] (by decide) rfl rfl rfl rfl) rfl rfl hl.1 rfl (lv_room (Nat.le_of_ble_eq_true rfl)) dX0_work_139 ⟨Nat.le_of_ble_eq_true rfl, Nat.le_of_ble_eq_true rfl⟩) [0, 1, 2] [3, 4] rfl rfl (by decide) (by decide) (fun u_93 H locs hw_93 h => ?_)
        obtain ⟨z_94, z_95, z_96⟩ := u_93
        have h : KS (dC, dI) A [(o2, .inr (2, [.ref a2_0, .ref a2_1, .ref a2_2, .ref a2_3, .int v2_4])), (a2_0, .inl (c2_0, 8, .inl f2_0)), (o0, .inr (0, [.int v0_0, .int v0_1, .int v0_2, .ref o2, .ref o5, .ref o3, .ref a0_6, .ref a0_7, .int z_94, .ref a0_9])), (a0_6, .inl (c0_6, 30, .inl z_95)), (a0_7, .inl (c0_7, 30, .inr (.inl z_96)))] [(c2_0, .int), (c0_6, .int), (c0_7, .long)] s H locs := h
        have hw_93 : IP z_95 ∧ (0 ≤ z_94.toInt ∧ z_94.toInt ≤ 30) := by first | exact hw_93 | (simp only [Int32.toInt_toInt64] at hw_93; exact hw_93)
        have hQ := hw_93.1
        have hw := hw_93.2
        refine W.eq (g2 := F0 m 142 ls []) rfl ?_
        refine lv_aload_n hx hb dX0_work_142 rfl (lv_at hl 2 rfl) ?_
        refine lv_bipush (v := 9) hx hb dX0_work_143 kbi_9 ?_
        refine lv_iload hx hb dX0_work_145 (lv_at hl 0 rfl) ?_
        refine lv_if_eq (tgt := 154) hx hb dX0_work_147 rfl (fun c_97 => absurd c_97 (by decide)) (fun _ => ?_)
        refine lv_lconst (v := 1) hx hb dX0_work_150 (by decide) ?_
        refine lv_goto (tgt := 155) hx hb dX0_work_151 rfl ?_
        refine kc_v (wc := [(o0, .inr (0, [.int v0_0, .int v0_1, .int v0_2, .ref o2, .ref o5, .ref o3, .ref a0_6, .ref a0_7, .int z_94, .ref a0_9])), (a0_6, .inl (c0_6, 30, .inl z_95)), (a0_7, .inl (c0_7, 30, .inr (.inl z_96)))]) (wr := [(o2, .inr (2, [.ref a2_0, .ref a2_1, .ref a2_2, .ref a2_3, .int v2_4])), (a2_0, .inl (c2_0, 8, .inl f2_0))]) h (va_runV (As := [.int 9, .long 1]) (rest := []) E (c_X0_putLater l dC dI _ (o0 := o0) (v0_0 := v0_0) (v0_1 := v0_1) (v0_2 := v0_2) (o2 := o2) (o5 := o5) (o3 := o3) (a0_6 := a0_6) (a0_7 := a0_7) (v0_8 := z_94) (a0_9 := a0_9) (c0_6 := c0_6) (f0_6 := z_95) (c0_7 := c0_7) (f0_7 := z_96) (p0 := 9) (p1 := 1)  (hQ := hQ) (hw := hw) (hp := (by first | decide | omega))) (cwV 2 E.2.2.2.2 gX0_work_X0_putLater rfl rfl rfl hdV_X0_putLater ⟨Nat.le_of_ble_eq_true rfl, Nat.le_of_ble_eq_true rfl⟩) (kPreV (q0 := 2) (ci := 0) (q := (RX0, TX0, 10)) h KX_true (fun _ _ _ => trivial) [2, 3, 4] [1, 2] (by decide) rfl rfl rfl rfl) rfl rfl hl.1 rfl (lv_room (Nat.le_of_ble_eq_true rfl)) dX0_work_155 ⟨Nat.le_of_ble_eq_true rfl, Nat.le_of_ble_eq_true rfl⟩) [2, 3, 4] [0, 1] rfl rfl (by decide) (by decide) (fun u_98 H locs hw_98 h => ?_)
        obtain ⟨z_99, z_100, z_101⟩ := u_98
        have h : KS (dC, dI) A [(o2, .inr (2, [.ref a2_0, .ref a2_1, .ref a2_2, .ref a2_3, .int v2_4])), (a2_0, .inl (c2_0, 8, .inl f2_0)), (o0, .inr (0, [.int v0_0, .int v0_1, .int v0_2, .ref o2, .ref o5, .ref o3, .ref a0_6, .ref a0_7, .int z_99, .ref a0_9])), (a0_6, .inl (c0_6, 30, .inl z_100)), (a0_7, .inl (c0_7, 30, .inr (.inl z_101)))] [(c2_0, .int), (c0_6, .int), (c0_7, .long)] s H locs := h
        have hw_98 : IP z_100 ∧ (0 ≤ z_99.toInt ∧ z_99.toInt ≤ 30) := by first | exact hw_98 | (simp only [Int32.toInt_toInt64] at hw_98; exact hw_98)
        have hQ := hw_98.1
        have hw := hw_98.2
        refine W.eq (g2 := F0 m 158 ls []) rfl ?_
        have hP9 := h.2.1.sub [2, 0, 1, 3, 4] rfl
        have hD9 := h.2.2.1.sub (ws' := [(o0, .inr (0, [.int v0_0, .int v0_1, .int v0_2, .ref o2, .ref o5, .ref o3, .ref a0_6, .ref a0_7, .int z_99, .ref a0_9])), (o2, .inr (2, [.ref a2_0, .ref a2_1, .ref a2_2, .ref a2_3, .int v2_4])), (a2_0, .inl (c2_0, 8, .inl f2_0)), (a0_6, .inl (c0_6, 30, .inl z_100)), (a0_7, .inl (c0_7, 30, .inr (.inl z_101)))]) [2, 0, 1, 3, 4] (by decide) rfl
        exact W.vret hx hb hr (fun t ht hW => ⟨⟨(z_99, z_100, z_101), rfl, hw_98, (by rw [ht]; exact hP9), hD9⟩, h.2.2.2.1.F ht⟩) h.2.2.2.1.2.2 dX0_work_158 hlocks
  have i_52 : ¬ p0.toInt = 3 := fun h9 => s_52 ((fa_eq _ _).mpr h9)
  by_cases s_102 : p0 = 4
  · refine k_topi (y := 4) s_102 ?_
    have i_102 : p0.toInt = 4 := (fa_eq _ _).mp s_102
    refine lv_tableIn (off := 84) (tgt := 91) hx hb dX0_work_7 (by decide) (by decide) rfl (by decide) ?_
    refine lv_lload_n hx hb dX0_work_91 rfl (lv_at hl 5 rfl) ?_
    refine lv_lload hx hb dX0_work_92 (lv_at hl 6 rfl) ?_
    refine lv_land hx hb dX0_work_94 ?_
    refine lv_lstore (lv' := [(7, .long (p2 &&& p3)), (9, .int 0), (0, .ref o0), (1, .int p0), (2, .int p1), (3, .long p2), (5, .long p3)]) hx hb dX0_work_95 hl (by decide) rfl (fun ls hl => ?_)
    refine lv_goto (tgt := 109) hx hb dX0_work_97 rfl ?_
    refine lv_aload_n hx hb dX0_work_109 rfl (lv_at hl 2 rfl) ?_
    refine lv_iload_n hx hb dX0_work_110 rfl (lv_at hl 4 rfl) ?_
    refine lv_lload hx hb dX0_work_111 (lv_at hl 0 rfl) ?_
    refine kc_v (wc := [(o0, .inr (0, [.int v0_0, .int v0_1, .int v0_2, .ref o2, .ref o5, .ref o3, .ref a0_6, .ref a0_7, .int v0_8, .ref a0_9])), (a0_6, .inl (c0_6, 30, .inl f0_6)), (a0_7, .inl (c0_7, 30, .inr (.inl f0_7)))]) (wr := [(o2, .inr (2, [.ref a2_0, .ref a2_1, .ref a2_2, .ref a2_3, .int v2_4])), (a2_0, .inl (c2_0, 8, .inl f2_0))]) h (va_runV (As := [.int p1, .long (p2 &&& p3)]) (rest := []) E (c_X0_putLater l dC dI _ (o0 := o0) (v0_0 := v0_0) (v0_1 := v0_1) (v0_2 := v0_2) (o2 := o2) (o5 := o5) (o3 := o3) (a0_6 := a0_6) (a0_7 := a0_7) (v0_8 := v0_8) (a0_9 := a0_9) (c0_6 := c0_6) (f0_6 := f0_6) (c0_7 := c0_7) (f0_7 := f0_7) (p0 := p1) (p1 := p2 &&& p3)  (hQ := hQ) (hw := hw) (hp := (by first | decide | omega))) (cwV 2 E.2.2.2.2 gX0_work_X0_putLater rfl rfl rfl hdV_X0_putLater ⟨Nat.le_of_ble_eq_true rfl, Nat.le_of_ble_eq_true rfl⟩) (kPreV (q0 := 0) (ci := 0) (q := (RX0, TX0, 10)) h KX_true (fun _ _ _ => trivial) [0, 3, 4] [1, 2] (by decide) rfl rfl rfl rfl) rfl rfl hl.1 rfl (lv_room (Nat.le_of_ble_eq_true rfl)) dX0_work_113 ⟨Nat.le_of_ble_eq_true rfl, Nat.le_of_ble_eq_true rfl⟩) [0, 3, 4] [1, 2] rfl rfl (by decide) (by decide) (fun u_103 H locs hw_103 h => ?_)
    obtain ⟨z_104, z_105, z_106⟩ := u_103
    have h : KS (dC, dI) A [(o2, .inr (2, [.ref a2_0, .ref a2_1, .ref a2_2, .ref a2_3, .int v2_4])), (a2_0, .inl (c2_0, 8, .inl f2_0)), (o0, .inr (0, [.int v0_0, .int v0_1, .int v0_2, .ref o2, .ref o5, .ref o3, .ref a0_6, .ref a0_7, .int z_104, .ref a0_9])), (a0_6, .inl (c0_6, 30, .inl z_105)), (a0_7, .inl (c0_7, 30, .inr (.inl z_106)))] [(c2_0, .int), (c0_6, .int), (c0_7, .long)] s H locs := h
    have hw_103 : IP z_105 ∧ (0 ≤ z_104.toInt ∧ z_104.toInt ≤ 30) := by first | exact hw_103 | (simp only [Int32.toInt_toInt64] at hw_103; exact hw_103)
    have hQ := hw_103.1
    have hw := hw_103.2
    refine W.eq (g2 := F0 m 116 ls []) rfl ?_
    refine lv_aload_n hx hb dX0_work_116 rfl (lv_at hl 2 rfl) ?_
    refine lv_bipush (v := 8) hx hb dX0_work_117 kbi_8 ?_
    refine lv_aload_n hx hb dX0_work_119 rfl (lv_at hl 2 rfl) ?_
    refine k_get (v := .ref o2) E h (fun w h => List.mem_cons_of_mem _ (List.mem_append_left _ (List.mem_append_right _ h))) 2 rfl rfl 3 (Nat.le_of_ble_eq_true rfl) (List.mem_of_getElem? (i := 1) rfl) rfl dX0_work_120 ?_
    refine lv_iload_n hx hb dX0_work_123 rfl (lv_at hl 4 rfl) ?_
    refine lv_lload hx hb dX0_work_124 (lv_at hl 0 rfl) ?_
    refine kc_l (wc := [(o2, .inr (2, [.ref a2_0, .ref a2_1, .ref a2_2, .ref a2_3, .int v2_4])), (a2_0, .inl (c2_0, 8, .inl f2_0))]) (wr := [(o0, .inr (0, [.int v0_0, .int v0_1, .int v0_2, .ref o2, .ref o5, .ref o3, .ref a0_6, .ref a0_7, .int z_104, .ref a0_9])), (a0_6, .inl (c0_6, 30, .inl z_105)), (a0_7, .inl (c0_7, 30, .inr (.inl z_106)))]) h (va_runV (As := [.int p1, .long (p2 &&& p3)]) (rest := [.int 8, .ref o0]) E (c_X2_cutFor l dC dI _ (o2 := o2) (a2_0 := a2_0) (a2_1 := a2_1) (a2_2 := a2_2) (a2_3 := a2_3) (v2_4 := v2_4) (c2_0 := c2_0) (f2_0 := f2_0) (p0 := p1) (p1 := p2 &&& p3)  (hp := (by first | decide | omega))) (cwV 2 E.2.2.2.2 gX0_work_X2_cutFor rfl rfl rfl hdV_X2_cutFor ⟨Nat.le_of_ble_eq_true rfl, Nat.le_of_ble_eq_true rfl⟩) (kPreV (q0 := 0) (ci := 2) (q := (RX2, TX2, 5)) h KX_true (fun _ _ _ => trivial) [0, 1] [0] (by decide) rfl rfl rfl rfl) rfl rfl hl.1 rfl (lv_room (Nat.le_of_ble_eq_true rfl)) dX0_work_126 ⟨Nat.le_of_ble_eq_true rfl, Nat.le_of_ble_eq_true rfl⟩) [0, 1] [2, 3, 4] rfl rfl (by decide) (by decide) (fun r_107 u_107 H locs hw_107 h => ?_)
    have h : KS (dC, dI) A [(o0, .inr (0, [.int v0_0, .int v0_1, .int v0_2, .ref o2, .ref o5, .ref o3, .ref a0_6, .ref a0_7, .int z_104, .ref a0_9])), (a0_6, .inl (c0_6, 30, .inl z_105)), (a0_7, .inl (c0_7, 30, .inr (.inl z_106))), (o2, .inr (2, [.ref a2_0, .ref a2_1, .ref a2_2, .ref a2_3, .int v2_4])), (a2_0, .inl (c2_0, 8, .inl f2_0))] [(c2_0, .int), (c0_6, .int), (c0_7, .long)] s H locs := h
    have hw_107 : r_107 = kput f2_0 p1 (p2 &&& p3) := by first | exact hw_107 | (simp only [Int32.toInt_toInt64] at hw_107; exact hw_107)
    refine k_topl (y := kput f2_0 p1 (p2 &&& p3)) (hw_107) ?_
    refine W.eq (g2 := F0 m 129 ls [.long (kput f2_0 p1 (p2 &&& p3)), .int 8, .ref o0]) rfl ?_
    refine lv_lconst (v := 0) hx hb dX0_work_129 (by decide) ?_
    refine W.lcmp hx hb dX0_work_130 ?_
    refine lv_if_ne (tgt := 138) hx hb dX0_work_131 rfl (fun c_108 => ?_) (fun c_108 => ?_)
    · skip
      have i_108 : ¬ (kput f2_0 p1 (p2 &&& p3)).toInt = 0 := by have z := keq_n c_108; first | exact z | (simp only [Int32.toInt_toInt64] at z; exact z)
      have j_108 := keq64_n c_108
      refine lv_lconst (v := 0) hx hb dX0_work_138 (by decide) ?_
      refine kc_v (wc := [(o0, .inr (0, [.int v0_0, .int v0_1, .int v0_2, .ref o2, .ref o5, .ref o3, .ref a0_6, .ref a0_7, .int z_104, .ref a0_9])), (a0_6, .inl (c0_6, 30, .inl z_105)), (a0_7, .inl (c0_7, 30, .inr (.inl z_106)))]) (wr := [(o2, .inr (2, [.ref a2_0, .ref a2_1, .ref a2_2, .ref a2_3, .int v2_4])), (a2_0, .inl (c2_0, 8, .inl f2_0))]) h (va_runV (As := [.int 8, .long 0]) (rest := []) E (c_X0_putLater l dC dI _ (o0 := o0) (v0_0 := v0_0) (v0_1 := v0_1) (v0_2 := v0_2) (o2 := o2) (o5 := o5) (o3 := o3) (a0_6 := a0_6) (a0_7 := a0_7) (v0_8 := z_104) (a0_9 := a0_9) (c0_6 := c0_6) (f0_6 := z_105) (c0_7 := c0_7) (f0_7 := z_106) (p0 := 8) (p1 := 0)  (hQ := hQ) (hw := hw) (hp := (by first | decide | omega))) (cwV 2 E.2.2.2.2 gX0_work_X0_putLater rfl rfl rfl hdV_X0_putLater ⟨Nat.le_of_ble_eq_true rfl, Nat.le_of_ble_eq_true rfl⟩) (kPreV (q0 := 0) (ci := 0) (q := (RX0, TX0, 10)) h KX_true (fun _ _ _ => trivial) [0, 1, 2] [1, 2] (by decide) rfl rfl rfl rfl) rfl rfl hl.1 rfl (lv_room (Nat.le_of_ble_eq_true rfl)) dX0_work_139 ⟨Nat.le_of_ble_eq_true rfl, Nat.le_of_ble_eq_true rfl⟩) [0, 1, 2] [3, 4] rfl rfl (by decide) (by decide) (fun u_109 H locs hw_109 h => ?_)
      obtain ⟨z_110, z_111, z_112⟩ := u_109
      have h : KS (dC, dI) A [(o2, .inr (2, [.ref a2_0, .ref a2_1, .ref a2_2, .ref a2_3, .int v2_4])), (a2_0, .inl (c2_0, 8, .inl f2_0)), (o0, .inr (0, [.int v0_0, .int v0_1, .int v0_2, .ref o2, .ref o5, .ref o3, .ref a0_6, .ref a0_7, .int z_110, .ref a0_9])), (a0_6, .inl (c0_6, 30, .inl z_111)), (a0_7, .inl (c0_7, 30, .inr (.inl z_112)))] [(c2_0, .int), (c0_6, .int), (c0_7, .long)] s H locs := h
      have hw_109 : IP z_111 ∧ (0 ≤ z_110.toInt ∧ z_110.toInt ≤ 30) := by first | exact hw_109 | (simp only [Int32.toInt_toInt64] at hw_109; exact hw_109)
      have hQ := hw_109.1
      have hw := hw_109.2
      refine W.eq (g2 := F0 m 142 ls []) rfl ?_
      refine lv_aload_n hx hb dX0_work_142 rfl (lv_at hl 2 rfl) ?_
      refine lv_bipush (v := 9) hx hb dX0_work_143 kbi_9 ?_
      refine lv_iload hx hb dX0_work_145 (lv_at hl 1 rfl) ?_
      refine lv_if_eq (tgt := 154) hx hb dX0_work_147 rfl (fun _ => ?_) (fun c_113 => absurd (by decide) c_113)
      refine lv_lconst (v := 0) hx hb dX0_work_154 (by decide) ?_
      refine kc_v (wc := [(o0, .inr (0, [.int v0_0, .int v0_1, .int v0_2, .ref o2, .ref o5, .ref o3, .ref a0_6, .ref a0_7, .int z_110, .ref a0_9])), (a0_6, .inl (c0_6, 30, .inl z_111)), (a0_7, .inl (c0_7, 30, .inr (.inl z_112)))]) (wr := [(o2, .inr (2, [.ref a2_0, .ref a2_1, .ref a2_2, .ref a2_3, .int v2_4])), (a2_0, .inl (c2_0, 8, .inl f2_0))]) h (va_runV (As := [.int 9, .long 0]) (rest := []) E (c_X0_putLater l dC dI _ (o0 := o0) (v0_0 := v0_0) (v0_1 := v0_1) (v0_2 := v0_2) (o2 := o2) (o5 := o5) (o3 := o3) (a0_6 := a0_6) (a0_7 := a0_7) (v0_8 := z_110) (a0_9 := a0_9) (c0_6 := c0_6) (f0_6 := z_111) (c0_7 := c0_7) (f0_7 := z_112) (p0 := 9) (p1 := 0)  (hQ := hQ) (hw := hw) (hp := (by first | decide | omega))) (cwV 2 E.2.2.2.2 gX0_work_X0_putLater rfl rfl rfl hdV_X0_putLater ⟨Nat.le_of_ble_eq_true rfl, Nat.le_of_ble_eq_true rfl⟩) (kPreV (q0 := 2) (ci := 0) (q := (RX0, TX0, 10)) h KX_true (fun _ _ _ => trivial) [2, 3, 4] [1, 2] (by decide) rfl rfl rfl rfl) rfl rfl hl.1 rfl (lv_room (Nat.le_of_ble_eq_true rfl)) dX0_work_155 ⟨Nat.le_of_ble_eq_true rfl, Nat.le_of_ble_eq_true rfl⟩) [2, 3, 4] [0, 1] rfl rfl (by decide) (by decide) (fun u_114 H locs hw_114 h => ?_)
      obtain ⟨z_115, z_116, z_117⟩ := u_114
      have h : KS (dC, dI) A [(o2, .inr (2, [.ref a2_0, .ref a2_1, .ref a2_2, .ref a2_3, .int v2_4])), (a2_0, .inl (c2_0, 8, .inl f2_0)), (o0, .inr (0, [.int v0_0, .int v0_1, .int v0_2, .ref o2, .ref o5, .ref o3, .ref a0_6, .ref a0_7, .int z_115, .ref a0_9])), (a0_6, .inl (c0_6, 30, .inl z_116)), (a0_7, .inl (c0_7, 30, .inr (.inl z_117)))] [(c2_0, .int), (c0_6, .int), (c0_7, .long)] s H locs := h
      have hw_114 : IP z_116 ∧ (0 ≤ z_115.toInt ∧ z_115.toInt ≤ 30) := by first | exact hw_114 | (simp only [Int32.toInt_toInt64] at hw_114; exact hw_114)
      have hQ := hw_114.1
      have hw := hw_114.2
      refine W.eq (g2 := F0 m 158 ls []) rfl ?_
      have hP9 := h.2.1.sub [2, 0, 1, 3, 4] rfl
      have hD9 := h.2.2.1.sub (ws' := [(o0, .inr (0, [.int v0_0, .int v0_1, .int v0_2, .ref o2, .ref o5, .ref o3, .ref a0_6, .ref a0_7, .int z_115, .ref a0_9])), (o2, .inr (2, [.ref a2_0, .ref a2_1, .ref a2_2, .ref a2_3, .int v2_4])), (a2_0, .inl (c2_0, 8, .inl f2_0)), (a0_6, .inl (c0_6, 30, .inl z_116)), (a0_7, .inl (c0_7, 30, .inr (.inl z_117)))]) [2, 0, 1, 3, 4] (by decide) rfl
      exact W.vret hx hb hr (fun t ht hW => ⟨⟨(z_115, z_116, z_117), rfl, hw_114, (by rw [ht]; exact hP9), hD9⟩, h.2.2.2.1.F ht⟩) h.2.2.2.1.2.2 dX0_work_158 hlocks
    · skip
      have i_108 : (kput f2_0 p1 (p2 &&& p3)).toInt = 0 := by have z := keq_p c_108; first | exact z | (simp only [Int32.toInt_toInt64] at z; exact z)
      have j_108 := keq64_p c_108
      refine lv_lconst (v := 1) hx hb dX0_work_134 (by decide) ?_
      refine lv_goto (tgt := 139) hx hb dX0_work_135 rfl ?_
      refine kc_v (wc := [(o0, .inr (0, [.int v0_0, .int v0_1, .int v0_2, .ref o2, .ref o5, .ref o3, .ref a0_6, .ref a0_7, .int z_104, .ref a0_9])), (a0_6, .inl (c0_6, 30, .inl z_105)), (a0_7, .inl (c0_7, 30, .inr (.inl z_106)))]) (wr := [(o2, .inr (2, [.ref a2_0, .ref a2_1, .ref a2_2, .ref a2_3, .int v2_4])), (a2_0, .inl (c2_0, 8, .inl f2_0))]) h (va_runV (As := [.int 8, .long 1]) (rest := []) E (c_X0_putLater l dC dI _ (o0 := o0) (v0_0 := v0_0) (v0_1 := v0_1) (v0_2 := v0_2) (o2 := o2) (o5 := o5) (o3 := o3) (a0_6 := a0_6) (a0_7 := a0_7) (v0_8 := z_104) (a0_9 := a0_9) (c0_6 := c0_6) (f0_6 := z_105) (c0_7 := c0_7) (f0_7 := z_106) (p0 := 8) (p1 := 1)  (hQ := hQ) (hw := hw) (hp := (by first | decide | omega))) (cwV 2 E.2.2.2.2 gX0_work_X0_putLater rfl rfl rfl hdV_X0_putLater ⟨Nat.le_of_ble_eq_true rfl, Nat.le_of_ble_eq_true rfl⟩) (kPreV (q0 := 0) (ci := 0) (q := (RX0, TX0, 10)) h KX_true (fun _ _ _ => trivial) [0, 1, 2] [1, 2] (by decide) rfl rfl rfl rfl) rfl rfl hl.1 rfl (lv_room (Nat.le_of_ble_eq_true rfl)) dX0_work_139 ⟨Nat.le_of_ble_eq_true rfl, Nat.le_of_ble_eq_true rfl⟩) [0, 1, 2] [3, 4] rfl rfl (by decide) (by decide) (fun u_118 H locs hw_118 h => ?_)
      obtain ⟨z_119, z_120, z_121⟩ := u_118
      have h : KS (dC, dI) A [(o2, .inr (2, [.ref a2_0, .ref a2_1, .ref a2_2, .ref a2_3, .int v2_4])), (a2_0, .inl (c2_0, 8, .inl f2_0)), (o0, .inr (0, [.int v0_0, .int v0_1, .int v0_2, .ref o2, .ref o5, .ref o3, .ref a0_6, .ref a0_7, .int z_119, .ref a0_9])), (a0_6, .inl (c0_6, 30, .inl z_120)), (a0_7, .inl (c0_7, 30, .inr (.inl z_121)))] [(c2_0, .int), (c0_6, .int), (c0_7, .long)] s H locs := h
      have hw_118 : IP z_120 ∧ (0 ≤ z_119.toInt ∧ z_119.toInt ≤ 30) := by first | exact hw_118 | (simp only [Int32.toInt_toInt64] at hw_118; exact hw_118)
      have hQ := hw_118.1
      have hw := hw_118.2
      refine W.eq (g2 := F0 m 142 ls []) rfl ?_
      refine lv_aload_n hx hb dX0_work_142 rfl (lv_at hl 2 rfl) ?_
      refine lv_bipush (v := 9) hx hb dX0_work_143 kbi_9 ?_
      refine lv_iload hx hb dX0_work_145 (lv_at hl 1 rfl) ?_
      refine lv_if_eq (tgt := 154) hx hb dX0_work_147 rfl (fun _ => ?_) (fun c_122 => absurd (by decide) c_122)
      refine lv_lconst (v := 0) hx hb dX0_work_154 (by decide) ?_
      refine kc_v (wc := [(o0, .inr (0, [.int v0_0, .int v0_1, .int v0_2, .ref o2, .ref o5, .ref o3, .ref a0_6, .ref a0_7, .int z_119, .ref a0_9])), (a0_6, .inl (c0_6, 30, .inl z_120)), (a0_7, .inl (c0_7, 30, .inr (.inl z_121)))]) (wr := [(o2, .inr (2, [.ref a2_0, .ref a2_1, .ref a2_2, .ref a2_3, .int v2_4])), (a2_0, .inl (c2_0, 8, .inl f2_0))]) h (va_runV (As := [.int 9, .long 0]) (rest := []) E (c_X0_putLater l dC dI _ (o0 := o0) (v0_0 := v0_0) (v0_1 := v0_1) (v0_2 := v0_2) (o2 := o2) (o5 := o5) (o3 := o3) (a0_6 := a0_6) (a0_7 := a0_7) (v0_8 := z_119) (a0_9 := a0_9) (c0_6 := c0_6) (f0_6 := z_120) (c0_7 := c0_7) (f0_7 := z_121) (p0 := 9) (p1 := 0)  (hQ := hQ) (hw := hw) (hp := (by first | decide | omega))) (cwV 2 E.2.2.2.2 gX0_work_X0_putLater rfl rfl rfl hdV_X0_putLater ⟨Nat.le_of_ble_eq_true rfl, Nat.le_of_ble_eq_true rfl⟩) (kPreV (q0 := 2) (ci := 0) (q := (RX0, TX0, 10)) h KX_true (fun _ _ _ => trivial) [2, 3, 4] [1, 2] (by decide) rfl rfl rfl rfl) rfl rfl hl.1 rfl (lv_room (Nat.le_of_ble_eq_true rfl)) dX0_work_155 ⟨Nat.le_of_ble_eq_true rfl, Nat.le_of_ble_eq_true rfl⟩) [2, 3, 4] [0, 1] rfl rfl (by decide) (by decide) (fun u_123 H locs hw_123 h => ?_)
      obtain ⟨z_124, z_125, z_126⟩ := u_123
      have h : KS (dC, dI) A [(o2, .inr (2, [.ref a2_0, .ref a2_1, .ref a2_2, .ref a2_3, .int v2_4])), (a2_0, .inl (c2_0, 8, .inl f2_0)), (o0, .inr (0, [.int v0_0, .int v0_1, .int v0_2, .ref o2, .ref o5, .ref o3, .ref a0_6, .ref a0_7, .int z_124, .ref a0_9])), (a0_6, .inl (c0_6, 30, .inl z_125)), (a0_7, .inl (c0_7, 30, .inr (.inl z_126)))] [(c2_0, .int), (c0_6, .int), (c0_7, .long)] s H locs := h
      have hw_123 : IP z_125 ∧ (0 ≤ z_124.toInt ∧ z_124.toInt ≤ 30) := by first | exact hw_123 | (simp only [Int32.toInt_toInt64] at hw_123; exact hw_123)
      have hQ := hw_123.1
      have hw := hw_123.2
      refine W.eq (g2 := F0 m 158 ls []) rfl ?_
      have hP9 := h.2.1.sub [2, 0, 1, 3, 4] rfl
      have hD9 := h.2.2.1.sub (ws' := [(o0, .inr (0, [.int v0_0, .int v0_1, .int v0_2, .ref o2, .ref o5, .ref o3, .ref a0_6, .ref a0_7, .int z_124, .ref a0_9])), (o2, .inr (2, [.ref a2_0, .ref a2_1, .ref a2_2, .ref a2_3, .int v2_4])), (a2_0, .inl (c2_0, 8, .inl f2_0)), (a0_6, .inl (c0_6, 30, .inl z_125)), (a0_7, .inl (c0_7, 30, .inr (.inl z_126)))]) [2, 0, 1, 3, 4] (by decide) rfl
      exact W.vret hx hb hr (fun t ht hW => ⟨⟨(z_124, z_125, z_126), rfl, hw_123, (by rw [ht]; exact hP9), hD9⟩, h.2.2.2.1.F ht⟩) h.2.2.2.1.2.2 dX0_work_158 hlocks
  have i_102 : ¬ p0.toInt = 4 := fun h9 => s_102 ((fa_eq _ _).mpr h9)
  by_cases s_127 : p0 = 5
  · refine k_topi (y := 5) s_127 ?_
    have i_127 : p0.toInt = 5 := (fa_eq _ _).mp s_127
    refine lv_tableIn (off := 93) (tgt := 100) hx hb dX0_work_7 (by decide) (by decide) rfl (by decide) ?_
    refine lv_lload_n hx hb dX0_work_100 rfl (lv_at hl 5 rfl) ?_
    refine lv_lload hx hb dX0_work_101 (lv_at hl 6 rfl) ?_
    refine lv_lxor hx hb dX0_work_103 ?_
    refine lv_lstore (lv' := [(7, .long (p2 ^^^ p3)), (9, .int 0), (0, .ref o0), (1, .int p0), (2, .int p1), (3, .long p2), (5, .long p3)]) hx hb dX0_work_104 hl (by decide) rfl (fun ls hl => ?_)
    refine lv_goto (tgt := 109) hx hb dX0_work_106 rfl ?_
    refine lv_aload_n hx hb dX0_work_109 rfl (lv_at hl 2 rfl) ?_
    refine lv_iload_n hx hb dX0_work_110 rfl (lv_at hl 4 rfl) ?_
    refine lv_lload hx hb dX0_work_111 (lv_at hl 0 rfl) ?_
    refine kc_v (wc := [(o0, .inr (0, [.int v0_0, .int v0_1, .int v0_2, .ref o2, .ref o5, .ref o3, .ref a0_6, .ref a0_7, .int v0_8, .ref a0_9])), (a0_6, .inl (c0_6, 30, .inl f0_6)), (a0_7, .inl (c0_7, 30, .inr (.inl f0_7)))]) (wr := [(o2, .inr (2, [.ref a2_0, .ref a2_1, .ref a2_2, .ref a2_3, .int v2_4])), (a2_0, .inl (c2_0, 8, .inl f2_0))]) h (va_runV (As := [.int p1, .long (p2 ^^^ p3)]) (rest := []) E (c_X0_putLater l dC dI _ (o0 := o0) (v0_0 := v0_0) (v0_1 := v0_1) (v0_2 := v0_2) (o2 := o2) (o5 := o5) (o3 := o3) (a0_6 := a0_6) (a0_7 := a0_7) (v0_8 := v0_8) (a0_9 := a0_9) (c0_6 := c0_6) (f0_6 := f0_6) (c0_7 := c0_7) (f0_7 := f0_7) (p0 := p1) (p1 := p2 ^^^ p3)  (hQ := hQ) (hw := hw) (hp := (by first | decide | omega))) (cwV 2 E.2.2.2.2 gX0_work_X0_putLater rfl rfl rfl hdV_X0_putLater ⟨Nat.le_of_ble_eq_true rfl, Nat.le_of_ble_eq_true rfl⟩) (kPreV (q0 := 0) (ci := 0) (q := (RX0, TX0, 10)) h KX_true (fun _ _ _ => trivial) [0, 3, 4] [1, 2] (by decide) rfl rfl rfl rfl) rfl rfl hl.1 rfl (lv_room (Nat.le_of_ble_eq_true rfl)) dX0_work_113 ⟨Nat.le_of_ble_eq_true rfl, Nat.le_of_ble_eq_true rfl⟩) [0, 3, 4] [1, 2] rfl rfl (by decide) (by decide) (fun u_128 H locs hw_128 h => ?_)
    obtain ⟨z_129, z_130, z_131⟩ := u_128
    have h : KS (dC, dI) A [(o2, .inr (2, [.ref a2_0, .ref a2_1, .ref a2_2, .ref a2_3, .int v2_4])), (a2_0, .inl (c2_0, 8, .inl f2_0)), (o0, .inr (0, [.int v0_0, .int v0_1, .int v0_2, .ref o2, .ref o5, .ref o3, .ref a0_6, .ref a0_7, .int z_129, .ref a0_9])), (a0_6, .inl (c0_6, 30, .inl z_130)), (a0_7, .inl (c0_7, 30, .inr (.inl z_131)))] [(c2_0, .int), (c0_6, .int), (c0_7, .long)] s H locs := h
    have hw_128 : IP z_130 ∧ (0 ≤ z_129.toInt ∧ z_129.toInt ≤ 30) := by first | exact hw_128 | (simp only [Int32.toInt_toInt64] at hw_128; exact hw_128)
    have hQ := hw_128.1
    have hw := hw_128.2
    refine W.eq (g2 := F0 m 116 ls []) rfl ?_
    refine lv_aload_n hx hb dX0_work_116 rfl (lv_at hl 2 rfl) ?_
    refine lv_bipush (v := 8) hx hb dX0_work_117 kbi_8 ?_
    refine lv_aload_n hx hb dX0_work_119 rfl (lv_at hl 2 rfl) ?_
    refine k_get (v := .ref o2) E h (fun w h => List.mem_cons_of_mem _ (List.mem_append_left _ (List.mem_append_right _ h))) 2 rfl rfl 3 (Nat.le_of_ble_eq_true rfl) (List.mem_of_getElem? (i := 1) rfl) rfl dX0_work_120 ?_
    refine lv_iload_n hx hb dX0_work_123 rfl (lv_at hl 4 rfl) ?_
    refine lv_lload hx hb dX0_work_124 (lv_at hl 0 rfl) ?_
    refine kc_l (wc := [(o2, .inr (2, [.ref a2_0, .ref a2_1, .ref a2_2, .ref a2_3, .int v2_4])), (a2_0, .inl (c2_0, 8, .inl f2_0))]) (wr := [(o0, .inr (0, [.int v0_0, .int v0_1, .int v0_2, .ref o2, .ref o5, .ref o3, .ref a0_6, .ref a0_7, .int z_129, .ref a0_9])), (a0_6, .inl (c0_6, 30, .inl z_130)), (a0_7, .inl (c0_7, 30, .inr (.inl z_131)))]) h (va_runV (As := [.int p1, .long (p2 ^^^ p3)]) (rest := [.int 8, .ref o0]) E (c_X2_cutFor l dC dI _ (o2 := o2) (a2_0 := a2_0) (a2_1 := a2_1) (a2_2 := a2_2) (a2_3 := a2_3) (v2_4 := v2_4) (c2_0 := c2_0) (f2_0 := f2_0) (p0 := p1) (p1 := p2 ^^^ p3)  (hp := (by first | decide | omega))) (cwV 2 E.2.2.2.2 gX0_work_X2_cutFor rfl rfl rfl hdV_X2_cutFor ⟨Nat.le_of_ble_eq_true rfl, Nat.le_of_ble_eq_true rfl⟩) (kPreV (q0 := 0) (ci := 2) (q := (RX2, TX2, 5)) h KX_true (fun _ _ _ => trivial) [0, 1] [0] (by decide) rfl rfl rfl rfl) rfl rfl hl.1 rfl (lv_room (Nat.le_of_ble_eq_true rfl)) dX0_work_126 ⟨Nat.le_of_ble_eq_true rfl, Nat.le_of_ble_eq_true rfl⟩) [0, 1] [2, 3, 4] rfl rfl (by decide) (by decide) (fun r_132 u_132 H locs hw_132 h => ?_)
    have h : KS (dC, dI) A [(o0, .inr (0, [.int v0_0, .int v0_1, .int v0_2, .ref o2, .ref o5, .ref o3, .ref a0_6, .ref a0_7, .int z_129, .ref a0_9])), (a0_6, .inl (c0_6, 30, .inl z_130)), (a0_7, .inl (c0_7, 30, .inr (.inl z_131))), (o2, .inr (2, [.ref a2_0, .ref a2_1, .ref a2_2, .ref a2_3, .int v2_4])), (a2_0, .inl (c2_0, 8, .inl f2_0))] [(c2_0, .int), (c0_6, .int), (c0_7, .long)] s H locs := h
    have hw_132 : r_132 = kput f2_0 p1 (p2 ^^^ p3) := by first | exact hw_132 | (simp only [Int32.toInt_toInt64] at hw_132; exact hw_132)
    refine k_topl (y := kput f2_0 p1 (p2 ^^^ p3)) (hw_132) ?_
    refine W.eq (g2 := F0 m 129 ls [.long (kput f2_0 p1 (p2 ^^^ p3)), .int 8, .ref o0]) rfl ?_
    refine lv_lconst (v := 0) hx hb dX0_work_129 (by decide) ?_
    refine W.lcmp hx hb dX0_work_130 ?_
    refine lv_if_ne (tgt := 138) hx hb dX0_work_131 rfl (fun c_133 => ?_) (fun c_133 => ?_)
    · skip
      have i_133 : ¬ (kput f2_0 p1 (p2 ^^^ p3)).toInt = 0 := by have z := keq_n c_133; first | exact z | (simp only [Int32.toInt_toInt64] at z; exact z)
      have j_133 := keq64_n c_133
      refine lv_lconst (v := 0) hx hb dX0_work_138 (by decide) ?_
      refine kc_v (wc := [(o0, .inr (0, [.int v0_0, .int v0_1, .int v0_2, .ref o2, .ref o5, .ref o3, .ref a0_6, .ref a0_7, .int z_129, .ref a0_9])), (a0_6, .inl (c0_6, 30, .inl z_130)), (a0_7, .inl (c0_7, 30, .inr (.inl z_131)))]) (wr := [(o2, .inr (2, [.ref a2_0, .ref a2_1, .ref a2_2, .ref a2_3, .int v2_4])), (a2_0, .inl (c2_0, 8, .inl f2_0))]) h (va_runV (As := [.int 8, .long 0]) (rest := []) E (c_X0_putLater l dC dI _ (o0 := o0) (v0_0 := v0_0) (v0_1 := v0_1) (v0_2 := v0_2) (o2 := o2) (o5 := o5) (o3 := o3) (a0_6 := a0_6) (a0_7 := a0_7) (v0_8 := z_129) (a0_9 := a0_9) (c0_6 := c0_6) (f0_6 := z_130) (c0_7 := c0_7) (f0_7 := z_131) (p0 := 8) (p1 := 0)  (hQ := hQ) (hw := hw) (hp := (by first | decide | omega))) (cwV 2 E.2.2.2.2 gX0_work_X0_putLater rfl rfl rfl hdV_X0_putLater ⟨Nat.le_of_ble_eq_true rfl, Nat.le_of_ble_eq_true rfl⟩) (kPreV (q0 := 0) (ci := 0) (q := (RX0, TX0, 10)) h KX_true (fun _ _ _ => trivial) [0, 1, 2] [1, 2] (by decide) rfl rfl rfl rfl) rfl rfl hl.1 rfl (lv_room (Nat.le_of_ble_eq_true rfl)) dX0_work_139 ⟨Nat.le_of_ble_eq_true rfl, Nat.le_of_ble_eq_true rfl⟩) [0, 1, 2] [3, 4] rfl rfl (by decide) (by decide) (fun u_134 H locs hw_134 h => ?_)
      obtain ⟨z_135, z_136, z_137⟩ := u_134
      have h : KS (dC, dI) A [(o2, .inr (2, [.ref a2_0, .ref a2_1, .ref a2_2, .ref a2_3, .int v2_4])), (a2_0, .inl (c2_0, 8, .inl f2_0)), (o0, .inr (0, [.int v0_0, .int v0_1, .int v0_2, .ref o2, .ref o5, .ref o3, .ref a0_6, .ref a0_7, .int z_135, .ref a0_9])), (a0_6, .inl (c0_6, 30, .inl z_136)), (a0_7, .inl (c0_7, 30, .inr (.inl z_137)))] [(c2_0, .int), (c0_6, .int), (c0_7, .long)] s H locs := h
      have hw_134 : IP z_136 ∧ (0 ≤ z_135.toInt ∧ z_135.toInt ≤ 30) := by first | exact hw_134 | (simp only [Int32.toInt_toInt64] at hw_134; exact hw_134)
      have hQ := hw_134.1
      have hw := hw_134.2
      refine W.eq (g2 := F0 m 142 ls []) rfl ?_
      refine lv_aload_n hx hb dX0_work_142 rfl (lv_at hl 2 rfl) ?_
      refine lv_bipush (v := 9) hx hb dX0_work_143 kbi_9 ?_
      refine lv_iload hx hb dX0_work_145 (lv_at hl 1 rfl) ?_
      refine lv_if_eq (tgt := 154) hx hb dX0_work_147 rfl (fun _ => ?_) (fun c_138 => absurd (by decide) c_138)
      refine lv_lconst (v := 0) hx hb dX0_work_154 (by decide) ?_
      refine kc_v (wc := [(o0, .inr (0, [.int v0_0, .int v0_1, .int v0_2, .ref o2, .ref o5, .ref o3, .ref a0_6, .ref a0_7, .int z_135, .ref a0_9])), (a0_6, .inl (c0_6, 30, .inl z_136)), (a0_7, .inl (c0_7, 30, .inr (.inl z_137)))]) (wr := [(o2, .inr (2, [.ref a2_0, .ref a2_1, .ref a2_2, .ref a2_3, .int v2_4])), (a2_0, .inl (c2_0, 8, .inl f2_0))]) h (va_runV (As := [.int 9, .long 0]) (rest := []) E (c_X0_putLater l dC dI _ (o0 := o0) (v0_0 := v0_0) (v0_1 := v0_1) (v0_2 := v0_2) (o2 := o2) (o5 := o5) (o3 := o3) (a0_6 := a0_6) (a0_7 := a0_7) (v0_8 := z_135) (a0_9 := a0_9) (c0_6 := c0_6) (f0_6 := z_136) (c0_7 := c0_7) (f0_7 := z_137) (p0 := 9) (p1 := 0)  (hQ := hQ) (hw := hw) (hp := (by first | decide | omega))) (cwV 2 E.2.2.2.2 gX0_work_X0_putLater rfl rfl rfl hdV_X0_putLater ⟨Nat.le_of_ble_eq_true rfl, Nat.le_of_ble_eq_true rfl⟩) (kPreV (q0 := 2) (ci := 0) (q := (RX0, TX0, 10)) h KX_true (fun _ _ _ => trivial) [2, 3, 4] [1, 2] (by decide) rfl rfl rfl rfl) rfl rfl hl.1 rfl (lv_room (Nat.le_of_ble_eq_true rfl)) dX0_work_155 ⟨Nat.le_of_ble_eq_true rfl, Nat.le_of_ble_eq_true rfl⟩) [2, 3, 4] [0, 1] rfl rfl (by decide) (by decide) (fun u_139 H locs hw_139 h => ?_)
      obtain ⟨z_140, z_141, z_142⟩ := u_139
      have h : KS (dC, dI) A [(o2, .inr (2, [.ref a2_0, .ref a2_1, .ref a2_2, .ref a2_3, .int v2_4])), (a2_0, .inl (c2_0, 8, .inl f2_0)), (o0, .inr (0, [.int v0_0, .int v0_1, .int v0_2, .ref o2, .ref o5, .ref o3, .ref a0_6, .ref a0_7, .int z_140, .ref a0_9])), (a0_6, .inl (c0_6, 30, .inl z_141)), (a0_7, .inl (c0_7, 30, .inr (.inl z_142)))] [(c2_0, .int), (c0_6, .int), (c0_7, .long)] s H locs := h
      have hw_139 : IP z_141 ∧ (0 ≤ z_140.toInt ∧ z_140.toInt ≤ 30) := by first | exact hw_139 | (simp only [Int32.toInt_toInt64] at hw_139; exact hw_139)
      have hQ := hw_139.1
      have hw := hw_139.2
      refine W.eq (g2 := F0 m 158 ls []) rfl ?_
      have hP9 := h.2.1.sub [2, 0, 1, 3, 4] rfl
      have hD9 := h.2.2.1.sub (ws' := [(o0, .inr (0, [.int v0_0, .int v0_1, .int v0_2, .ref o2, .ref o5, .ref o3, .ref a0_6, .ref a0_7, .int z_140, .ref a0_9])), (o2, .inr (2, [.ref a2_0, .ref a2_1, .ref a2_2, .ref a2_3, .int v2_4])), (a2_0, .inl (c2_0, 8, .inl f2_0)), (a0_6, .inl (c0_6, 30, .inl z_141)), (a0_7, .inl (c0_7, 30, .inr (.inl z_142)))]) [2, 0, 1, 3, 4] (by decide) rfl
      exact W.vret hx hb hr (fun t ht hW => ⟨⟨(z_140, z_141, z_142), rfl, hw_139, (by rw [ht]; exact hP9), hD9⟩, h.2.2.2.1.F ht⟩) h.2.2.2.1.2.2 dX0_work_158 hlocks
    · skip
      have i_133 : (kput f2_0 p1 (p2 ^^^ p3)).toInt = 0 := by have z := keq_p c_133; first | exact z | (simp only [Int32.toInt_toInt64] at z; exact z)
      have j_133 := keq64_p c_133
      refine lv_lconst (v := 1) hx hb dX0_work_134 (by decide) ?_
      refine lv_goto (tgt := 139) hx hb dX0_work_135 rfl ?_
      refine kc_v (wc := [(o0, .inr (0, [.int v0_0, .int v0_1, .int v0_2, .ref o2, .ref o5, .ref o3, .ref a0_6, .ref a0_7, .int z_129, .ref a0_9])), (a0_6, .inl (c0_6, 30, .inl z_130)), (a0_7, .inl (c0_7, 30, .inr (.inl z_131)))]) (wr := [(o2, .inr (2, [.ref a2_0, .ref a2_1, .ref a2_2, .ref a2_3, .int v2_4])), (a2_0, .inl (c2_0, 8, .inl f2_0))]) h (va_runV (As := [.int 8, .long 1]) (rest := []) E (c_X0_putLater l dC dI _ (o0 := o0) (v0_0 := v0_0) (v0_1 := v0_1) (v0_2 := v0_2) (o2 := o2) (o5 := o5) (o3 := o3) (a0_6 := a0_6) (a0_7 := a0_7) (v0_8 := z_129) (a0_9 := a0_9) (c0_6 := c0_6) (f0_6 := z_130) (c0_7 := c0_7) (f0_7 := z_131) (p0 := 8) (p1 := 1)  (hQ := hQ) (hw := hw) (hp := (by first | decide | omega))) (cwV 2 E.2.2.2.2 gX0_work_X0_putLater rfl rfl rfl hdV_X0_putLater ⟨Nat.le_of_ble_eq_true rfl, Nat.le_of_ble_eq_true rfl⟩) (kPreV (q0 := 0) (ci := 0) (q := (RX0, TX0, 10)) h KX_true (fun _ _ _ => trivial) [0, 1, 2] [1, 2] (by decide) rfl rfl rfl rfl) rfl rfl hl.1 rfl (lv_room (Nat.le_of_ble_eq_true rfl)) dX0_work_139 ⟨Nat.le_of_ble_eq_true rfl, Nat.le_of_ble_eq_true rfl⟩) [0, 1, 2] [3, 4] rfl rfl (by decide) (by decide) (fun u_143 H locs hw_143 h => ?_)
      obtain ⟨z_144, z_145, z_146⟩ := u_143
      have h : KS (dC, dI) A [(o2, .inr (2, [.ref a2_0, .ref a2_1, .ref a2_2, .ref a2_3, .int v2_4])), (a2_0, .inl (c2_0, 8, .inl f2_0)), (o0, .inr (0, [.int v0_0, .int v0_1, .int v0_2, .ref o2, .ref o5, .ref o3, .ref a0_6, .ref a0_7, .int z_144, .ref a0_9])), (a0_6, .inl (c0_6, 30, .inl z_145)), (a0_7, .inl (c0_7, 30, .inr (.inl z_146)))] [(c2_0, .int), (c0_6, .int), (c0_7, .long)] s H locs := h
      have hw_143 : IP z_145 ∧ (0 ≤ z_144.toInt ∧ z_144.toInt ≤ 30) := by first | exact hw_143 | (simp only [Int32.toInt_toInt64] at hw_143; exact hw_143)
      have hQ := hw_143.1
      have hw := hw_143.2
      refine W.eq (g2 := F0 m 142 ls []) rfl ?_
      refine lv_aload_n hx hb dX0_work_142 rfl (lv_at hl 2 rfl) ?_
      refine lv_bipush (v := 9) hx hb dX0_work_143 kbi_9 ?_
      refine lv_iload hx hb dX0_work_145 (lv_at hl 1 rfl) ?_
      refine lv_if_eq (tgt := 154) hx hb dX0_work_147 rfl (fun _ => ?_) (fun c_147 => absurd (by decide) c_147)
      refine lv_lconst (v := 0) hx hb dX0_work_154 (by decide) ?_
      refine kc_v (wc := [(o0, .inr (0, [.int v0_0, .int v0_1, .int v0_2, .ref o2, .ref o5, .ref o3, .ref a0_6, .ref a0_7, .int z_144, .ref a0_9])), (a0_6, .inl (c0_6, 30, .inl z_145)), (a0_7, .inl (c0_7, 30, .inr (.inl z_146)))]) (wr := [(o2, .inr (2, [.ref a2_0, .ref a2_1, .ref a2_2, .ref a2_3, .int v2_4])), (a2_0, .inl (c2_0, 8, .inl f2_0))]) h (va_runV (As := [.int 9, .long 0]) (rest := []) E (c_X0_putLater l dC dI _ (o0 := o0) (v0_0 := v0_0) (v0_1 := v0_1) (v0_2 := v0_2) (o2 := o2) (o5 := o5) (o3 := o3) (a0_6 := a0_6) (a0_7 := a0_7) (v0_8 := z_144) (a0_9 := a0_9) (c0_6 := c0_6) (f0_6 := z_145) (c0_7 := c0_7) (f0_7 := z_146) (p0 := 9) (p1 := 0)  (hQ := hQ) (hw := hw) (hp := (by first | decide | omega))) (cwV 2 E.2.2.2.2 gX0_work_X0_putLater rfl rfl rfl hdV_X0_putLater ⟨Nat.le_of_ble_eq_true rfl, Nat.le_of_ble_eq_true rfl⟩) (kPreV (q0 := 2) (ci := 0) (q := (RX0, TX0, 10)) h KX_true (fun _ _ _ => trivial) [2, 3, 4] [1, 2] (by decide) rfl rfl rfl rfl) rfl rfl hl.1 rfl (lv_room (Nat.le_of_ble_eq_true rfl)) dX0_work_155 ⟨Nat.le_of_ble_eq_true rfl, Nat.le_of_ble_eq_true rfl⟩) [2, 3, 4] [0, 1] rfl rfl (by decide) (by decide) (fun u_148 H locs hw_148 h => ?_)
      obtain ⟨z_149, z_150, z_151⟩ := u_148
      have h : KS (dC, dI) A [(o2, .inr (2, [.ref a2_0, .ref a2_1, .ref a2_2, .ref a2_3, .int v2_4])), (a2_0, .inl (c2_0, 8, .inl f2_0)), (o0, .inr (0, [.int v0_0, .int v0_1, .int v0_2, .ref o2, .ref o5, .ref o3, .ref a0_6, .ref a0_7, .int z_149, .ref a0_9])), (a0_6, .inl (c0_6, 30, .inl z_150)), (a0_7, .inl (c0_7, 30, .inr (.inl z_151)))] [(c2_0, .int), (c0_6, .int), (c0_7, .long)] s H locs := h
      have hw_148 : IP z_150 ∧ (0 ≤ z_149.toInt ∧ z_149.toInt ≤ 30) := by first | exact hw_148 | (simp only [Int32.toInt_toInt64] at hw_148; exact hw_148)
      have hQ := hw_148.1
      have hw := hw_148.2
      refine W.eq (g2 := F0 m 158 ls []) rfl ?_
      have hP9 := h.2.1.sub [2, 0, 1, 3, 4] rfl
      have hD9 := h.2.2.1.sub (ws' := [(o0, .inr (0, [.int v0_0, .int v0_1, .int v0_2, .ref o2, .ref o5, .ref o3, .ref a0_6, .ref a0_7, .int z_149, .ref a0_9])), (o2, .inr (2, [.ref a2_0, .ref a2_1, .ref a2_2, .ref a2_3, .int v2_4])), (a2_0, .inl (c2_0, 8, .inl f2_0)), (a0_6, .inl (c0_6, 30, .inl z_150)), (a0_7, .inl (c0_7, 30, .inr (.inl z_151)))]) [2, 0, 1, 3, 4] (by decide) rfl
      exact W.vret hx hb hr (fun t ht hW => ⟨⟨(z_149, z_150, z_151), rfl, hw_148, (by rw [ht]; exact hP9), hD9⟩, h.2.2.2.1.F ht⟩) h.2.2.2.1.2.2 dX0_work_158 hlocks
  have i_127 : ¬ p0.toInt = 5 := fun h9 => s_127 ((fa_eq _ _).mpr h9)
  refine lv_tableOut (tgt := 109) hx hb dX0_work_7 (by omega) (by decide) ?_
  refine lv_aload_n hx hb dX0_work_109 rfl (lv_at hl 2 rfl) ?_
  refine lv_iload_n hx hb dX0_work_110 rfl (lv_at hl 4 rfl) ?_
  refine lv_lload hx hb dX0_work_111 (lv_at hl 1 rfl) ?_
  refine kc_v (wc := [(o0, .inr (0, [.int v0_0, .int v0_1, .int v0_2, .ref o2, .ref o5, .ref o3, .ref a0_6, .ref a0_7, .int v0_8, .ref a0_9])), (a0_6, .inl (c0_6, 30, .inl f0_6)), (a0_7, .inl (c0_7, 30, .inr (.inl f0_7)))]) (wr := [(o2, .inr (2, [.ref a2_0, .ref a2_1, .ref a2_2, .ref a2_3, .int v2_4])), (a2_0, .inl (c2_0, 8, .inl f2_0))]) h (va_runV (As := [.int p1, .long 0]) (rest := []) E (c_X0_putLater l dC dI _ (o0 := o0) (v0_0 := v0_0) (v0_1 := v0_1) (v0_2 := v0_2) (o2 := o2) (o5 := o5) (o3 := o3) (a0_6 := a0_6) (a0_7 := a0_7) (v0_8 := v0_8) (a0_9 := a0_9) (c0_6 := c0_6) (f0_6 := f0_6) (c0_7 := c0_7) (f0_7 := f0_7) (p0 := p1) (p1 := 0)  (hQ := hQ) (hw := hw) (hp := (by first | decide | omega))) (cwV 2 E.2.2.2.2 gX0_work_X0_putLater rfl rfl rfl hdV_X0_putLater ⟨Nat.le_of_ble_eq_true rfl, Nat.le_of_ble_eq_true rfl⟩) (kPreV (q0 := 0) (ci := 0) (q := (RX0, TX0, 10)) h KX_true (fun _ _ _ => trivial) [0, 3, 4] [1, 2] (by decide) rfl rfl rfl rfl) rfl rfl hl.1 rfl (lv_room (Nat.le_of_ble_eq_true rfl)) dX0_work_113 ⟨Nat.le_of_ble_eq_true rfl, Nat.le_of_ble_eq_true rfl⟩) [0, 3, 4] [1, 2] rfl rfl (by decide) (by decide) (fun u_152 H locs hw_152 h => ?_)
  obtain ⟨z_153, z_154, z_155⟩ := u_152
  have h : KS (dC, dI) A [(o2, .inr (2, [.ref a2_0, .ref a2_1, .ref a2_2, .ref a2_3, .int v2_4])), (a2_0, .inl (c2_0, 8, .inl f2_0)), (o0, .inr (0, [.int v0_0, .int v0_1, .int v0_2, .ref o2, .ref o5, .ref o3, .ref a0_6, .ref a0_7, .int z_153, .ref a0_9])), (a0_6, .inl (c0_6, 30, .inl z_154)), (a0_7, .inl (c0_7, 30, .inr (.inl z_155)))] [(c2_0, .int), (c0_6, .int), (c0_7, .long)] s H locs := h
  have hw_152 : IP z_154 ∧ (0 ≤ z_153.toInt ∧ z_153.toInt ≤ 30) := by first | exact hw_152 | (simp only [Int32.toInt_toInt64] at hw_152; exact hw_152)
  have hQ := hw_152.1
  have hw := hw_152.2
  refine W.eq (g2 := F0 m 116 ls []) rfl ?_
  refine lv_aload_n hx hb dX0_work_116 rfl (lv_at hl 2 rfl) ?_
  refine lv_bipush (v := 8) hx hb dX0_work_117 kbi_8 ?_
  refine lv_aload_n hx hb dX0_work_119 rfl (lv_at hl 2 rfl) ?_
  refine k_get (v := .ref o2) E h (fun w h => List.mem_cons_of_mem _ (List.mem_append_left _ (List.mem_append_right _ h))) 2 rfl rfl 3 (Nat.le_of_ble_eq_true rfl) (List.mem_of_getElem? (i := 1) rfl) rfl dX0_work_120 ?_
  refine lv_iload_n hx hb dX0_work_123 rfl (lv_at hl 4 rfl) ?_
  refine lv_lload hx hb dX0_work_124 (lv_at hl 1 rfl) ?_
  refine kc_l (wc := [(o2, .inr (2, [.ref a2_0, .ref a2_1, .ref a2_2, .ref a2_3, .int v2_4])), (a2_0, .inl (c2_0, 8, .inl f2_0))]) (wr := [(o0, .inr (0, [.int v0_0, .int v0_1, .int v0_2, .ref o2, .ref o5, .ref o3, .ref a0_6, .ref a0_7, .int z_153, .ref a0_9])), (a0_6, .inl (c0_6, 30, .inl z_154)), (a0_7, .inl (c0_7, 30, .inr (.inl z_155)))]) h (va_runV (As := [.int p1, .long 0]) (rest := [.int 8, .ref o0]) E (c_X2_cutFor l dC dI _ (o2 := o2) (a2_0 := a2_0) (a2_1 := a2_1) (a2_2 := a2_2) (a2_3 := a2_3) (v2_4 := v2_4) (c2_0 := c2_0) (f2_0 := f2_0) (p0 := p1) (p1 := 0)  (hp := (by first | decide | omega))) (cwV 2 E.2.2.2.2 gX0_work_X2_cutFor rfl rfl rfl hdV_X2_cutFor ⟨Nat.le_of_ble_eq_true rfl, Nat.le_of_ble_eq_true rfl⟩) (kPreV (q0 := 0) (ci := 2) (q := (RX2, TX2, 5)) h KX_true (fun _ _ _ => trivial) [0, 1] [0] (by decide) rfl rfl rfl rfl) rfl rfl hl.1 rfl (lv_room (Nat.le_of_ble_eq_true rfl)) dX0_work_126 ⟨Nat.le_of_ble_eq_true rfl, Nat.le_of_ble_eq_true rfl⟩) [0, 1] [2, 3, 4] rfl rfl (by decide) (by decide) (fun r_156 u_156 H locs hw_156 h => ?_)
  have h : KS (dC, dI) A [(o0, .inr (0, [.int v0_0, .int v0_1, .int v0_2, .ref o2, .ref o5, .ref o3, .ref a0_6, .ref a0_7, .int z_153, .ref a0_9])), (a0_6, .inl (c0_6, 30, .inl z_154)), (a0_7, .inl (c0_7, 30, .inr (.inl z_155))), (o2, .inr (2, [.ref a2_0, .ref a2_1, .ref a2_2, .ref a2_3, .int v2_4])), (a2_0, .inl (c2_0, 8, .inl f2_0))] [(c2_0, .int), (c0_6, .int), (c0_7, .long)] s H locs := h
  have hw_156 : r_156 = kput f2_0 p1 (0 : Int64) := by first | exact hw_156 | (simp only [Int32.toInt_toInt64] at hw_156; exact hw_156)
  refine k_topl (y := kput f2_0 p1 (0 : Int64)) (hw_156) ?_
  refine W.eq (g2 := F0 m 129 ls [.long (kput f2_0 p1 (0 : Int64)), .int 8, .ref o0]) rfl ?_
  refine lv_lconst (v := 0) hx hb dX0_work_129 (by decide) ?_
  refine W.lcmp hx hb dX0_work_130 ?_
  refine lv_if_ne (tgt := 138) hx hb dX0_work_131 rfl (fun c_157 => ?_) (fun c_157 => ?_)
  · skip
    have i_157 : ¬ (kput f2_0 p1 (0 : Int64)).toInt = 0 := by have z := keq_n c_157; first | exact z | (simp only [Int32.toInt_toInt64] at z; exact z)
    have j_157 := keq64_n c_157
    refine lv_lconst (v := 0) hx hb dX0_work_138 (by decide) ?_
    refine kc_v (wc := [(o0, .inr (0, [.int v0_0, .int v0_1, .int v0_2, .ref o2, .ref o5, .ref o3, .ref a0_6, .ref a0_7, .int z_153, .ref a0_9])), (a0_6, .inl (c0_6, 30, .inl z_154)), (a0_7, .inl (c0_7, 30, .inr (.inl z_155)))]) (wr := [(o2, .inr (2, [.ref a2_0, .ref a2_1, .ref a2_2, .ref a2_3, .int v2_4])), (a2_0, .inl (c2_0, 8, .inl f2_0))]) h (va_runV (As := [.int 8, .long 0]) (rest := []) E (c_X0_putLater l dC dI _ (o0 := o0) (v0_0 := v0_0) (v0_1 := v0_1) (v0_2 := v0_2) (o2 := o2) (o5 := o5) (o3 := o3) (a0_6 := a0_6) (a0_7 := a0_7) (v0_8 := z_153) (a0_9 := a0_9) (c0_6 := c0_6) (f0_6 := z_154) (c0_7 := c0_7) (f0_7 := z_155) (p0 := 8) (p1 := 0)  (hQ := hQ) (hw := hw) (hp := (by first | decide | omega))) (cwV 2 E.2.2.2.2 gX0_work_X0_putLater rfl rfl rfl hdV_X0_putLater ⟨Nat.le_of_ble_eq_true rfl, Nat.le_of_ble_eq_true rfl⟩) (kPreV (q0 := 0) (ci := 0) (q := (RX0, TX0, 10)) h KX_true (fun _ _ _ => trivial) [0, 1, 2] [1, 2] (by decide) rfl rfl rfl rfl) rfl rfl hl.1 rfl (lv_room (Nat.le_of_ble_eq_true rfl)) dX0_work_139 ⟨Nat.le_of_ble_eq_true rfl, Nat.le_of_ble_eq_true rfl⟩) [0, 1, 2] [3, 4] rfl rfl (by decide) (by decide) (fun u_158 H locs hw_158 h => ?_)
    obtain ⟨z_159, z_160, z_161⟩ := u_158
    have h : KS (dC, dI) A [(o2, .inr (2, [.ref a2_0, .ref a2_1, .ref a2_2, .ref a2_3, .int v2_4])), (a2_0, .inl (c2_0, 8, .inl f2_0)), (o0, .inr (0, [.int v0_0, .int v0_1, .int v0_2, .ref o2, .ref o5, .ref o3, .ref a0_6, .ref a0_7, .int z_159, .ref a0_9])), (a0_6, .inl (c0_6, 30, .inl z_160)), (a0_7, .inl (c0_7, 30, .inr (.inl z_161)))] [(c2_0, .int), (c0_6, .int), (c0_7, .long)] s H locs := h
    have hw_158 : IP z_160 ∧ (0 ≤ z_159.toInt ∧ z_159.toInt ≤ 30) := by first | exact hw_158 | (simp only [Int32.toInt_toInt64] at hw_158; exact hw_158)
    have hQ := hw_158.1
    have hw := hw_158.2
    refine W.eq (g2 := F0 m 142 ls []) rfl ?_
    refine lv_aload_n hx hb dX0_work_142 rfl (lv_at hl 2 rfl) ?_
    refine lv_bipush (v := 9) hx hb dX0_work_143 kbi_9 ?_
    refine lv_iload hx hb dX0_work_145 (lv_at hl 0 rfl) ?_
    refine lv_if_eq (tgt := 154) hx hb dX0_work_147 rfl (fun _ => ?_) (fun c_162 => absurd (by decide) c_162)
    refine lv_lconst (v := 0) hx hb dX0_work_154 (by decide) ?_
    refine kc_v (wc := [(o0, .inr (0, [.int v0_0, .int v0_1, .int v0_2, .ref o2, .ref o5, .ref o3, .ref a0_6, .ref a0_7, .int z_159, .ref a0_9])), (a0_6, .inl (c0_6, 30, .inl z_160)), (a0_7, .inl (c0_7, 30, .inr (.inl z_161)))]) (wr := [(o2, .inr (2, [.ref a2_0, .ref a2_1, .ref a2_2, .ref a2_3, .int v2_4])), (a2_0, .inl (c2_0, 8, .inl f2_0))]) h (va_runV (As := [.int 9, .long 0]) (rest := []) E (c_X0_putLater l dC dI _ (o0 := o0) (v0_0 := v0_0) (v0_1 := v0_1) (v0_2 := v0_2) (o2 := o2) (o5 := o5) (o3 := o3) (a0_6 := a0_6) (a0_7 := a0_7) (v0_8 := z_159) (a0_9 := a0_9) (c0_6 := c0_6) (f0_6 := z_160) (c0_7 := c0_7) (f0_7 := z_161) (p0 := 9) (p1 := 0)  (hQ := hQ) (hw := hw) (hp := (by first | decide | omega))) (cwV 2 E.2.2.2.2 gX0_work_X0_putLater rfl rfl rfl hdV_X0_putLater ⟨Nat.le_of_ble_eq_true rfl, Nat.le_of_ble_eq_true rfl⟩) (kPreV (q0 := 2) (ci := 0) (q := (RX0, TX0, 10)) h KX_true (fun _ _ _ => trivial) [2, 3, 4] [1, 2] (by decide) rfl rfl rfl rfl) rfl rfl hl.1 rfl (lv_room (Nat.le_of_ble_eq_true rfl)) dX0_work_155 ⟨Nat.le_of_ble_eq_true rfl, Nat.le_of_ble_eq_true rfl⟩) [2, 3, 4] [0, 1] rfl rfl (by decide) (by decide) (fun u_163 H locs hw_163 h => ?_)
    obtain ⟨z_164, z_165, z_166⟩ := u_163
    have h : KS (dC, dI) A [(o2, .inr (2, [.ref a2_0, .ref a2_1, .ref a2_2, .ref a2_3, .int v2_4])), (a2_0, .inl (c2_0, 8, .inl f2_0)), (o0, .inr (0, [.int v0_0, .int v0_1, .int v0_2, .ref o2, .ref o5, .ref o3, .ref a0_6, .ref a0_7, .int z_164, .ref a0_9])), (a0_6, .inl (c0_6, 30, .inl z_165)), (a0_7, .inl (c0_7, 30, .inr (.inl z_166)))] [(c2_0, .int), (c0_6, .int), (c0_7, .long)] s H locs := h
    have hw_163 : IP z_165 ∧ (0 ≤ z_164.toInt ∧ z_164.toInt ≤ 30) := by first | exact hw_163 | (simp only [Int32.toInt_toInt64] at hw_163; exact hw_163)
    have hQ := hw_163.1
    have hw := hw_163.2
    refine W.eq (g2 := F0 m 158 ls []) rfl ?_
    have hP9 := h.2.1.sub [2, 0, 1, 3, 4] rfl
    have hD9 := h.2.2.1.sub (ws' := [(o0, .inr (0, [.int v0_0, .int v0_1, .int v0_2, .ref o2, .ref o5, .ref o3, .ref a0_6, .ref a0_7, .int z_164, .ref a0_9])), (o2, .inr (2, [.ref a2_0, .ref a2_1, .ref a2_2, .ref a2_3, .int v2_4])), (a2_0, .inl (c2_0, 8, .inl f2_0)), (a0_6, .inl (c0_6, 30, .inl z_165)), (a0_7, .inl (c0_7, 30, .inr (.inl z_166)))]) [2, 0, 1, 3, 4] (by decide) rfl
    exact W.vret hx hb hr (fun t ht hW => ⟨⟨(z_164, z_165, z_166), rfl, hw_163, (by rw [ht]; exact hP9), hD9⟩, h.2.2.2.1.F ht⟩) h.2.2.2.1.2.2 dX0_work_158 hlocks
  · skip
    have i_157 : (kput f2_0 p1 (0 : Int64)).toInt = 0 := by have z := keq_p c_157; first | exact z | (simp only [Int32.toInt_toInt64] at z; exact z)
    have j_157 := keq64_p c_157
    refine lv_lconst (v := 1) hx hb dX0_work_134 (by decide) ?_
    refine lv_goto (tgt := 139) hx hb dX0_work_135 rfl ?_
    refine kc_v (wc := [(o0, .inr (0, [.int v0_0, .int v0_1, .int v0_2, .ref o2, .ref o5, .ref o3, .ref a0_6, .ref a0_7, .int z_153, .ref a0_9])), (a0_6, .inl (c0_6, 30, .inl z_154)), (a0_7, .inl (c0_7, 30, .inr (.inl z_155)))]) (wr := [(o2, .inr (2, [.ref a2_0, .ref a2_1, .ref a2_2, .ref a2_3, .int v2_4])), (a2_0, .inl (c2_0, 8, .inl f2_0))]) h (va_runV (As := [.int 8, .long 1]) (rest := []) E (c_X0_putLater l dC dI _ (o0 := o0) (v0_0 := v0_0) (v0_1 := v0_1) (v0_2 := v0_2) (o2 := o2) (o5 := o5) (o3 := o3) (a0_6 := a0_6) (a0_7 := a0_7) (v0_8 := z_153) (a0_9 := a0_9) (c0_6 := c0_6) (f0_6 := z_154) (c0_7 := c0_7) (f0_7 := z_155) (p0 := 8) (p1 := 1)  (hQ := hQ) (hw := hw) (hp := (by first | decide | omega))) (cwV 2 E.2.2.2.2 gX0_work_X0_putLater rfl rfl rfl hdV_X0_putLater ⟨Nat.le_of_ble_eq_true rfl, Nat.le_of_ble_eq_true rfl⟩) (kPreV (q0 := 0) (ci := 0) (q := (RX0, TX0, 10)) h KX_true (fun _ _ _ => trivial) [0, 1, 2] [1, 2] (by decide) rfl rfl rfl rfl) rfl rfl hl.1 rfl (lv_room (Nat.le_of_ble_eq_true rfl)) dX0_work_139 ⟨Nat.le_of_ble_eq_true rfl, Nat.le_of_ble_eq_true rfl⟩) [0, 1, 2] [3, 4] rfl rfl (by decide) (by decide) (fun u_167 H locs hw_167 h => ?_)
    obtain ⟨z_168, z_169, z_170⟩ := u_167
    have h : KS (dC, dI) A [(o2, .inr (2, [.ref a2_0, .ref a2_1, .ref a2_2, .ref a2_3, .int v2_4])), (a2_0, .inl (c2_0, 8, .inl f2_0)), (o0, .inr (0, [.int v0_0, .int v0_1, .int v0_2, .ref o2, .ref o5, .ref o3, .ref a0_6, .ref a0_7, .int z_168, .ref a0_9])), (a0_6, .inl (c0_6, 30, .inl z_169)), (a0_7, .inl (c0_7, 30, .inr (.inl z_170)))] [(c2_0, .int), (c0_6, .int), (c0_7, .long)] s H locs := h
    have hw_167 : IP z_169 ∧ (0 ≤ z_168.toInt ∧ z_168.toInt ≤ 30) := by first | exact hw_167 | (simp only [Int32.toInt_toInt64] at hw_167; exact hw_167)
    have hQ := hw_167.1
    have hw := hw_167.2
    refine W.eq (g2 := F0 m 142 ls []) rfl ?_
    refine lv_aload_n hx hb dX0_work_142 rfl (lv_at hl 2 rfl) ?_
    refine lv_bipush (v := 9) hx hb dX0_work_143 kbi_9 ?_
    refine lv_iload hx hb dX0_work_145 (lv_at hl 0 rfl) ?_
    refine lv_if_eq (tgt := 154) hx hb dX0_work_147 rfl (fun _ => ?_) (fun c_171 => absurd (by decide) c_171)
    refine lv_lconst (v := 0) hx hb dX0_work_154 (by decide) ?_
    refine kc_v (wc := [(o0, .inr (0, [.int v0_0, .int v0_1, .int v0_2, .ref o2, .ref o5, .ref o3, .ref a0_6, .ref a0_7, .int z_168, .ref a0_9])), (a0_6, .inl (c0_6, 30, .inl z_169)), (a0_7, .inl (c0_7, 30, .inr (.inl z_170)))]) (wr := [(o2, .inr (2, [.ref a2_0, .ref a2_1, .ref a2_2, .ref a2_3, .int v2_4])), (a2_0, .inl (c2_0, 8, .inl f2_0))]) h (va_runV (As := [.int 9, .long 0]) (rest := []) E (c_X0_putLater l dC dI _ (o0 := o0) (v0_0 := v0_0) (v0_1 := v0_1) (v0_2 := v0_2) (o2 := o2) (o5 := o5) (o3 := o3) (a0_6 := a0_6) (a0_7 := a0_7) (v0_8 := z_168) (a0_9 := a0_9) (c0_6 := c0_6) (f0_6 := z_169) (c0_7 := c0_7) (f0_7 := z_170) (p0 := 9) (p1 := 0)  (hQ := hQ) (hw := hw) (hp := (by first | decide | omega))) (cwV 2 E.2.2.2.2 gX0_work_X0_putLater rfl rfl rfl hdV_X0_putLater ⟨Nat.le_of_ble_eq_true rfl, Nat.le_of_ble_eq_true rfl⟩) (kPreV (q0 := 2) (ci := 0) (q := (RX0, TX0, 10)) h KX_true (fun _ _ _ => trivial) [2, 3, 4] [1, 2] (by decide) rfl rfl rfl rfl) rfl rfl hl.1 rfl (lv_room (Nat.le_of_ble_eq_true rfl)) dX0_work_155 ⟨Nat.le_of_ble_eq_true rfl, Nat.le_of_ble_eq_true rfl⟩) [2, 3, 4] [0, 1] rfl rfl (by decide) (by decide) (fun u_172 H locs hw_172 h => ?_)
    obtain ⟨z_173, z_174, z_175⟩ := u_172
    have h : KS (dC, dI) A [(o2, .inr (2, [.ref a2_0, .ref a2_1, .ref a2_2, .ref a2_3, .int v2_4])), (a2_0, .inl (c2_0, 8, .inl f2_0)), (o0, .inr (0, [.int v0_0, .int v0_1, .int v0_2, .ref o2, .ref o5, .ref o3, .ref a0_6, .ref a0_7, .int z_173, .ref a0_9])), (a0_6, .inl (c0_6, 30, .inl z_174)), (a0_7, .inl (c0_7, 30, .inr (.inl z_175)))] [(c2_0, .int), (c0_6, .int), (c0_7, .long)] s H locs := h
    have hw_172 : IP z_174 ∧ (0 ≤ z_173.toInt ∧ z_173.toInt ≤ 30) := by first | exact hw_172 | (simp only [Int32.toInt_toInt64] at hw_172; exact hw_172)
    have hQ := hw_172.1
    have hw := hw_172.2
    refine W.eq (g2 := F0 m 158 ls []) rfl ?_
    have hP9 := h.2.1.sub [2, 0, 1, 3, 4] rfl
    have hD9 := h.2.2.1.sub (ws' := [(o0, .inr (0, [.int v0_0, .int v0_1, .int v0_2, .ref o2, .ref o5, .ref o3, .ref a0_6, .ref a0_7, .int z_173, .ref a0_9])), (o2, .inr (2, [.ref a2_0, .ref a2_1, .ref a2_2, .ref a2_3, .int v2_4])), (a2_0, .inl (c2_0, 8, .inl f2_0)), (a0_6, .inl (c0_6, 30, .inl z_174)), (a0_7, .inl (c0_7, 30, .inr (.inl z_175)))]) [2, 0, 1, 3, 4] (by decide) rfl
    exact W.vret hx hb hr (fun t ht hW => ⟨⟨(z_173, z_174, z_175), rfl, hw_172, (by rw [ht]; exact hP9), hD9⟩, h.2.2.2.1.F ht⟩) h.2.2.2.1.2.2 dX0_work_158 hlocks
