set_option maxHeartbeats 4000000 in
set_option maxRecDepth 100000 in
theorem c_X6_learnParts (l : Launch) (dC : Nat → ClassId) (dI : Nat → Nat → Nat) (sz : Nat) (o6 : Nat) (a6_0 : Nat) (o5 : Nat) (a6_2 : Nat) (a6_3 : Nat) (a6_4 : Nat) (a6_5 : Nat) (a6_6 : Nat) (a6_7 : Nat) (v6_9 : Int32) (a5_0 : Nat) (a5_1 : Nat) (a5_2 : Nat) (a5_3 : Nat) (a5_4 : Nat) (a5_5 : Nat) (a5_6 : Nat) (c5_1 : ClassId) (f5_1 : Nat → Int32) (c6_5 : ClassId) (f6_5 : Nat → Int32) (c6_6 : ClassId) (f6_6 : Nat → Int32) (n6 : Nat) (i9 : Nat) (bs : Nat) (hn6 : n6 ≤ 10) (hK : IK f5_1) (hp : i9 < 12) : Met l yX6_learnParts wsX6_learnParts ({ frames := 1, cells := 0, slots := 0, locals := 23 } : Room) (va_Pc [.ref o6, .int (nI i9), .int (nI bs)] (KPre (dC, dI) [(o6, .inr (6, [.ref a6_0, .ref o5, .ref a6_2, .ref a6_3, .ref a6_4, .ref a6_5, .ref a6_6, .ref a6_7, .int (nI n6), .int v6_9])), (o5, .inr (5, [.ref a5_0, .ref a5_1, .ref a5_2, .ref a5_3, .ref a5_4, .ref a5_5, .ref a5_6])), (a5_1, .inl (c5_1, 120, .inl f5_1)), (a6_5, .inl (c6_5, 5, .inl f6_5)), (a6_6, .inl (c6_6, 5, .inl f6_6))] [(c5_1, .int), (c6_5, .int), (c6_6, .int)] sz (fun U => KAll (va_A [(o6, .inr (6, [.ref a6_0, .ref o5, .ref a6_2, .ref a6_3, .ref a6_4, .ref a6_5, .ref a6_6, .ref a6_7, .int (nI n6), .int v6_9])), (o5, .inr (5, [.ref a5_0, .ref a5_1, .ref a5_2, .ref a5_3, .ref a5_4, .ref a5_5, .ref a5_6])), (a5_1, .inl (c5_1, 120, .inl f5_1)), (a6_5, .inl (c6_5, 5, .inl f6_5)), (a6_6, .inl (c6_6, 5, .inl f6_6))] sz) U))) (va_Qv (fun (u : (Nat → Nat)) => ∀ p, p < 5 → u p = mOP (iP f5_1 i9) p n6) (KPost (dC, dI) (va_A [(o6, .inr (6, [.ref a6_0, .ref o5, .ref a6_2, .ref a6_3, .ref a6_4, .ref a6_5, .ref a6_6, .ref a6_7, .int (nI n6), .int v6_9])), (o5, .inr (5, [.ref a5_0, .ref a5_1, .ref a5_2, .ref a5_3, .ref a5_4, .ref a5_5, .ref a5_6])), (a5_1, .inl (c5_1, 120, .inl f5_1)), (a6_5, .inl (c6_5, 5, .inl f6_5)), (a6_6, .inl (c6_6, 5, .inl f6_6))] sz) (fun (u : (Nat → Nat)) => [(o6, .inr (6, [.ref a6_0, .ref o5, .ref a6_2, .ref a6_3, .ref a6_4, .ref a6_5, .ref a6_6, .ref a6_7, .int (nI n6), .int v6_9])), (o5, .inr (5, [.ref a5_0, .ref a5_1, .ref a5_2, .ref a5_3, .ref a5_4, .ref a5_5, .ref a5_6])), (a5_1, .inl (c5_1, 120, .inl f5_1)), (a6_5, .inl (c6_5, 5, .inl (fun j => nI (u j)))), (a6_6, .inl (c6_6, 5, .inl (fun j => nI (pRoom bs j))))])) (va_A [(o6, .inr (6, [.ref a6_0, .ref o5, .ref a6_2, .ref a6_3, .ref a6_4, .ref a6_5, .ref a6_6, .ref a6_7, .int (nI n6), .int v6_9])), (o5, .inr (5, [.ref a5_0, .ref a5_1, .ref a5_2, .ref a5_3, .ref a5_4, .ref a5_5, .ref a5_6])), (a5_1, .inl (c5_1, 120, .inl f5_1)), (a6_5, .inl (c6_5, 5, .inl f6_5)), (a6_6, .inl (c6_6, 5, .inl f6_6))] sz)) 0 0 (va_A [(o6, .inr (6, [.ref a6_0, .ref o5, .ref a6_2, .ref a6_3, .ref a6_4, .ref a6_5, .ref a6_6, .ref a6_7, .int (nI n6), .int v6_9])), (o5, .inr (5, [.ref a5_0, .ref a5_1, .ref a5_2, .ref a5_3, .ref a5_4, .ref a5_5, .ref a5_6])), (a5_1, .inl (c5_1, 120, .inl f5_1)), (a6_5, .inl (c6_5, 5, .inl f6_5)), (a6_6, .inl (c6_6, 5, .inl f6_6))] sz) := by
  refine kMet (y := yX6_learnParts) (wsM := wsX6_learnParts) (cc := cX6_learnParts) (maxL := 4) (ret := none) (rm := ({ frames := 1, cells := 0, slots := 0, locals := 23 } : Room)) (mc := 0) (ms := 0) (av := [.ref o6, .int (nI i9), .int (nI bs)]) (D := (dC, dI)) (wc := [(o6, .inr (6, [.ref a6_0, .ref o5, .ref a6_2, .ref a6_3, .ref a6_4, .ref a6_5, .ref a6_6, .ref a6_7, .int (nI n6), .int v6_9])), (o5, .inr (5, [.ref a5_0, .ref a5_1, .ref a5_2, .ref a5_3, .ref a5_4, .ref a5_5, .ref a5_6])), (a5_1, .inl (c5_1, 120, .inl f5_1)), (a6_5, .inl (c6_5, 5, .inl f6_5)), (a6_6, .inl (c6_6, 5, .inl f6_6))]) (tc := [(c5_1, .int), (c6_5, .int), (c6_6, .int)]) (sz := sz) (X := fun U => KAll (va_A [(o6, .inr (6, [.ref a6_0, .ref o5, .ref a6_2, .ref a6_3, .ref a6_4, .ref a6_5, .ref a6_6, .ref a6_7, .int (nI n6), .int v6_9])), (o5, .inr (5, [.ref a5_0, .ref a5_1, .ref a5_2, .ref a5_3, .ref a5_4, .ref a5_5, .ref a5_6])), (a5_1, .inl (c5_1, 120, .inl f5_1)), (a6_5, .inl (c6_5, 5, .inl f6_5)), (a6_6, .inl (c6_6, 5, .inl f6_6))] sz) U) (Qc := fun A => va_Qv (fun (u : (Nat → Nat)) => ∀ p, p < 5 → u p = mOP (iP f5_1 i9) p n6) (KPost (dC, dI) A (fun (u : (Nat → Nat)) => [(o6, .inr (6, [.ref a6_0, .ref o5, .ref a6_2, .ref a6_3, .ref a6_4, .ref a6_5, .ref a6_6, .ref a6_7, .int (nI n6), .int v6_9])), (o5, .inr (5, [.ref a5_0, .ref a5_1, .ref a5_2, .ref a5_3, .ref a5_4, .ref a5_5, .ref a5_6])), (a5_1, .inl (c5_1, 120, .inl f5_1)), (a6_5, .inl (c6_5, 5, .inl (fun j => nI (u j)))), (a6_6, .inl (c6_6, 5, .inl (fun j => nI (pRoom bs j))))])) A) (by decide) rfl (Nat.le_of_ble_eq_true rfl) ?_
  intro p e s m below meth c A ls E hr hlocks hnm hsz hAe hX h hl
  have hx := E.1
  have hb := E.2.1
  have hl : lv_has ls 4 [(0, .ref o6), (1, .int (nI i9)), (2, .int (nI bs))] := hl
  have hX : KAll A s := by rw [← hAe]; exact hX
  obtain ⟨⟨tD, hZD, hTD⟩, ⟨tX, hZX, hTX⟩, ⟨tY, hZY, hTY⟩, ⟨tP, hZP, hTP⟩, ⟨tL, hZL, hTL⟩, ⟨tM, hZM, hTM⟩, hN0_134, hN0_60, hN0_96, hN1_83, hN1_87, hN3_49, hN3_52, hN4_44, hN4_69, hN5_33, hN6_102, hN6_67, hF37, hF40, hF50, hF53⟩ := id hX
  refine lv_aload_n hx hb dX6_learnParts_0 rfl (lv_at hl 0 rfl) ?_
  refine k_get (v := .ref a6_5) E h (fun w h => List.mem_cons_of_mem _ (List.mem_append_left _ (List.mem_append_right _ h))) 0 rfl rfl 5 (Nat.le_of_ble_eq_true rfl) (List.mem_of_getElem? (i := 1) rfl) rfl dX6_learnParts_1 ?_
  refine lv_iconst (v := 0) hx hb dX6_learnParts_4 kic_0 ?_
  refine kc_v (wc := [(a6_5, .inl (c6_5, 5, .inl f6_5))]) (wr := [(o6, .inr (6, [.ref a6_0, .ref o5, .ref a6_2, .ref a6_3, .ref a6_4, .ref a6_5, .ref a6_6, .ref a6_7, .int (nI n6), .int v6_9])), (o5, .inr (5, [.ref a5_0, .ref a5_1, .ref a5_2, .ref a5_3, .ref a5_4, .ref a5_5, .ref a5_6])), (a5_1, .inl (c5_1, 120, .inl f5_1)), (a6_6, .inl (c6_6, 5, .inl f6_6))]) h (va_runS (As := [.ref a6_5, .int 0]) (rest := []) E (c_J7_fill_53178 l dC dI _ (a9_0 := a6_5) (c9_0 := c6_5) (n9_0 := 5) (f9_0 := f6_5) (p1 := 0)  (hn := (by decide))) (va_cwS 2 E.2.2.2.2 gX6_learnParts_J7_fill_53178 rfl rfl rfl hdS_J7_fill_53178 ⟨Nat.le_of_ble_eq_true rfl, Nat.le_of_ble_eq_true rfl⟩) (kPreS h KX_true (fun _ _ _ => trivial) [3] [1] (by decide) rfl rfl) rfl rfl hl.1 rfl (lv_room (Nat.le_of_ble_eq_true rfl)) dX6_learnParts_5 ⟨Nat.le_of_ble_eq_true rfl, Nat.le_of_ble_eq_true rfl⟩) [3] [0, 1, 2, 4] rfl rfl (by decide) (by decide) (fun u_1 H locs hw_1 h => ?_)
  have h : KS (dC, dI) A [(o6, .inr (6, [.ref a6_0, .ref o5, .ref a6_2, .ref a6_3, .ref a6_4, .ref a6_5, .ref a6_6, .ref a6_7, .int (nI n6), .int v6_9])), (o5, .inr (5, [.ref a5_0, .ref a5_1, .ref a5_2, .ref a5_3, .ref a5_4, .ref a5_5, .ref a5_6])), (a5_1, .inl (c5_1, 120, .inl f5_1)), (a6_6, .inl (c6_6, 5, .inl f6_6)), (a6_5, .inl (c6_5, 5, .inl (fun _ => (0 : Int32))))] [(c5_1, .int), (c6_5, .int), (c6_6, .int)] s H locs := h
  refine W.eq (g2 := F0 m 8 ls []) rfl ?_
  refine lv_aload_n hx hb dX6_learnParts_8 rfl (lv_at hl 0 rfl) ?_
  refine k_get (v := .ref a6_6) E h (fun w h => List.mem_cons_of_mem _ (List.mem_append_left _ (List.mem_append_right _ h))) 0 rfl rfl 6 (Nat.le_of_ble_eq_true rfl) (List.mem_of_getElem? (i := 2) rfl) rfl dX6_learnParts_9 ?_
  refine lv_iconst (v := 1) hx hb dX6_learnParts_12 kic_1 ?_
  refine kc_v (wc := [(a6_6, .inl (c6_6, 5, .inl f6_6))]) (wr := [(o6, .inr (6, [.ref a6_0, .ref o5, .ref a6_2, .ref a6_3, .ref a6_4, .ref a6_5, .ref a6_6, .ref a6_7, .int (nI n6), .int v6_9])), (o5, .inr (5, [.ref a5_0, .ref a5_1, .ref a5_2, .ref a5_3, .ref a5_4, .ref a5_5, .ref a5_6])), (a5_1, .inl (c5_1, 120, .inl f5_1)), (a6_5, .inl (c6_5, 5, .inl (fun _ => (0 : Int32))))]) h (va_runS (As := [.ref a6_6, .int 1]) (rest := []) E (c_J7_fill_53178 l dC dI _ (a9_0 := a6_6) (c9_0 := c6_6) (n9_0 := 5) (f9_0 := f6_6) (p1 := 1)  (hn := (by decide))) (va_cwS 2 E.2.2.2.2 gX6_learnParts_J7_fill_53178 rfl rfl rfl hdS_J7_fill_53178 ⟨Nat.le_of_ble_eq_true rfl, Nat.le_of_ble_eq_true rfl⟩) (kPreS h KX_true (fun _ _ _ => trivial) [3] [2] (by decide) rfl rfl) rfl rfl hl.1 rfl (lv_room (Nat.le_of_ble_eq_true rfl)) dX6_learnParts_13 ⟨Nat.le_of_ble_eq_true rfl, Nat.le_of_ble_eq_true rfl⟩) [3] [0, 1, 2, 4] rfl rfl (by decide) (by decide) (fun u_2 H locs hw_2 h => ?_)
  have h : KS (dC, dI) A [(o6, .inr (6, [.ref a6_0, .ref o5, .ref a6_2, .ref a6_3, .ref a6_4, .ref a6_5, .ref a6_6, .ref a6_7, .int (nI n6), .int v6_9])), (o5, .inr (5, [.ref a5_0, .ref a5_1, .ref a5_2, .ref a5_3, .ref a5_4, .ref a5_5, .ref a5_6])), (a5_1, .inl (c5_1, 120, .inl f5_1)), (a6_5, .inl (c6_5, 5, .inl (fun _ => (0 : Int32)))), (a6_6, .inl (c6_6, 5, .inl (fun _ => (1 : Int32))))] [(c5_1, .int), (c6_5, .int), (c6_6, .int)] s H locs := h
  refine W.eq (g2 := F0 m 16 ls []) rfl ?_
  refine lv_aload_n hx hb dX6_learnParts_16 rfl (lv_at hl 0 rfl) ?_
  refine k_get (v := .ref a6_6) E h (fun w h => List.mem_cons_of_mem _ (List.mem_append_left _ (List.mem_append_right _ h))) 0 rfl rfl 6 (Nat.le_of_ble_eq_true rfl) (List.mem_of_getElem? (i := 2) rfl) rfl dX6_learnParts_17 ?_
  refine lv_iconst (v := 0) hx hb dX6_learnParts_20 kic_0 ?_
  refine lv_iload_n hx hb dX6_learnParts_21 rfl (lv_at hl 2 rfl) ?_
  refine k_iast (j := 0) (ws' := [(o6, .inr (6, [.ref a6_0, .ref o5, .ref a6_2, .ref a6_3, .ref a6_4, .ref a6_5, .ref a6_6, .ref a6_7, .int (nI n6), .int v6_9])), (o5, .inr (5, [.ref a5_0, .ref a5_1, .ref a5_2, .ref a5_3, .ref a5_4, .ref a5_5, .ref a5_6])), (a5_1, .inl (c5_1, 120, .inl f5_1)), (a6_5, .inl (c6_5, 5, .inl (fun _ => (0 : Int32)))), (a6_6, .inl (c6_6, 5, .inl (upd (fun _ => (1 : Int32)) 0 (nI bs))))]) E h 4 2 rfl rfl (vin_dec rfl) rfl rfl dX6_learnParts_22 (fun H locs h => ?_)
  have h : KS (dC, dI) A [(o6, .inr (6, [.ref a6_0, .ref o5, .ref a6_2, .ref a6_3, .ref a6_4, .ref a6_5, .ref a6_6, .ref a6_7, .int (nI n6), .int v6_9])), (o5, .inr (5, [.ref a5_0, .ref a5_1, .ref a5_2, .ref a5_3, .ref a5_4, .ref a5_5, .ref a5_6])), (a5_1, .inl (c5_1, 120, .inl f5_1)), (a6_5, .inl (c6_5, 5, .inl (fun _ => (0 : Int32)))), (a6_6, .inl (c6_6, 5, .inl (fun j => nI (pRoom bs j))))] [(c5_1, .int), (c6_5, .int), (c6_6, .int)] s _ _ := k_cong 4 h rfl (fun j _ => mm_rooms j) rfl
  refine lv_iconst (v := 0) hx hb dX6_learnParts_23 kic_0 ?_
  refine lv_istore_n (lv' := [(3, .int 0), (0, .ref o6), (1, .int (nI i9)), (2, .int (nI bs))]) hx hb dX6_learnParts_24 rfl hl (Nat.le_of_ble_eq_true rfl) rfl (fun ls hl => ?_)
  refine k_loop (σ := Nat × (Nat → Nat)) (fun x9 => [(o6, .inr (6, [.ref a6_0, .ref o5, .ref a6_2, .ref a6_3, .ref a6_4, .ref a6_5, .ref a6_6, .ref a6_7, .int (nI n6), .int v6_9])), (o5, .inr (5, [.ref a5_0, .ref a5_1, .ref a5_2, .ref a5_3, .ref a5_4, .ref a5_5, .ref a5_6])), (a5_1, .inl (c5_1, 120, .inl f5_1)), (a6_5, .inl (c6_5, 5, .inl (fun j => nI (x9.2 j)))), (a6_6, .inl (c6_6, 5, .inl (fun j => nI (pRoom bs j))))]) (fun x9 => [(0, .ref o6), (1, .int (nI i9)), (2, .int (nI bs)), (3, .int (nI x9.1))]) (fun n9 x9 => x9.1 ≤ n6 ∧ n9 = n6 - x9.1 ∧ ∀ p, p < 5 → x9.2 p = mOP (iP f5_1 i9) p x9.1) ?_ (n6 - 0) (0, (fun _ => 0)) ⟨by omega, rfl, fun _ _ => rfl⟩ h (lv_sub hl [1, 2, 3, 0] rfl)
  intro n9 x9 H locs ls hI h hl ih25
  obtain ⟨i, eP⟩ := x9
  have hI : i ≤ n6 ∧ n9 = n6 - i ∧ ∀ p, p < 5 → eP p = mOP (iP f5_1 i9) p i := hI
  have h : KS (dC, dI) A [(o6, .inr (6, [.ref a6_0, .ref o5, .ref a6_2, .ref a6_3, .ref a6_4, .ref a6_5, .ref a6_6, .ref a6_7, .int (nI n6), .int v6_9])), (o5, .inr (5, [.ref a5_0, .ref a5_1, .ref a5_2, .ref a5_3, .ref a5_4, .ref a5_5, .ref a5_6])), (a5_1, .inl (c5_1, 120, .inl f5_1)), (a6_5, .inl (c6_5, 5, .inl (fun j => nI (eP j)))), (a6_6, .inl (c6_6, 5, .inl (fun j => nI (pRoom bs j))))] [(c5_1, .int), (c6_5, .int), (c6_6, .int)] s H locs := h
  have hl : lv_has ls 4 [(0, .ref o6), (1, .int (nI i9)), (2, .int (nI bs)), (3, .int (nI i))] := hl
  obtain ⟨hi1, hi2, hi3⟩ := hI
  refine lv_iload_n hx hb dX6_learnParts_25 rfl (lv_at hl 3 rfl) ?_
  refine lv_aload_n hx hb dX6_learnParts_26 rfl (lv_at hl 0 rfl) ?_
  refine k_get (v := .int (nI n6)) E h (fun w h => List.mem_cons_of_mem _ (List.mem_append_left _ (List.mem_append_right _ h))) 0 rfl rfl 8 (Nat.le_of_ble_eq_true rfl) (List.mem_of_getElem? (i := 3) rfl) rfl dX6_learnParts_27 ?_
  refine lv_icmp_ge (tgt := 62) hx hb dX6_learnParts_30 rfl (fun c_3 => ?_) (fun c_3 => ?_)
  · skip
    have i_3 : n6 ≤ i := (nI_leI (a := n6) (b := i) (by omega) (by omega)).mp c_3
    have hP9 := h.2.1.sub [0, 1, 2, 3, 4] rfl
    have hD9 := h.2.2.1.sub (ws' := [(o6, .inr (6, [.ref a6_0, .ref o5, .ref a6_2, .ref a6_3, .ref a6_4, .ref a6_5, .ref a6_6, .ref a6_7, .int (nI n6), .int v6_9])), (o5, .inr (5, [.ref a5_0, .ref a5_1, .ref a5_2, .ref a5_3, .ref a5_4, .ref a5_5, .ref a5_6])), (a5_1, .inl (c5_1, 120, .inl f5_1)), (a6_5, .inl (c6_5, 5, .inl (fun j => nI (eP j)))), (a6_6, .inl (c6_6, 5, .inl (fun j => nI (pRoom bs j))))]) [0, 1, 2, 3, 4] (by decide) rfl
    exact W.vret hx hb hr (fun t ht hW => ⟨⟨eP, rfl, (by rw [show n6 = i by omega]; exact hi3), (by rw [ht]; exact hP9), hD9⟩, h.2.2.2.1.F ht⟩) h.2.2.2.1.2.2 dX6_learnParts_62 hlocks
  · skip
    have i_3 : ¬ n6 ≤ i := fun h9 => c_3 ((nI_leI (a := n6) (b := i) (by omega) (by omega)).mpr h9)
    refine lv_aload_n hx hb dX6_learnParts_33 rfl (lv_at hl 0 rfl) ?_
    refine k_get (v := .ref a6_5) E h (fun w h => List.mem_cons_of_mem _ (List.mem_append_left _ (List.mem_append_right _ h))) 0 rfl rfl 5 (Nat.le_of_ble_eq_true rfl) (List.mem_of_getElem? (i := 1) rfl) rfl dX6_learnParts_34 ?_
    refine lv_aload_n hx hb dX6_learnParts_37 rfl (lv_at hl 0 rfl) ?_
    refine k_get (v := .ref o5) E h (fun w h => List.mem_cons_of_mem _ (List.mem_append_left _ (List.mem_append_right _ h))) 0 rfl rfl 1 (Nat.le_of_ble_eq_true rfl) (List.mem_of_getElem? (i := 4) rfl) rfl dX6_learnParts_38 ?_
    refine lv_iload_n hx hb dX6_learnParts_41 rfl (lv_at hl 1 rfl) ?_
    refine lv_iload_n hx hb dX6_learnParts_42 rfl (lv_at hl 3 rfl) ?_
    refine kc_i (wc := []) (wr := [(o6, .inr (6, [.ref a6_0, .ref o5, .ref a6_2, .ref a6_3, .ref a6_4, .ref a6_5, .ref a6_6, .ref a6_7, .int (nI n6), .int v6_9])), (o5, .inr (5, [.ref a5_0, .ref a5_1, .ref a5_2, .ref a5_3, .ref a5_4, .ref a5_5, .ref a5_6])), (a5_1, .inl (c5_1, 120, .inl f5_1)), (a6_5, .inl (c6_5, 5, .inl (fun j => nI (eP j)))), (a6_6, .inl (c6_6, 5, .inl (fun j => nI (pRoom bs j))))]) h (va_runSN (As := [.int (nI i9), .int (nI i)]) (rest := [.ref o5, .ref a6_5]) E (c_slotN l dC dI _  (m9 := i9) (i9 := i) ) ⟨va_cnB 2 E.2.2.2.2 gX6_learnParts_X7_slot_n67 rfl rfl rfl hN6_67 (E.2.2.2.2 _ (List.mem_of_getElem? (i := 10) rfl)) (by decide +kernel) ⟨Nat.le_of_ble_eq_true rfl, Nat.le_of_ble_eq_true rfl⟩, E.2.2.2.2 _ (List.mem_of_getElem? (i := 9) rfl), trivial⟩ (kPreS h KX_true (fun _ _ _ => trivial) [] [] (by decide) rfl rfl) rfl rfl hl.1 rfl (lv_room (Nat.le_of_ble_eq_true rfl)) dX6_learnParts_43 ⟨Nat.le_of_ble_eq_true rfl, Nat.le_of_ble_eq_true rfl⟩) [] [0, 1, 2, 3, 4] rfl rfl (by decide) (by decide) (fun r_4 u_4 H locs hw_4 h => ?_)
    have h : KS (dC, dI) A [(o6, .inr (6, [.ref a6_0, .ref o5, .ref a6_2, .ref a6_3, .ref a6_4, .ref a6_5, .ref a6_6, .ref a6_7, .int (nI n6), .int v6_9])), (o5, .inr (5, [.ref a5_0, .ref a5_1, .ref a5_2, .ref a5_3, .ref a5_4, .ref a5_5, .ref a5_6])), (a5_1, .inl (c5_1, 120, .inl f5_1)), (a6_5, .inl (c6_5, 5, .inl (fun j => nI (eP j)))), (a6_6, .inl (c6_6, 5, .inl (fun j => nI (pRoom bs j))))] [(c5_1, .int), (c6_5, .int), (c6_6, .int)] s H locs := h
    have hw_4 : r_4 = nI (i9 * 10 + i) := by first | exact hw_4 | (simp only [Int32.toInt_toInt64] at hw_4; exact hw_4)
    refine k_topi (y := nI (i9 * 10 + i)) (hw_4) ?_
    refine W.eq (g2 := F0 m 46 ls [.int (nI (i9 * 10 + i)), .ref o5, .ref a6_5]) rfl ?_
    refine kc_i (wc := [(o5, .inr (5, [.ref a5_0, .ref a5_1, .ref a5_2, .ref a5_3, .ref a5_4, .ref a5_5, .ref a5_6])), (a5_1, .inl (c5_1, 120, .inl f5_1))]) (wr := [(o6, .inr (6, [.ref a6_0, .ref o5, .ref a6_2, .ref a6_3, .ref a6_4, .ref a6_5, .ref a6_6, .ref a6_7, .int (nI n6), .int v6_9])), (a6_5, .inl (c6_5, 5, .inl (fun j => nI (eP j)))), (a6_6, .inl (c6_6, 5, .inl (fun j => nI (pRoom bs j))))]) h (va_runV (As := [.int (nI (i9 * 10 + i))]) (rest := [.ref a6_5]) E (c_partN l dC dI _ (o5 := o5) (a5_0 := a5_0) (a5_1 := a5_1) (a5_2 := a5_2) (a5_3 := a5_3) (a5_4 := a5_4) (a5_5 := a5_5) (a5_6 := a5_6) (c5_1 := c5_1) (f5_1 := f5_1) (m9 := (i9 * 10 + i)) (hK := hK) (hp := (by omega))) (cwV 1 E.2.2.2.2 gX6_learnParts_X5_partOf rfl rfl rfl hdV_X5_partOf ⟨Nat.le_of_ble_eq_true rfl, Nat.le_of_ble_eq_true rfl⟩) (kPreV (q0 := 1) (ci := 5) (q := (RX5, TX5, 7)) h KAll.blind (KAll.call hX h [1, 2] rfl) [1, 2] [0] (by decide) rfl rfl rfl rfl) rfl rfl hl.1 rfl (lv_room (Nat.le_of_ble_eq_true rfl)) dX6_learnParts_46 ⟨Nat.le_of_ble_eq_true rfl, Nat.le_of_ble_eq_true rfl⟩) [1, 2] [0, 3, 4] rfl rfl (by decide) (by decide) (fun r_5 u_5 H locs hw_5 h => ?_)
    have h : KS (dC, dI) A [(o6, .inr (6, [.ref a6_0, .ref o5, .ref a6_2, .ref a6_3, .ref a6_4, .ref a6_5, .ref a6_6, .ref a6_7, .int (nI n6), .int v6_9])), (a6_5, .inl (c6_5, 5, .inl (fun j => nI (eP j)))), (a6_6, .inl (c6_6, 5, .inl (fun j => nI (pRoom bs j)))), (o5, .inr (5, [.ref a5_0, .ref a5_1, .ref a5_2, .ref a5_3, .ref a5_4, .ref a5_5, .ref a5_6])), (a5_1, .inl (c5_1, 120, .inl f5_1))] [(c5_1, .int), (c6_5, .int), (c6_6, .int)] s H locs := h
    have hw_5 : r_5 = nI (pN (f5_1 (i9 * 10 + i))) := by first | exact hw_5 | (simp only [Int32.toInt_toInt64] at hw_5; exact hw_5)
    refine k_topi (y := nI (pN (f5_1 (i9 * 10 + i)))) (hw_5) ?_
    have hp5 := pN_lt (hK (i9 * 10 + i) (by omega))
    refine W.eq (g2 := F0 m 49 ls [.int (nI (pN (f5_1 (i9 * 10 + i)))), .ref a6_5]) rfl ?_
    refine lv_dup2_11 hx hb dX6_learnParts_49 rfl rfl ?_
    refine k_iald (v := nI (eP (pN (f5_1 (i9 * 10 + i))))) E h 1 1 rfl rfl (vp_in_nI (by omega) (by omega)) (by rw [nI_clamp (by omega)]) dX6_learnParts_50 ?_
    refine lv_iconst (v := 1) hx hb dX6_learnParts_51 kic_1 ?_
    refine lv_iload_n hx hb dX6_learnParts_52 rfl (lv_at hl 3 rfl) ?_
    refine lv_ishl hx hb dX6_learnParts_53 ?_
    refine k_topi (y := nI (2 ^ i)) (mm_shl (by omega)) ?_
    refine lv_ior hx hb dX6_learnParts_54 ?_
    refine k_topi (y := nI ((eP (pN (f5_1 (i9 * 10 + i)))) ||| (2 ^ i))) (mm_or (eP (pN (f5_1 (i9 * 10 + i)))) (2 ^ i)) ?_
    refine k_iast (j := (pN (f5_1 (i9 * 10 + i)))) (ws' := [(o6, .inr (6, [.ref a6_0, .ref o5, .ref a6_2, .ref a6_3, .ref a6_4, .ref a6_5, .ref a6_6, .ref a6_7, .int (nI n6), .int v6_9])), (a6_5, .inl (c6_5, 5, .inl (upd (fun j => nI (eP j)) (pN (f5_1 (i9 * 10 + i))) (nI ((eP (pN (f5_1 (i9 * 10 + i)))) ||| (2 ^ i)))))), (a6_6, .inl (c6_6, 5, .inl (fun j => nI (pRoom bs j)))), (o5, .inr (5, [.ref a5_0, .ref a5_1, .ref a5_2, .ref a5_3, .ref a5_4, .ref a5_5, .ref a5_6])), (a5_1, .inl (c5_1, 120, .inl f5_1))]) E h 1 1 rfl rfl (vp_in_nI (by omega) (by omega)) (nI_clamp (by omega)) rfl dX6_learnParts_55 (fun H locs h => ?_)
    have h : KS (dC, dI) A [(o6, .inr (6, [.ref a6_0, .ref o5, .ref a6_2, .ref a6_3, .ref a6_4, .ref a6_5, .ref a6_6, .ref a6_7, .int (nI n6), .int v6_9])), (a6_5, .inl (c6_5, 5, .inl (fun j => nI ((mUpd eP (pN (f5_1 (i9 * 10 + i))) ((eP (pN (f5_1 (i9 * 10 + i)))) ||| (2 ^ i))) j)))), (a6_6, .inl (c6_6, 5, .inl (fun j => nI (pRoom bs j)))), (o5, .inr (5, [.ref a5_0, .ref a5_1, .ref a5_2, .ref a5_3, .ref a5_4, .ref a5_5, .ref a5_6])), (a5_1, .inl (c5_1, 120, .inl f5_1))] [(c5_1, .int), (c6_5, .int), (c6_6, .int)] s _ _ := k_cong 1 h rfl (fun j _ => mm_upd (X := eP) (k := (pN (f5_1 (i9 * 10 + i)))) (v := ((eP (pN (f5_1 (i9 * 10 + i)))) ||| (2 ^ i))) j) rfl
    refine lv_iinc (v := nI (i + 1)) (lv' := [(3, .int (nI (i + 1))), (0, .ref o6), (1, .int (nI i9)), (2, .int (nI bs))]) hx hb dX6_learnParts_56 hl (k := 3) rfl (nI_1 i) (by decide) rfl (fun ls hl => ?_)
    refine lv_goto (tgt := 25) hx hb dX6_learnParts_59 rfl ?_
    exact ih25 (n6 - (i + 1)) (i + 1, (mUpd eP (pN (f5_1 (i9 * 10 + i))) ((eP (pN (f5_1 (i9 * 10 + i)))) ||| (2 ^ i)))) _ _ _ (by omega) ⟨by omega, rfl, lp_step hi3 (iP_at (by omega)) hp5⟩ (k_perm h [0, 3, 4, 1, 2] (by decide) rfl rfl) (lv_sub hl [1, 2, 3, 0] rfl)
set_option maxHeartbeats 4000000 in
set_option maxRecDepth 100000 in
theorem c_X6_learnNeeds (l : Launch) (dC : Nat → ClassId) (dI : Nat → Nat → Nat) (sz : Nat) (o6 : Nat) (a6_0 : Nat) (o5 : Nat) (a6_2 : Nat) (a6_3 : Nat) (a6_4 : Nat) (a6_5 : Nat) (a6_6 : Nat) (a6_7 : Nat) (v6_9 : Int32) (a5_0 : Nat) (a5_1 : Nat) (a5_2 : Nat) (a5_3 : Nat) (a5_4 : Nat) (a5_5 : Nat) (a5_6 : Nat) (c5_1 : ClassId) (f5_1 : Nat → Int32) (c5_5 : ClassId) (f5_5 : Nat → Int32) (c5_6 : ClassId) (f5_6 : Nat → Int32) (c6_2 : ClassId) (f6_2 : Nat → Int32) (c6_3 : ClassId) (f6_3 : Nat → Int32) (c6_4 : ClassId) (f6_4 : Nat → Int32) (n6 : Nat) (i9 : Nat) (hn6 : n6 ≤ 10) (hp : i9 < 12) : Met l yX6_learnNeeds wsX6_learnNeeds ({ frames := 2, cells := 0, slots := 0, locals := 44 } : Room) (va_Pc [.ref o6, .int (nI i9)] (KPre (dC, dI) [(o6, .inr (6, [.ref a6_0, .ref o5, .ref a6_2, .ref a6_3, .ref a6_4, .ref a6_5, .ref a6_6, .ref a6_7, .int (nI n6), .int v6_9])), (o5, .inr (5, [.ref a5_0, .ref a5_1, .ref a5_2, .ref a5_3, .ref a5_4, .ref a5_5, .ref a5_6])), (a5_1, .inl (c5_1, 120, .inl f5_1)), (a5_5, .inl (c5_5, 120, .inl f5_5)), (a5_6, .inl (c5_6, 120, .inl f5_6)), (a6_2, .inl (c6_2, 10, .inl f6_2)), (a6_3, .inl (c6_3, 10, .inl f6_3)), (a6_4, .inl (c6_4, 10, .inl f6_4))] [(c5_1, .int), (c5_5, .int), (c5_6, .int), (c6_2, .int), (c6_3, .int), (c6_4, .int)] sz (fun U => KAll (va_A [(o6, .inr (6, [.ref a6_0, .ref o5, .ref a6_2, .ref a6_3, .ref a6_4, .ref a6_5, .ref a6_6, .ref a6_7, .int (nI n6), .int v6_9])), (o5, .inr (5, [.ref a5_0, .ref a5_1, .ref a5_2, .ref a5_3, .ref a5_4, .ref a5_5, .ref a5_6])), (a5_1, .inl (c5_1, 120, .inl f5_1)), (a5_5, .inl (c5_5, 120, .inl f5_5)), (a5_6, .inl (c5_6, 120, .inl f5_6)), (a6_2, .inl (c6_2, 10, .inl f6_2)), (a6_3, .inl (c6_3, 10, .inl f6_3)), (a6_4, .inl (c6_4, 10, .inl f6_4))] sz) U))) (va_Qv (fun (u : (Nat → Nat) × (Nat → Nat) × (Nat → Nat)) => NE (iN f5_1 f5_5 f5_6 i9) n6 0 0 2 u.1 ∧ NE (iN f5_1 f5_5 f5_6 i9) n6 0 0 1 u.2.1 ∧ WL (iN f5_1 f5_5 f5_6 i9) n6 0 u.2.2) (KPost (dC, dI) (va_A [(o6, .inr (6, [.ref a6_0, .ref o5, .ref a6_2, .ref a6_3, .ref a6_4, .ref a6_5, .ref a6_6, .ref a6_7, .int (nI n6), .int v6_9])), (o5, .inr (5, [.ref a5_0, .ref a5_1, .ref a5_2, .ref a5_3, .ref a5_4, .ref a5_5, .ref a5_6])), (a5_1, .inl (c5_1, 120, .inl f5_1)), (a5_5, .inl (c5_5, 120, .inl f5_5)), (a5_6, .inl (c5_6, 120, .inl f5_6)), (a6_2, .inl (c6_2, 10, .inl f6_2)), (a6_3, .inl (c6_3, 10, .inl f6_3)), (a6_4, .inl (c6_4, 10, .inl f6_4))] sz) (fun (u : (Nat → Nat) × (Nat → Nat) × (Nat → Nat)) => [(o6, .inr (6, [.ref a6_0, .ref o5, .ref a6_2, .ref a6_3, .ref a6_4, .ref a6_5, .ref a6_6, .ref a6_7, .int (nI n6), .int v6_9])), (o5, .inr (5, [.ref a5_0, .ref a5_1, .ref a5_2, .ref a5_3, .ref a5_4, .ref a5_5, .ref a5_6])), (a5_1, .inl (c5_1, 120, .inl f5_1)), (a5_5, .inl (c5_5, 120, .inl f5_5)), (a5_6, .inl (c5_6, 120, .inl f5_6)), (a6_2, .inl (c6_2, 10, .inl (fun j => nI (u.1 j)))), (a6_3, .inl (c6_3, 10, .inl (fun j => nI (u.2.1 j)))), (a6_4, .inl (c6_4, 10, .inl (fun j => nI (u.2.2 j))))])) (va_A [(o6, .inr (6, [.ref a6_0, .ref o5, .ref a6_2, .ref a6_3, .ref a6_4, .ref a6_5, .ref a6_6, .ref a6_7, .int (nI n6), .int v6_9])), (o5, .inr (5, [.ref a5_0, .ref a5_1, .ref a5_2, .ref a5_3, .ref a5_4, .ref a5_5, .ref a5_6])), (a5_1, .inl (c5_1, 120, .inl f5_1)), (a5_5, .inl (c5_5, 120, .inl f5_5)), (a5_6, .inl (c5_6, 120, .inl f5_6)), (a6_2, .inl (c6_2, 10, .inl f6_2)), (a6_3, .inl (c6_3, 10, .inl f6_3)), (a6_4, .inl (c6_4, 10, .inl f6_4))] sz)) 0 0 (va_A [(o6, .inr (6, [.ref a6_0, .ref o5, .ref a6_2, .ref a6_3, .ref a6_4, .ref a6_5, .ref a6_6, .ref a6_7, .int (nI n6), .int v6_9])), (o5, .inr (5, [.ref a5_0, .ref a5_1, .ref a5_2, .ref a5_3, .ref a5_4, .ref a5_5, .ref a5_6])), (a5_1, .inl (c5_1, 120, .inl f5_1)), (a5_5, .inl (c5_5, 120, .inl f5_5)), (a5_6, .inl (c5_6, 120, .inl f5_6)), (a6_2, .inl (c6_2, 10, .inl f6_2)), (a6_3, .inl (c6_3, 10, .inl f6_3)), (a6_4, .inl (c6_4, 10, .inl f6_4))] sz) := by
  refine kMet (y := yX6_learnNeeds) (wsM := wsX6_learnNeeds) (cc := cX6_learnNeeds) (maxL := 5) (ret := none) (rm := ({ frames := 2, cells := 0, slots := 0, locals := 44 } : Room)) (mc := 0) (ms := 0) (av := [.ref o6, .int (nI i9)]) (D := (dC, dI)) (wc := [(o6, .inr (6, [.ref a6_0, .ref o5, .ref a6_2, .ref a6_3, .ref a6_4, .ref a6_5, .ref a6_6, .ref a6_7, .int (nI n6), .int v6_9])), (o5, .inr (5, [.ref a5_0, .ref a5_1, .ref a5_2, .ref a5_3, .ref a5_4, .ref a5_5, .ref a5_6])), (a5_1, .inl (c5_1, 120, .inl f5_1)), (a5_5, .inl (c5_5, 120, .inl f5_5)), (a5_6, .inl (c5_6, 120, .inl f5_6)), (a6_2, .inl (c6_2, 10, .inl f6_2)), (a6_3, .inl (c6_3, 10, .inl f6_3)), (a6_4, .inl (c6_4, 10, .inl f6_4))]) (tc := [(c5_1, .int), (c5_5, .int), (c5_6, .int), (c6_2, .int), (c6_3, .int), (c6_4, .int)]) (sz := sz) (X := fun U => KAll (va_A [(o6, .inr (6, [.ref a6_0, .ref o5, .ref a6_2, .ref a6_3, .ref a6_4, .ref a6_5, .ref a6_6, .ref a6_7, .int (nI n6), .int v6_9])), (o5, .inr (5, [.ref a5_0, .ref a5_1, .ref a5_2, .ref a5_3, .ref a5_4, .ref a5_5, .ref a5_6])), (a5_1, .inl (c5_1, 120, .inl f5_1)), (a5_5, .inl (c5_5, 120, .inl f5_5)), (a5_6, .inl (c5_6, 120, .inl f5_6)), (a6_2, .inl (c6_2, 10, .inl f6_2)), (a6_3, .inl (c6_3, 10, .inl f6_3)), (a6_4, .inl (c6_4, 10, .inl f6_4))] sz) U) (Qc := fun A => va_Qv (fun (u : (Nat → Nat) × (Nat → Nat) × (Nat → Nat)) => NE (iN f5_1 f5_5 f5_6 i9) n6 0 0 2 u.1 ∧ NE (iN f5_1 f5_5 f5_6 i9) n6 0 0 1 u.2.1 ∧ WL (iN f5_1 f5_5 f5_6 i9) n6 0 u.2.2) (KPost (dC, dI) A (fun (u : (Nat → Nat) × (Nat → Nat) × (Nat → Nat)) => [(o6, .inr (6, [.ref a6_0, .ref o5, .ref a6_2, .ref a6_3, .ref a6_4, .ref a6_5, .ref a6_6, .ref a6_7, .int (nI n6), .int v6_9])), (o5, .inr (5, [.ref a5_0, .ref a5_1, .ref a5_2, .ref a5_3, .ref a5_4, .ref a5_5, .ref a5_6])), (a5_1, .inl (c5_1, 120, .inl f5_1)), (a5_5, .inl (c5_5, 120, .inl f5_5)), (a5_6, .inl (c5_6, 120, .inl f5_6)), (a6_2, .inl (c6_2, 10, .inl (fun j => nI (u.1 j)))), (a6_3, .inl (c6_3, 10, .inl (fun j => nI (u.2.1 j)))), (a6_4, .inl (c6_4, 10, .inl (fun j => nI (u.2.2 j))))])) A) (by decide) rfl (Nat.le_of_ble_eq_true rfl) ?_
  intro p e s m below meth c A ls E hr hlocks hnm hsz hAe hX h hl
  have hx := E.1
  have hb := E.2.1
  have hl : lv_has ls 5 [(0, .ref o6), (1, .int (nI i9))] := hl
  have hX : KAll A s := by rw [← hAe]; exact hX
  obtain ⟨⟨tD, hZD, hTD⟩, ⟨tX, hZX, hTX⟩, ⟨tY, hZY, hTY⟩, ⟨tP, hZP, hTP⟩, ⟨tL, hZL, hTL⟩, ⟨tM, hZM, hTM⟩, hN0_134, hN0_60, hN0_96, hN1_83, hN1_87, hN3_49, hN3_52, hN4_44, hN4_69, hN5_33, hN6_102, hN6_67, hF37, hF40, hF50, hF53⟩ := id hX
  refine lv_aload_n hx hb dX6_learnNeeds_0 rfl (lv_at hl 0 rfl) ?_
  refine k_get (v := .ref a6_2) E h (fun w h => List.mem_cons_of_mem _ (List.mem_append_left _ (List.mem_append_right _ h))) 0 rfl rfl 2 (Nat.le_of_ble_eq_true rfl) (List.mem_of_getElem? (i := 1) rfl) rfl dX6_learnNeeds_1 ?_
  refine lv_iconst (v := 0) hx hb dX6_learnNeeds_4 kic_0 ?_
  refine kc_v (wc := [(a6_2, .inl (c6_2, 10, .inl f6_2))]) (wr := [(o6, .inr (6, [.ref a6_0, .ref o5, .ref a6_2, .ref a6_3, .ref a6_4, .ref a6_5, .ref a6_6, .ref a6_7, .int (nI n6), .int v6_9])), (o5, .inr (5, [.ref a5_0, .ref a5_1, .ref a5_2, .ref a5_3, .ref a5_4, .ref a5_5, .ref a5_6])), (a5_1, .inl (c5_1, 120, .inl f5_1)), (a5_5, .inl (c5_5, 120, .inl f5_5)), (a5_6, .inl (c5_6, 120, .inl f5_6)), (a6_3, .inl (c6_3, 10, .inl f6_3)), (a6_4, .inl (c6_4, 10, .inl f6_4))]) h (va_runS (As := [.ref a6_2, .int 0]) (rest := []) E (c_J7_fill_53178 l dC dI _ (a9_0 := a6_2) (c9_0 := c6_2) (n9_0 := 10) (f9_0 := f6_2) (p1 := 0)  (hn := (by decide))) (va_cwS 2 E.2.2.2.2 gX6_learnNeeds_J7_fill_53178 rfl rfl rfl hdS_J7_fill_53178 ⟨Nat.le_of_ble_eq_true rfl, Nat.le_of_ble_eq_true rfl⟩) (kPreS h KX_true (fun _ _ _ => trivial) [5] [3] (by decide) rfl rfl) rfl rfl hl.1 rfl (lv_room (Nat.le_of_ble_eq_true rfl)) dX6_learnNeeds_5 ⟨Nat.le_of_ble_eq_true rfl, Nat.le_of_ble_eq_true rfl⟩) [5] [0, 1, 2, 3, 4, 6, 7] rfl rfl (by decide +kernel) (by decide +kernel) (fun u_1 H locs hw_1 h => ?_)
  have h : KS (dC, dI) A [(o6, .inr (6, [.ref a6_0, .ref o5, .ref a6_2, .ref a6_3, .ref a6_4, .ref a6_5, .ref a6_6, .ref a6_7, .int (nI n6), .int v6_9])), (o5, .inr (5, [.ref a5_0, .ref a5_1, .ref a5_2, .ref a5_3, .ref a5_4, .ref a5_5, .ref a5_6])), (a5_1, .inl (c5_1, 120, .inl f5_1)), (a5_5, .inl (c5_5, 120, .inl f5_5)), (a5_6, .inl (c5_6, 120, .inl f5_6)), (a6_3, .inl (c6_3, 10, .inl f6_3)), (a6_4, .inl (c6_4, 10, .inl f6_4)), (a6_2, .inl (c6_2, 10, .inl (fun _ => (0 : Int32))))] [(c5_1, .int), (c5_5, .int), (c5_6, .int), (c6_2, .int), (c6_3, .int), (c6_4, .int)] s H locs := h
  refine W.eq (g2 := F0 m 8 ls []) rfl ?_
  refine lv_aload_n hx hb dX6_learnNeeds_8 rfl (lv_at hl 0 rfl) ?_
  refine k_get (v := .ref a6_3) E h (fun w h => List.mem_cons_of_mem _ (List.mem_append_left _ (List.mem_append_right _ h))) 0 rfl rfl 3 (Nat.le_of_ble_eq_true rfl) (List.mem_of_getElem? (i := 2) rfl) rfl dX6_learnNeeds_9 ?_
  refine lv_iconst (v := 0) hx hb dX6_learnNeeds_12 kic_0 ?_
  refine kc_v (wc := [(a6_3, .inl (c6_3, 10, .inl f6_3))]) (wr := [(o6, .inr (6, [.ref a6_0, .ref o5, .ref a6_2, .ref a6_3, .ref a6_4, .ref a6_5, .ref a6_6, .ref a6_7, .int (nI n6), .int v6_9])), (o5, .inr (5, [.ref a5_0, .ref a5_1, .ref a5_2, .ref a5_3, .ref a5_4, .ref a5_5, .ref a5_6])), (a5_1, .inl (c5_1, 120, .inl f5_1)), (a5_5, .inl (c5_5, 120, .inl f5_5)), (a5_6, .inl (c5_6, 120, .inl f5_6)), (a6_4, .inl (c6_4, 10, .inl f6_4)), (a6_2, .inl (c6_2, 10, .inl (fun _ => (0 : Int32))))]) h (va_runS (As := [.ref a6_3, .int 0]) (rest := []) E (c_J7_fill_53178 l dC dI _ (a9_0 := a6_3) (c9_0 := c6_3) (n9_0 := 10) (f9_0 := f6_3) (p1 := 0)  (hn := (by decide))) (va_cwS 2 E.2.2.2.2 gX6_learnNeeds_J7_fill_53178 rfl rfl rfl hdS_J7_fill_53178 ⟨Nat.le_of_ble_eq_true rfl, Nat.le_of_ble_eq_true rfl⟩) (kPreS h KX_true (fun _ _ _ => trivial) [5] [4] (by decide) rfl rfl) rfl rfl hl.1 rfl (lv_room (Nat.le_of_ble_eq_true rfl)) dX6_learnNeeds_13 ⟨Nat.le_of_ble_eq_true rfl, Nat.le_of_ble_eq_true rfl⟩) [5] [0, 1, 2, 3, 4, 6, 7] rfl rfl (by decide +kernel) (by decide +kernel) (fun u_2 H locs hw_2 h => ?_)
  have h : KS (dC, dI) A [(o6, .inr (6, [.ref a6_0, .ref o5, .ref a6_2, .ref a6_3, .ref a6_4, .ref a6_5, .ref a6_6, .ref a6_7, .int (nI n6), .int v6_9])), (o5, .inr (5, [.ref a5_0, .ref a5_1, .ref a5_2, .ref a5_3, .ref a5_4, .ref a5_5, .ref a5_6])), (a5_1, .inl (c5_1, 120, .inl f5_1)), (a5_5, .inl (c5_5, 120, .inl f5_5)), (a5_6, .inl (c5_6, 120, .inl f5_6)), (a6_4, .inl (c6_4, 10, .inl f6_4)), (a6_2, .inl (c6_2, 10, .inl (fun _ => (0 : Int32)))), (a6_3, .inl (c6_3, 10, .inl (fun _ => (0 : Int32))))] [(c5_1, .int), (c5_5, .int), (c5_6, .int), (c6_2, .int), (c6_3, .int), (c6_4, .int)] s H locs := h
  refine W.eq (g2 := F0 m 16 ls []) rfl ?_
  refine lv_aload_n hx hb dX6_learnNeeds_16 rfl (lv_at hl 0 rfl) ?_
  refine k_get (v := .ref a6_4) E h (fun w h => List.mem_cons_of_mem _ (List.mem_append_left _ (List.mem_append_right _ h))) 0 rfl rfl 4 (Nat.le_of_ble_eq_true rfl) (List.mem_of_getElem? (i := 3) rfl) rfl dX6_learnNeeds_17 ?_
  refine lv_iconst (v := 0) hx hb dX6_learnNeeds_20 kic_0 ?_
  refine kc_v (wc := [(a6_4, .inl (c6_4, 10, .inl f6_4))]) (wr := [(o6, .inr (6, [.ref a6_0, .ref o5, .ref a6_2, .ref a6_3, .ref a6_4, .ref a6_5, .ref a6_6, .ref a6_7, .int (nI n6), .int v6_9])), (o5, .inr (5, [.ref a5_0, .ref a5_1, .ref a5_2, .ref a5_3, .ref a5_4, .ref a5_5, .ref a5_6])), (a5_1, .inl (c5_1, 120, .inl f5_1)), (a5_5, .inl (c5_5, 120, .inl f5_5)), (a5_6, .inl (c5_6, 120, .inl f5_6)), (a6_2, .inl (c6_2, 10, .inl (fun _ => (0 : Int32)))), (a6_3, .inl (c6_3, 10, .inl (fun _ => (0 : Int32))))]) h (va_runS (As := [.ref a6_4, .int 0]) (rest := []) E (c_J7_fill_53178 l dC dI _ (a9_0 := a6_4) (c9_0 := c6_4) (n9_0 := 10) (f9_0 := f6_4) (p1 := 0)  (hn := (by decide))) (va_cwS 2 E.2.2.2.2 gX6_learnNeeds_J7_fill_53178 rfl rfl rfl hdS_J7_fill_53178 ⟨Nat.le_of_ble_eq_true rfl, Nat.le_of_ble_eq_true rfl⟩) (kPreS h KX_true (fun _ _ _ => trivial) [5] [5] (by decide) rfl rfl) rfl rfl hl.1 rfl (lv_room (Nat.le_of_ble_eq_true rfl)) dX6_learnNeeds_21 ⟨Nat.le_of_ble_eq_true rfl, Nat.le_of_ble_eq_true rfl⟩) [5] [0, 1, 2, 3, 4, 6, 7] rfl rfl (by decide +kernel) (by decide +kernel) (fun u_3 H locs hw_3 h => ?_)
  have h : KS (dC, dI) A [(o6, .inr (6, [.ref a6_0, .ref o5, .ref a6_2, .ref a6_3, .ref a6_4, .ref a6_5, .ref a6_6, .ref a6_7, .int (nI n6), .int v6_9])), (o5, .inr (5, [.ref a5_0, .ref a5_1, .ref a5_2, .ref a5_3, .ref a5_4, .ref a5_5, .ref a5_6])), (a5_1, .inl (c5_1, 120, .inl f5_1)), (a5_5, .inl (c5_5, 120, .inl f5_5)), (a5_6, .inl (c5_6, 120, .inl f5_6)), (a6_2, .inl (c6_2, 10, .inl (fun _ => (0 : Int32)))), (a6_3, .inl (c6_3, 10, .inl (fun _ => (0 : Int32)))), (a6_4, .inl (c6_4, 10, .inl (fun _ => (0 : Int32))))] [(c5_1, .int), (c5_5, .int), (c5_6, .int), (c6_2, .int), (c6_3, .int), (c6_4, .int)] s H locs := h
  refine W.eq (g2 := F0 m 24 ls []) rfl ?_
  refine lv_aload_n hx hb dX6_learnNeeds_24 rfl (lv_at hl 0 rfl) ?_
  refine k_get (v := .int (nI n6)) E h (fun w h => List.mem_cons_of_mem _ (List.mem_append_left _ (List.mem_append_right _ h))) 0 rfl rfl 8 (Nat.le_of_ble_eq_true rfl) (List.mem_of_getElem? (i := 4) rfl) rfl dX6_learnNeeds_25 ?_
  refine lv_iconst (v := 1) hx hb dX6_learnNeeds_28 kic_1 ?_
  refine lv_isub hx hb dX6_learnNeeds_29 ?_
  refine lv_istore_n (lv' := [(2, .int ((nI n6) - 1)), (0, .ref o6), (1, .int (nI i9))]) hx hb dX6_learnNeeds_30 rfl hl (Nat.le_of_ble_eq_true rfl) rfl (fun ls hl => ?_)
  refine k_loop (σ := Nat × (Nat → Nat) × (Nat → Nat) × (Nat → Nat)) (fun x9 => [(o6, .inr (6, [.ref a6_0, .ref o5, .ref a6_2, .ref a6_3, .ref a6_4, .ref a6_5, .ref a6_6, .ref a6_7, .int (nI n6), .int v6_9])), (o5, .inr (5, [.ref a5_0, .ref a5_1, .ref a5_2, .ref a5_3, .ref a5_4, .ref a5_5, .ref a5_6])), (a5_1, .inl (c5_1, 120, .inl f5_1)), (a5_5, .inl (c5_5, 120, .inl f5_5)), (a5_6, .inl (c5_6, 120, .inl f5_6)), (a6_2, .inl (c6_2, 10, .inl (fun j => nI (x9.2.1 j)))), (a6_3, .inl (c6_3, 10, .inl (fun j => nI (x9.2.2.1 j)))), (a6_4, .inl (c6_4, 10, .inl (fun j => nI (x9.2.2.2 j))))]) (fun x9 => [(0, .ref o6), (1, .int (nI i9)), (2, .int ((nI x9.1) - 1))]) (fun n9 x9 => x9.1 ≤ n6 ∧ n9 = x9.1 ∧ NE (iN f5_1 f5_5 f5_6 i9) n6 x9.1 0 2 x9.2.1 ∧ NE (iN f5_1 f5_5 f5_6 i9) n6 x9.1 0 1 x9.2.2.1 ∧ WL (iN f5_1 f5_5 f5_6 i9) n6 x9.1 x9.2.2.2) ?_ n6 (n6, (fun _ => 0), (fun _ => 0), (fun _ => 0)) ⟨Nat.le_refl _, rfl, NE_0 _ _ _, NE_0 _ _ _, WL_0 _ _⟩ h (lv_sub hl [1, 2, 0] rfl)
  intro n9 x9 H locs ls hI h hl ih31
  obtain ⟨a1, eE, eB, eW⟩ := x9
  have hI : a1 ≤ n6 ∧ n9 = a1 ∧ NE (iN f5_1 f5_5 f5_6 i9) n6 a1 0 2 eE ∧ NE (iN f5_1 f5_5 f5_6 i9) n6 a1 0 1 eB ∧ WL (iN f5_1 f5_5 f5_6 i9) n6 a1 eW := hI
  have h : KS (dC, dI) A [(o6, .inr (6, [.ref a6_0, .ref o5, .ref a6_2, .ref a6_3, .ref a6_4, .ref a6_5, .ref a6_6, .ref a6_7, .int (nI n6), .int v6_9])), (o5, .inr (5, [.ref a5_0, .ref a5_1, .ref a5_2, .ref a5_3, .ref a5_4, .ref a5_5, .ref a5_6])), (a5_1, .inl (c5_1, 120, .inl f5_1)), (a5_5, .inl (c5_5, 120, .inl f5_5)), (a5_6, .inl (c5_6, 120, .inl f5_6)), (a6_2, .inl (c6_2, 10, .inl (fun j => nI (eE j)))), (a6_3, .inl (c6_3, 10, .inl (fun j => nI (eB j)))), (a6_4, .inl (c6_4, 10, .inl (fun j => nI (eW j))))] [(c5_1, .int), (c5_5, .int), (c5_6, .int), (c6_2, .int), (c6_3, .int), (c6_4, .int)] s H locs := h
  have hl : lv_has ls 5 [(0, .ref o6), (1, .int (nI i9)), (2, .int ((nI a1) - 1))] := hl
  obtain ⟨ho1, ho2, ho3, ho4, ho5⟩ := hI
  have ed := mm_dn (a := a1) (by omega)
  refine lv_iload_n hx hb dX6_learnNeeds_31 rfl (lv_at hl 2 rfl) ?_
  refine lv_if_lt (tgt := 161) hx hb dX6_learnNeeds_32 rfl (fun c_4 => ?_) (fun c_4 => ?_)
  · skip
    have i_4 : ((nI a1) - 1).toInt < 0 := (fa_lt _ _).mp c_4
    have hP9 := h.2.1.sub [0, 1, 2, 3, 4, 5, 6, 7] rfl
    have hD9 := h.2.2.1.sub (ws' := [(o6, .inr (6, [.ref a6_0, .ref o5, .ref a6_2, .ref a6_3, .ref a6_4, .ref a6_5, .ref a6_6, .ref a6_7, .int (nI n6), .int v6_9])), (o5, .inr (5, [.ref a5_0, .ref a5_1, .ref a5_2, .ref a5_3, .ref a5_4, .ref a5_5, .ref a5_6])), (a5_1, .inl (c5_1, 120, .inl f5_1)), (a5_5, .inl (c5_5, 120, .inl f5_5)), (a5_6, .inl (c5_6, 120, .inl f5_6)), (a6_2, .inl (c6_2, 10, .inl (fun j => nI (eE j)))), (a6_3, .inl (c6_3, 10, .inl (fun j => nI (eB j)))), (a6_4, .inl (c6_4, 10, .inl (fun j => nI (eW j))))]) [0, 1, 2, 3, 4, 5, 6, 7] (by decide +kernel) rfl
    exact W.vret hx hb hr (fun t ht hW => ⟨⟨(eE, eB, eW), rfl, (by have e9 : a1 = 0 := (by omega); subst e9; exact ⟨ho3, ho4, ho5⟩), (by rw [ht]; exact hP9), hD9⟩, h.2.2.2.1.F ht⟩) h.2.2.2.1.2.2 dX6_learnNeeds_161 hlocks
  · skip
    have i_4 : ¬ ((nI a1) - 1).toInt < 0 := fun h9 => c_4 ((fa_lt _ _).mpr h9)
    obtain ⟨a, rfl⟩ : ∃ a, a1 = a + 1 := ⟨a1 - 1, by omega⟩
    have hl : lv_has ls 5 [(0, .ref o6), (1, .int (nI i9)), (2, .int (nI a))] := by rw [nI_pred] at hl; exact hl
    refine lv_iload_n hx hb dX6_learnNeeds_35 rfl (lv_at hl 2 rfl) ?_
    refine lv_iconst (v := 1) hx hb dX6_learnNeeds_36 kic_1 ?_
    refine lv_iadd hx hb dX6_learnNeeds_37 ?_
    refine k_topi (y := nI (a + 1)) (nI_add a 1) ?_
    refine lv_istore_n (lv' := [(3, .int (nI (a + 1))), (0, .ref o6), (1, .int (nI i9)), (2, .int (nI a))]) hx hb dX6_learnNeeds_38 rfl hl (Nat.le_of_ble_eq_true rfl) rfl (fun ls hl => ?_)
    refine k_loop (σ := Nat × (Nat → Nat) × (Nat → Nat) × (Nat → Nat)) (fun x9 => [(o6, .inr (6, [.ref a6_0, .ref o5, .ref a6_2, .ref a6_3, .ref a6_4, .ref a6_5, .ref a6_6, .ref a6_7, .int (nI n6), .int v6_9])), (o5, .inr (5, [.ref a5_0, .ref a5_1, .ref a5_2, .ref a5_3, .ref a5_4, .ref a5_5, .ref a5_6])), (a5_1, .inl (c5_1, 120, .inl f5_1)), (a5_5, .inl (c5_5, 120, .inl f5_5)), (a5_6, .inl (c5_6, 120, .inl f5_6)), (a6_2, .inl (c6_2, 10, .inl (fun j => nI (x9.2.1 j)))), (a6_3, .inl (c6_3, 10, .inl (fun j => nI (x9.2.2.1 j)))), (a6_4, .inl (c6_4, 10, .inl (fun j => nI (x9.2.2.2 j))))]) (fun x9 => [(0, .ref o6), (1, .int (nI i9)), (2, .int (nI a)), (3, .int (nI x9.1))]) (fun n9 x9 => x9.1 ≤ n6 ∧ n9 = n6 - x9.1 ∧ a + 1 ≤ x9.1 ∧ NE (iN f5_1 f5_5 f5_6 i9) n6 (a + 1) x9.1 2 x9.2.1 ∧ NE (iN f5_1 f5_5 f5_6 i9) n6 (a + 1) x9.1 1 x9.2.2.1 ∧ WL (iN f5_1 f5_5 f5_6 i9) n6 a x9.2.2.2) ?_ (n6 - (a + 1)) ((a + 1), eE, eB, eW) ⟨by omega, rfl, Nat.le_refl _, NE_in ho3, NE_in ho4, WL_in ho5 (by omega)⟩ h (lv_sub hl [1, 2, 3, 0] rfl)
    intro n9 x9 H locs ls hI h hl ih39
    obtain ⟨b, eE, eB, eW⟩ := x9
    have hI : b ≤ n6 ∧ n9 = n6 - b ∧ a + 1 ≤ b ∧ NE (iN f5_1 f5_5 f5_6 i9) n6 (a + 1) b 2 eE ∧ NE (iN f5_1 f5_5 f5_6 i9) n6 (a + 1) b 1 eB ∧ WL (iN f5_1 f5_5 f5_6 i9) n6 a eW := hI
    have h : KS (dC, dI) A [(o6, .inr (6, [.ref a6_0, .ref o5, .ref a6_2, .ref a6_3, .ref a6_4, .ref a6_5, .ref a6_6, .ref a6_7, .int (nI n6), .int v6_9])), (o5, .inr (5, [.ref a5_0, .ref a5_1, .ref a5_2, .ref a5_3, .ref a5_4, .ref a5_5, .ref a5_6])), (a5_1, .inl (c5_1, 120, .inl f5_1)), (a5_5, .inl (c5_5, 120, .inl f5_5)), (a5_6, .inl (c5_6, 120, .inl f5_6)), (a6_2, .inl (c6_2, 10, .inl (fun j => nI (eE j)))), (a6_3, .inl (c6_3, 10, .inl (fun j => nI (eB j)))), (a6_4, .inl (c6_4, 10, .inl (fun j => nI (eW j))))] [(c5_1, .int), (c5_5, .int), (c5_6, .int), (c6_2, .int), (c6_3, .int), (c6_4, .int)] s H locs := h
    have hl : lv_has ls 5 [(0, .ref o6), (1, .int (nI i9)), (2, .int (nI a)), (3, .int (nI b))] := hl
    obtain ⟨hb1, hb2, hab, hE, hB, hWL⟩ := hI
    have hwa := (hWL.2 a (Nat.le_refl a) (by omega)).1
    refine lv_iload_n hx hb dX6_learnNeeds_39 rfl (lv_at hl 3 rfl) ?_
    refine lv_aload_n hx hb dX6_learnNeeds_40 rfl (lv_at hl 0 rfl) ?_
    refine k_get (v := .int (nI n6)) E h (fun w h => List.mem_cons_of_mem _ (List.mem_append_left _ (List.mem_append_right _ h))) 0 rfl rfl 8 (Nat.le_of_ble_eq_true rfl) (List.mem_of_getElem? (i := 4) rfl) rfl dX6_learnNeeds_41 ?_
    refine lv_icmp_ge (tgt := 155) hx hb dX6_learnNeeds_44 rfl (fun c_5 => ?_) (fun c_5 => ?_)
    · skip
      have i_5 : n6 ≤ b := (nI_leI (a := n6) (b := b) (by omega) (by omega)).mp c_5
      refine lv_iinc (v := (nI a) - 1) (lv' := [(2, .int ((nI a) - 1)), (0, .ref o6), (1, .int (nI i9)), (3, .int (nI b))]) hx hb dX6_learnNeeds_155 hl (k := 2) rfl (mm_m1 _) (by decide) rfl (fun ls hl => ?_)
      refine lv_goto (tgt := 31) hx hb dX6_learnNeeds_158 rfl ?_
      exact ih31 a (a, eE, eB, eW) _ _ _ (by omega) ⟨by omega, rfl, NE_out hE (by omega), NE_out hB (by omega), hWL⟩ h (lv_sub hl [1, 2, 0] rfl)
    · skip
      have i_5 : ¬ n6 ≤ b := fun h9 => c_5 ((nI_leI (a := n6) (b := b) (by omega) (by omega)).mpr h9)
      refine lv_aload_n hx hb dX6_learnNeeds_47 rfl (lv_at hl 0 rfl) ?_
      refine k_get (v := .ref o5) E h (fun w h => List.mem_cons_of_mem _ (List.mem_append_left _ (List.mem_append_right _ h))) 0 rfl rfl 1 (Nat.le_of_ble_eq_true rfl) (List.mem_of_getElem? (i := 5) rfl) rfl dX6_learnNeeds_48 ?_
      refine lv_iload_n hx hb dX6_learnNeeds_51 rfl (lv_at hl 1 rfl) ?_
      refine lv_iload_n hx hb dX6_learnNeeds_52 rfl (lv_at hl 2 rfl) ?_
      refine kc_i (wc := []) (wr := [(o6, .inr (6, [.ref a6_0, .ref o5, .ref a6_2, .ref a6_3, .ref a6_4, .ref a6_5, .ref a6_6, .ref a6_7, .int (nI n6), .int v6_9])), (o5, .inr (5, [.ref a5_0, .ref a5_1, .ref a5_2, .ref a5_3, .ref a5_4, .ref a5_5, .ref a5_6])), (a5_1, .inl (c5_1, 120, .inl f5_1)), (a5_5, .inl (c5_5, 120, .inl f5_5)), (a5_6, .inl (c5_6, 120, .inl f5_6)), (a6_2, .inl (c6_2, 10, .inl (fun j => nI (eE j)))), (a6_3, .inl (c6_3, 10, .inl (fun j => nI (eB j)))), (a6_4, .inl (c6_4, 10, .inl (fun j => nI (eW j))))]) h (va_runSN (As := [.int (nI i9), .int (nI a)]) (rest := [.ref o5]) E (c_slotN l dC dI _  (m9 := i9) (i9 := a) ) ⟨va_cnB 2 E.2.2.2.2 gX6_learnNeeds_X7_slot_n67 rfl rfl rfl hN6_67 (E.2.2.2.2 _ (List.mem_of_getElem? (i := 15) rfl)) (by decide +kernel) ⟨Nat.le_of_ble_eq_true rfl, Nat.le_of_ble_eq_true rfl⟩, E.2.2.2.2 _ (List.mem_of_getElem? (i := 14) rfl), trivial⟩ (kPreS h KX_true (fun _ _ _ => trivial) [] [] (by decide) rfl rfl) rfl rfl hl.1 rfl (lv_room (Nat.le_of_ble_eq_true rfl)) dX6_learnNeeds_53 ⟨Nat.le_of_ble_eq_true rfl, Nat.le_of_ble_eq_true rfl⟩) [] [0, 1, 2, 3, 4, 5, 6, 7] rfl rfl (by decide +kernel) (by decide +kernel) (fun r_6 u_6 H locs hw_6 h => ?_)
      have h : KS (dC, dI) A [(o6, .inr (6, [.ref a6_0, .ref o5, .ref a6_2, .ref a6_3, .ref a6_4, .ref a6_5, .ref a6_6, .ref a6_7, .int (nI n6), .int v6_9])), (o5, .inr (5, [.ref a5_0, .ref a5_1, .ref a5_2, .ref a5_3, .ref a5_4, .ref a5_5, .ref a5_6])), (a5_1, .inl (c5_1, 120, .inl f5_1)), (a5_5, .inl (c5_5, 120, .inl f5_5)), (a5_6, .inl (c5_6, 120, .inl f5_6)), (a6_2, .inl (c6_2, 10, .inl (fun j => nI (eE j)))), (a6_3, .inl (c6_3, 10, .inl (fun j => nI (eB j)))), (a6_4, .inl (c6_4, 10, .inl (fun j => nI (eW j))))] [(c5_1, .int), (c5_5, .int), (c5_6, .int), (c6_2, .int), (c6_3, .int), (c6_4, .int)] s H locs := h
      have hw_6 : r_6 = nI (i9 * 10 + a) := by first | exact hw_6 | (simp only [Int32.toInt_toInt64] at hw_6; exact hw_6)
      refine k_topi (y := nI (i9 * 10 + a)) (hw_6) ?_
      refine W.eq (g2 := F0 m 56 ls [.int (nI (i9 * 10 + a)), .ref o5]) rfl ?_
      refine lv_iload_n hx hb dX6_learnNeeds_56 rfl (lv_at hl 1 rfl) ?_
      refine lv_iload_n hx hb dX6_learnNeeds_57 rfl (lv_at hl 3 rfl) ?_
      refine kc_i (wc := []) (wr := [(o6, .inr (6, [.ref a6_0, .ref o5, .ref a6_2, .ref a6_3, .ref a6_4, .ref a6_5, .ref a6_6, .ref a6_7, .int (nI n6), .int v6_9])), (o5, .inr (5, [.ref a5_0, .ref a5_1, .ref a5_2, .ref a5_3, .ref a5_4, .ref a5_5, .ref a5_6])), (a5_1, .inl (c5_1, 120, .inl f5_1)), (a5_5, .inl (c5_5, 120, .inl f5_5)), (a5_6, .inl (c5_6, 120, .inl f5_6)), (a6_2, .inl (c6_2, 10, .inl (fun j => nI (eE j)))), (a6_3, .inl (c6_3, 10, .inl (fun j => nI (eB j)))), (a6_4, .inl (c6_4, 10, .inl (fun j => nI (eW j))))]) h (va_runSN (As := [.int (nI i9), .int (nI b)]) (rest := [.int (nI (i9 * 10 + a)), .ref o5]) E (c_slotN l dC dI _  (m9 := i9) (i9 := b) ) ⟨va_cnB 2 E.2.2.2.2 gX6_learnNeeds_X7_slot_n67 rfl rfl rfl hN6_67 (E.2.2.2.2 _ (List.mem_of_getElem? (i := 15) rfl)) (by decide +kernel) ⟨Nat.le_of_ble_eq_true rfl, Nat.le_of_ble_eq_true rfl⟩, E.2.2.2.2 _ (List.mem_of_getElem? (i := 14) rfl), trivial⟩ (kPreS h KX_true (fun _ _ _ => trivial) [] [] (by decide) rfl rfl) rfl rfl hl.1 rfl (lv_room (Nat.le_of_ble_eq_true rfl)) dX6_learnNeeds_58 ⟨Nat.le_of_ble_eq_true rfl, Nat.le_of_ble_eq_true rfl⟩) [] [0, 1, 2, 3, 4, 5, 6, 7] rfl rfl (by decide +kernel) (by decide +kernel) (fun r_7 u_7 H locs hw_7 h => ?_)
      have h : KS (dC, dI) A [(o6, .inr (6, [.ref a6_0, .ref o5, .ref a6_2, .ref a6_3, .ref a6_4, .ref a6_5, .ref a6_6, .ref a6_7, .int (nI n6), .int v6_9])), (o5, .inr (5, [.ref a5_0, .ref a5_1, .ref a5_2, .ref a5_3, .ref a5_4, .ref a5_5, .ref a5_6])), (a5_1, .inl (c5_1, 120, .inl f5_1)), (a5_5, .inl (c5_5, 120, .inl f5_5)), (a5_6, .inl (c5_6, 120, .inl f5_6)), (a6_2, .inl (c6_2, 10, .inl (fun j => nI (eE j)))), (a6_3, .inl (c6_3, 10, .inl (fun j => nI (eB j)))), (a6_4, .inl (c6_4, 10, .inl (fun j => nI (eW j))))] [(c5_1, .int), (c5_5, .int), (c5_6, .int), (c6_2, .int), (c6_3, .int), (c6_4, .int)] s H locs := h
      have hw_7 : r_7 = nI (i9 * 10 + b) := by first | exact hw_7 | (simp only [Int32.toInt_toInt64] at hw_7; exact hw_7)
      refine k_topi (y := nI (i9 * 10 + b)) (hw_7) ?_
      refine W.eq (g2 := F0 m 61 ls [.int (nI (i9 * 10 + b)), .int (nI (i9 * 10 + a)), .ref o5]) rfl ?_
      refine kc_i (wc := [(o5, .inr (5, [.ref a5_0, .ref a5_1, .ref a5_2, .ref a5_3, .ref a5_4, .ref a5_5, .ref a5_6])), (a5_1, .inl (c5_1, 120, .inl f5_1)), (a5_5, .inl (c5_5, 120, .inl f5_5)), (a5_6, .inl (c5_6, 120, .inl f5_6))]) (wr := [(o6, .inr (6, [.ref a6_0, .ref o5, .ref a6_2, .ref a6_3, .ref a6_4, .ref a6_5, .ref a6_6, .ref a6_7, .int (nI n6), .int v6_9])), (a6_2, .inl (c6_2, 10, .inl (fun j => nI (eE j)))), (a6_3, .inl (c6_3, 10, .inl (fun j => nI (eB j)))), (a6_4, .inl (c6_4, 10, .inl (fun j => nI (eW j))))]) h (va_runV (As := [.int (nI (i9 * 10 + a)), .int (nI (i9 * 10 + b))]) (rest := []) E (c_needN l dC dI _ (o5 := o5) (a5_0 := a5_0) (a5_1 := a5_1) (a5_2 := a5_2) (a5_3 := a5_3) (a5_4 := a5_4) (a5_5 := a5_5) (a5_6 := a5_6) (c5_1 := c5_1) (f5_1 := f5_1) (c5_5 := c5_5) (f5_5 := f5_5) (c5_6 := c5_6) (f5_6 := f5_6) (m9 := (i9 * 10 + a)) (i9 := (i9 * 10 + b)) (hp := ⟨by omega, by omega⟩)) (cwV 2 E.2.2.2.2 gX6_learnNeeds_X5_need rfl rfl rfl hdV_X5_need ⟨Nat.le_of_ble_eq_true rfl, Nat.le_of_ble_eq_true rfl⟩) (kPreV (q0 := 1) (ci := 5) (q := (RX5, TX5, 7)) h KX_true (fun _ _ _ => trivial) [1, 2, 3, 4] [0, 1, 2] (by decide) rfl rfl rfl rfl) rfl rfl hl.1 rfl (lv_room (Nat.le_of_ble_eq_true rfl)) dX6_learnNeeds_61 ⟨Nat.le_of_ble_eq_true rfl, Nat.le_of_ble_eq_true rfl⟩) [1, 2, 3, 4] [0, 5, 6, 7] rfl rfl (by decide) (by decide) (fun r_8 u_8 H locs hw_8 h => ?_)
      have h : KS (dC, dI) A [(o6, .inr (6, [.ref a6_0, .ref o5, .ref a6_2, .ref a6_3, .ref a6_4, .ref a6_5, .ref a6_6, .ref a6_7, .int (nI n6), .int v6_9])), (a6_2, .inl (c6_2, 10, .inl (fun j => nI (eE j)))), (a6_3, .inl (c6_3, 10, .inl (fun j => nI (eB j)))), (a6_4, .inl (c6_4, 10, .inl (fun j => nI (eW j)))), (o5, .inr (5, [.ref a5_0, .ref a5_1, .ref a5_2, .ref a5_3, .ref a5_4, .ref a5_5, .ref a5_6])), (a5_1, .inl (c5_1, 120, .inl f5_1)), (a5_5, .inl (c5_5, 120, .inl f5_5)), (a5_6, .inl (c5_6, 120, .inl f5_6))] [(c5_1, .int), (c5_5, .int), (c5_6, .int), (c6_2, .int), (c6_3, .int), (c6_4, .int)] s H locs := h
      have hw_8 : r_8 = nI (kNd (f5_1 (i9 * 10 + a)) (f5_1 (i9 * 10 + b)) (f5_5 (i9 * 10 + a)) (f5_6 (i9 * 10 + a)) (f5_5 (i9 * 10 + b)) (f5_6 (i9 * 10 + b))) := by first | exact hw_8 | (simp only [Int32.toInt_toInt64] at hw_8; exact hw_8)
      refine k_topi (y := nI (kNd (f5_1 (i9 * 10 + a)) (f5_1 (i9 * 10 + b)) (f5_5 (i9 * 10 + a)) (f5_6 (i9 * 10 + a)) (f5_5 (i9 * 10 + b)) (f5_6 (i9 * 10 + b)))) (hw_8) ?_
      refine W.eq (g2 := F0 m 64 ls [.int (nI (kNd (f5_1 (i9 * 10 + a)) (f5_1 (i9 * 10 + b)) (f5_5 (i9 * 10 + a)) (f5_6 (i9 * 10 + a)) (f5_5 (i9 * 10 + b)) (f5_6 (i9 * 10 + b))))]) rfl ?_
      refine k_topi (y := nI ((iN f5_1 f5_5 f5_6 i9) a b)) (by rw [iN_at (by omega) (by omega)]) ?_
      have hk2 := iN_le f5_1 f5_5 f5_6 i9 a b
      have hwb := (hWL.2 b (by omega) (by omega)).1
      refine lv_istore (lv' := [(4, .int (nI ((iN f5_1 f5_5 f5_6 i9) a b))), (0, .ref o6), (1, .int (nI i9)), (2, .int (nI a)), (3, .int (nI b))]) hx hb dX6_learnNeeds_64 hl (Nat.le_of_ble_eq_true rfl) rfl (fun ls hl => ?_)
      refine lv_iload hx hb dX6_learnNeeds_66 (lv_at hl 0 rfl) ?_
      refine lv_iconst (v := 2) hx hb dX6_learnNeeds_68 kic_2 ?_
      refine lv_icmp_ne (tgt := 110) hx hb dX6_learnNeeds_69 rfl (fun c_9 => ?_) (fun c_9 => ?_)
      · skip
        have i_9 : ¬ ((iN f5_1 f5_5 f5_6 i9) a b) = 2 := fun h9 => c_9 ((nI_eq (a := ((iN f5_1 f5_5 f5_6 i9) a b)) (b := 2) (by omega) (by omega)).mpr h9)
        refine lv_iload hx hb dX6_learnNeeds_110 (lv_at hl 0 rfl) ?_
        refine lv_iconst (v := 1) hx hb dX6_learnNeeds_112 kic_1 ?_
        refine lv_icmp_ne (tgt := 149) hx hb dX6_learnNeeds_113 rfl (fun c_10 => ?_) (fun c_10 => ?_)
        · skip
          have i_10 : ¬ ((iN f5_1 f5_5 f5_6 i9) a b) = 1 := fun h9 => c_10 ((nI_eq (a := ((iN f5_1 f5_5 f5_6 i9) a b)) (b := 1) (by omega) (by omega)).mpr h9)
          refine lv_iinc (v := nI (b + 1)) (lv' := [(3, .int (nI (b + 1))), (4, .int (nI ((iN f5_1 f5_5 f5_6 i9) a b))), (0, .ref o6), (1, .int (nI i9)), (2, .int (nI a))]) hx hb dX6_learnNeeds_149 hl (k := 4) rfl (nI_1 b) (by decide) rfl (fun ls hl => ?_)
          refine lv_goto (tgt := 39) hx hb dX6_learnNeeds_152 rfl ?_
          exact ih39 (n6 - (b + 1)) (b + 1, eE, eB, eW) _ _ _ (by omega) ⟨by omega, rfl, by omega, (by first | exact NE_set hE (by omega) (by omega) (by assumption) | exact NE_skip hE (by assumption) | exact NE_skip hE (by omega)), (by first | exact NE_set hB (by omega) (by omega) (by assumption) | exact NE_skip hB (by assumption) | exact NE_skip hB (by omega)), (by first | exact hWL | exact WL_set hWL (by omega) (by omega) (Or.inl ⟨by assumption, rfl⟩) | exact WL_set hWL (by omega) (by omega) (Or.inr ⟨by assumption, rfl⟩))⟩ (k_perm h [0, 4, 5, 6, 7, 1, 2, 3] (by decide +kernel) rfl rfl) (lv_sub hl [2, 3, 4, 0] rfl)
        · skip
          have i_10 : ((iN f5_1 f5_5 f5_6 i9) a b) = 1 := (nI_eq (a := ((iN f5_1 f5_5 f5_6 i9) a b)) (b := 1) (by omega) (by omega)).mp c_10
          refine lv_aload_n hx hb dX6_learnNeeds_116 rfl (lv_at hl 1 rfl) ?_
          refine k_get (v := .ref a6_3) E h (fun w h => List.mem_cons_of_mem _ (List.mem_append_left _ (List.mem_append_right _ h))) 0 rfl rfl 3 (Nat.le_of_ble_eq_true rfl) (List.mem_of_getElem? (i := 2) rfl) rfl dX6_learnNeeds_117 ?_
          refine lv_iload_n hx hb dX6_learnNeeds_120 rfl (lv_at hl 4 rfl) ?_
          refine lv_dup2_11 hx hb dX6_learnNeeds_121 rfl rfl ?_
          refine k_iald (v := nI (eB b)) E h 2 4 rfl rfl (vp_in_nI (by omega) (by omega)) (by rw [nI_clamp (by omega)]) dX6_learnNeeds_122 ?_
          refine lv_iconst (v := 1) hx hb dX6_learnNeeds_123 kic_1 ?_
          refine lv_iload_n hx hb dX6_learnNeeds_124 rfl (lv_at hl 3 rfl) ?_
          refine lv_ishl hx hb dX6_learnNeeds_125 ?_
          refine k_topi (y := nI (2 ^ a)) (mm_shl (by omega)) ?_
          refine lv_ior hx hb dX6_learnNeeds_126 ?_
          refine k_topi (y := nI ((eB b) ||| (2 ^ a))) (mm_or (eB b) (2 ^ a)) ?_
          refine k_iast (j := b) (ws' := [(o6, .inr (6, [.ref a6_0, .ref o5, .ref a6_2, .ref a6_3, .ref a6_4, .ref a6_5, .ref a6_6, .ref a6_7, .int (nI n6), .int v6_9])), (a6_2, .inl (c6_2, 10, .inl (fun j => nI (eE j)))), (a6_3, .inl (c6_3, 10, .inl (upd (fun j => nI (eB j)) b (nI ((eB b) ||| (2 ^ a)))))), (a6_4, .inl (c6_4, 10, .inl (fun j => nI (eW j)))), (o5, .inr (5, [.ref a5_0, .ref a5_1, .ref a5_2, .ref a5_3, .ref a5_4, .ref a5_5, .ref a5_6])), (a5_1, .inl (c5_1, 120, .inl f5_1)), (a5_5, .inl (c5_5, 120, .inl f5_5)), (a5_6, .inl (c5_6, 120, .inl f5_6))]) E h 2 4 rfl rfl (vp_in_nI (by omega) (by omega)) (nI_clamp (by omega)) rfl dX6_learnNeeds_127 (fun H locs h => ?_)
          have h : KS (dC, dI) A [(o6, .inr (6, [.ref a6_0, .ref o5, .ref a6_2, .ref a6_3, .ref a6_4, .ref a6_5, .ref a6_6, .ref a6_7, .int (nI n6), .int v6_9])), (a6_2, .inl (c6_2, 10, .inl (fun j => nI (eE j)))), (a6_3, .inl (c6_3, 10, .inl (fun j => nI ((mUpd eB b ((eB b) ||| (2 ^ a))) j)))), (a6_4, .inl (c6_4, 10, .inl (fun j => nI (eW j)))), (o5, .inr (5, [.ref a5_0, .ref a5_1, .ref a5_2, .ref a5_3, .ref a5_4, .ref a5_5, .ref a5_6])), (a5_1, .inl (c5_1, 120, .inl f5_1)), (a5_5, .inl (c5_5, 120, .inl f5_5)), (a5_6, .inl (c5_6, 120, .inl f5_6))] [(c5_1, .int), (c5_5, .int), (c5_6, .int), (c6_2, .int), (c6_3, .int), (c6_4, .int)] s _ _ := k_cong 2 h rfl (fun j _ => mm_upd (X := eB) (k := b) (v := ((eB b) ||| (2 ^ a))) j) rfl
          refine lv_aload_n hx hb dX6_learnNeeds_128 rfl (lv_at hl 1 rfl) ?_
          refine W.eq (g2 := F0 m 129 ls [.ref o6]) rfl ?_
          refine k_get (v := .ref a6_4) E h (fun w h => List.mem_cons_of_mem _ (List.mem_append_left _ (List.mem_append_right _ h))) 0 rfl rfl 4 (Nat.le_of_ble_eq_true rfl) (List.mem_of_getElem? (i := 3) rfl) rfl dX6_learnNeeds_129 ?_
          refine lv_iload_n hx hb dX6_learnNeeds_132 rfl (lv_at hl 3 rfl) ?_
          refine lv_aload_n hx hb dX6_learnNeeds_133 rfl (lv_at hl 1 rfl) ?_
          refine k_get (v := .ref a6_4) E h (fun w h => List.mem_cons_of_mem _ (List.mem_append_left _ (List.mem_append_right _ h))) 0 rfl rfl 4 (Nat.le_of_ble_eq_true rfl) (List.mem_of_getElem? (i := 3) rfl) rfl dX6_learnNeeds_134 ?_
          refine lv_iload_n hx hb dX6_learnNeeds_137 rfl (lv_at hl 3 rfl) ?_
          refine k_iald (v := nI (eW a)) E h 3 5 rfl rfl (vp_in_nI (by omega) (by omega)) (by rw [nI_clamp (by omega)]) dX6_learnNeeds_138 ?_
          refine lv_aload_n hx hb dX6_learnNeeds_139 rfl (lv_at hl 1 rfl) ?_
          refine k_get (v := .ref a6_4) E h (fun w h => List.mem_cons_of_mem _ (List.mem_append_left _ (List.mem_append_right _ h))) 0 rfl rfl 4 (Nat.le_of_ble_eq_true rfl) (List.mem_of_getElem? (i := 3) rfl) rfl dX6_learnNeeds_140 ?_
          refine lv_iload_n hx hb dX6_learnNeeds_143 rfl (lv_at hl 4 rfl) ?_
          refine k_iald (v := nI (eW b)) E h 3 5 rfl rfl (vp_in_nI (by omega) (by omega)) (by rw [nI_clamp (by omega)]) dX6_learnNeeds_144 ?_
          refine va_mmax (x := nI (eW a)) (y := nI (eW b)) hx hb (by rw [E.2.2.1]; exact hl.1.symm) E.2.2.2.1 (E.2.2.2.2 _ (List.mem_of_getElem? (i := 6) rfl)) (E.2.2.2.2 _ (List.mem_of_getElem? (i := 7) rfl)) (E.2.2.2.2 _ (List.mem_of_getElem? (i := 8) rfl)) (E.2.2.2.2 _ (List.mem_of_getElem? (i := 9) rfl)) (Nat.le_of_ble_eq_true rfl) (Nat.le_of_ble_eq_true rfl) (Nat.le_of_ble_eq_true rfl) (Nat.le_of_ble_eq_true rfl) dX6_learnNeeds_145 ?_
          refine k_topi (y := nI (if (eW a) < (eW b) then (eW b) else (eW a))) (mm_max (by omega) (by omega)) ?_
          refine W.eq (g2 := F0 m 148 ls [.int (nI (if (eW a) < (eW b) then (eW b) else (eW a))), .int (nI a), .ref a6_4]) rfl ?_
          refine k_iast (j := a) (ws' := [(o6, .inr (6, [.ref a6_0, .ref o5, .ref a6_2, .ref a6_3, .ref a6_4, .ref a6_5, .ref a6_6, .ref a6_7, .int (nI n6), .int v6_9])), (a6_2, .inl (c6_2, 10, .inl (fun j => nI (eE j)))), (a6_3, .inl (c6_3, 10, .inl (fun j => nI ((mUpd eB b ((eB b) ||| (2 ^ a))) j)))), (a6_4, .inl (c6_4, 10, .inl (upd (fun j => nI (eW j)) a (nI (if (eW a) < (eW b) then (eW b) else (eW a)))))), (o5, .inr (5, [.ref a5_0, .ref a5_1, .ref a5_2, .ref a5_3, .ref a5_4, .ref a5_5, .ref a5_6])), (a5_1, .inl (c5_1, 120, .inl f5_1)), (a5_5, .inl (c5_5, 120, .inl f5_5)), (a5_6, .inl (c5_6, 120, .inl f5_6))]) E h 3 5 rfl rfl (vp_in_nI (by omega) (by omega)) (nI_clamp (by omega)) rfl dX6_learnNeeds_148 (fun H locs h => ?_)
          have h : KS (dC, dI) A [(o6, .inr (6, [.ref a6_0, .ref o5, .ref a6_2, .ref a6_3, .ref a6_4, .ref a6_5, .ref a6_6, .ref a6_7, .int (nI n6), .int v6_9])), (a6_2, .inl (c6_2, 10, .inl (fun j => nI (eE j)))), (a6_3, .inl (c6_3, 10, .inl (fun j => nI ((mUpd eB b ((eB b) ||| (2 ^ a))) j)))), (a6_4, .inl (c6_4, 10, .inl (fun j => nI ((mUpd eW a (if (eW a) < (eW b) then (eW b) else (eW a))) j)))), (o5, .inr (5, [.ref a5_0, .ref a5_1, .ref a5_2, .ref a5_3, .ref a5_4, .ref a5_5, .ref a5_6])), (a5_1, .inl (c5_1, 120, .inl f5_1)), (a5_5, .inl (c5_5, 120, .inl f5_5)), (a5_6, .inl (c5_6, 120, .inl f5_6))] [(c5_1, .int), (c5_5, .int), (c5_6, .int), (c6_2, .int), (c6_3, .int), (c6_4, .int)] s _ _ := k_cong 3 h rfl (fun j _ => mm_upd (X := eW) (k := a) (v := (if (eW a) < (eW b) then (eW b) else (eW a))) j) rfl
          refine W.eq (g2 := F0 m 149 ls []) rfl ?_
          refine lv_iinc (v := nI (b + 1)) (lv' := [(3, .int (nI (b + 1))), (4, .int (nI ((iN f5_1 f5_5 f5_6 i9) a b))), (0, .ref o6), (1, .int (nI i9)), (2, .int (nI a))]) hx hb dX6_learnNeeds_149 hl (k := 4) rfl (nI_1 b) (by decide) rfl (fun ls hl => ?_)
          refine lv_goto (tgt := 39) hx hb dX6_learnNeeds_152 rfl ?_
          exact ih39 (n6 - (b + 1)) (b + 1, eE, (mUpd eB b ((eB b) ||| (2 ^ a))), (mUpd eW a (if (eW a) < (eW b) then (eW b) else (eW a)))) _ _ _ (by omega) ⟨by omega, rfl, by omega, (by first | exact NE_set hE (by omega) (by omega) (by assumption) | exact NE_skip hE (by assumption) | exact NE_skip hE (by omega)), (by first | exact NE_set hB (by omega) (by omega) (by assumption) | exact NE_skip hB (by assumption) | exact NE_skip hB (by omega)), (by first | exact hWL | exact WL_set hWL (by omega) (by omega) (Or.inl ⟨by assumption, rfl⟩) | exact WL_set hWL (by omega) (by omega) (Or.inr ⟨by assumption, rfl⟩))⟩ (k_perm h [0, 4, 5, 6, 7, 1, 2, 3] (by decide +kernel) rfl rfl) (lv_sub hl [2, 3, 4, 0] rfl)
      · skip
        have i_9 : ((iN f5_1 f5_5 f5_6 i9) a b) = 2 := (nI_eq (a := ((iN f5_1 f5_5 f5_6 i9) a b)) (b := 2) (by omega) (by omega)).mp c_9
        refine lv_aload_n hx hb dX6_learnNeeds_72 rfl (lv_at hl 1 rfl) ?_
        refine k_get (v := .ref a6_2) E h (fun w h => List.mem_cons_of_mem _ (List.mem_append_left _ (List.mem_append_right _ h))) 0 rfl rfl 2 (Nat.le_of_ble_eq_true rfl) (List.mem_of_getElem? (i := 1) rfl) rfl dX6_learnNeeds_73 ?_
        refine lv_iload_n hx hb dX6_learnNeeds_76 rfl (lv_at hl 4 rfl) ?_
        refine lv_dup2_11 hx hb dX6_learnNeeds_77 rfl rfl ?_
        refine k_iald (v := nI (eE b)) E h 1 3 rfl rfl (vp_in_nI (by omega) (by omega)) (by rw [nI_clamp (by omega)]) dX6_learnNeeds_78 ?_
        refine lv_iconst (v := 1) hx hb dX6_learnNeeds_79 kic_1 ?_
        refine lv_iload_n hx hb dX6_learnNeeds_80 rfl (lv_at hl 3 rfl) ?_
        refine lv_ishl hx hb dX6_learnNeeds_81 ?_
        refine k_topi (y := nI (2 ^ a)) (mm_shl (by omega)) ?_
        refine lv_ior hx hb dX6_learnNeeds_82 ?_
        refine k_topi (y := nI ((eE b) ||| (2 ^ a))) (mm_or (eE b) (2 ^ a)) ?_
        refine k_iast (j := b) (ws' := [(o6, .inr (6, [.ref a6_0, .ref o5, .ref a6_2, .ref a6_3, .ref a6_4, .ref a6_5, .ref a6_6, .ref a6_7, .int (nI n6), .int v6_9])), (a6_2, .inl (c6_2, 10, .inl (upd (fun j => nI (eE j)) b (nI ((eE b) ||| (2 ^ a)))))), (a6_3, .inl (c6_3, 10, .inl (fun j => nI (eB j)))), (a6_4, .inl (c6_4, 10, .inl (fun j => nI (eW j)))), (o5, .inr (5, [.ref a5_0, .ref a5_1, .ref a5_2, .ref a5_3, .ref a5_4, .ref a5_5, .ref a5_6])), (a5_1, .inl (c5_1, 120, .inl f5_1)), (a5_5, .inl (c5_5, 120, .inl f5_5)), (a5_6, .inl (c5_6, 120, .inl f5_6))]) E h 1 3 rfl rfl (vp_in_nI (by omega) (by omega)) (nI_clamp (by omega)) rfl dX6_learnNeeds_83 (fun H locs h => ?_)
        have h : KS (dC, dI) A [(o6, .inr (6, [.ref a6_0, .ref o5, .ref a6_2, .ref a6_3, .ref a6_4, .ref a6_5, .ref a6_6, .ref a6_7, .int (nI n6), .int v6_9])), (a6_2, .inl (c6_2, 10, .inl (fun j => nI ((mUpd eE b ((eE b) ||| (2 ^ a))) j)))), (a6_3, .inl (c6_3, 10, .inl (fun j => nI (eB j)))), (a6_4, .inl (c6_4, 10, .inl (fun j => nI (eW j)))), (o5, .inr (5, [.ref a5_0, .ref a5_1, .ref a5_2, .ref a5_3, .ref a5_4, .ref a5_5, .ref a5_6])), (a5_1, .inl (c5_1, 120, .inl f5_1)), (a5_5, .inl (c5_5, 120, .inl f5_5)), (a5_6, .inl (c5_6, 120, .inl f5_6))] [(c5_1, .int), (c5_5, .int), (c5_6, .int), (c6_2, .int), (c6_3, .int), (c6_4, .int)] s _ _ := k_cong 1 h rfl (fun j _ => mm_upd (X := eE) (k := b) (v := ((eE b) ||| (2 ^ a))) j) rfl
        refine lv_aload_n hx hb dX6_learnNeeds_84 rfl (lv_at hl 1 rfl) ?_
        refine W.eq (g2 := F0 m 85 ls [.ref o6]) rfl ?_
        refine k_get (v := .ref a6_4) E h (fun w h => List.mem_cons_of_mem _ (List.mem_append_left _ (List.mem_append_right _ h))) 0 rfl rfl 4 (Nat.le_of_ble_eq_true rfl) (List.mem_of_getElem? (i := 3) rfl) rfl dX6_learnNeeds_85 ?_
        refine lv_iload_n hx hb dX6_learnNeeds_88 rfl (lv_at hl 3 rfl) ?_
        refine lv_aload_n hx hb dX6_learnNeeds_89 rfl (lv_at hl 1 rfl) ?_
        refine k_get (v := .ref a6_4) E h (fun w h => List.mem_cons_of_mem _ (List.mem_append_left _ (List.mem_append_right _ h))) 0 rfl rfl 4 (Nat.le_of_ble_eq_true rfl) (List.mem_of_getElem? (i := 3) rfl) rfl dX6_learnNeeds_90 ?_
        refine lv_iload_n hx hb dX6_learnNeeds_93 rfl (lv_at hl 3 rfl) ?_
        refine k_iald (v := nI (eW a)) E h 3 5 rfl rfl (vp_in_nI (by omega) (by omega)) (by rw [nI_clamp (by omega)]) dX6_learnNeeds_94 ?_
        refine lv_aload_n hx hb dX6_learnNeeds_95 rfl (lv_at hl 1 rfl) ?_
        refine k_get (v := .ref a6_4) E h (fun w h => List.mem_cons_of_mem _ (List.mem_append_left _ (List.mem_append_right _ h))) 0 rfl rfl 4 (Nat.le_of_ble_eq_true rfl) (List.mem_of_getElem? (i := 3) rfl) rfl dX6_learnNeeds_96 ?_
        refine lv_iload_n hx hb dX6_learnNeeds_99 rfl (lv_at hl 4 rfl) ?_
        refine k_iald (v := nI (eW b)) E h 3 5 rfl rfl (vp_in_nI (by omega) (by omega)) (by rw [nI_clamp (by omega)]) dX6_learnNeeds_100 ?_
        refine lv_iconst (v := 1) hx hb dX6_learnNeeds_101 kic_1 ?_
        refine lv_iadd hx hb dX6_learnNeeds_102 ?_
        refine k_topi (y := nI ((eW b) + 1)) (nI_add (eW b) 1) ?_
        refine W.eq (g2 := F0 m 103 ls [.int (nI ((eW b) + 1)), .int (nI (eW a)), .int (nI a), .ref a6_4]) rfl ?_
        refine va_mmax (x := nI (eW a)) (y := nI ((eW b) + 1)) hx hb (by rw [E.2.2.1]; exact hl.1.symm) E.2.2.2.1 (E.2.2.2.2 _ (List.mem_of_getElem? (i := 6) rfl)) (E.2.2.2.2 _ (List.mem_of_getElem? (i := 7) rfl)) (E.2.2.2.2 _ (List.mem_of_getElem? (i := 8) rfl)) (E.2.2.2.2 _ (List.mem_of_getElem? (i := 9) rfl)) (Nat.le_of_ble_eq_true rfl) (Nat.le_of_ble_eq_true rfl) (Nat.le_of_ble_eq_true rfl) (Nat.le_of_ble_eq_true rfl) dX6_learnNeeds_103 ?_
        refine k_topi (y := nI (if (eW a) < ((eW b) + 1) then ((eW b) + 1) else (eW a))) (mm_max (by omega) (by omega)) ?_
        refine W.eq (g2 := F0 m 106 ls [.int (nI (if (eW a) < ((eW b) + 1) then ((eW b) + 1) else (eW a))), .int (nI a), .ref a6_4]) rfl ?_
        refine k_iast (j := a) (ws' := [(o6, .inr (6, [.ref a6_0, .ref o5, .ref a6_2, .ref a6_3, .ref a6_4, .ref a6_5, .ref a6_6, .ref a6_7, .int (nI n6), .int v6_9])), (a6_2, .inl (c6_2, 10, .inl (fun j => nI ((mUpd eE b ((eE b) ||| (2 ^ a))) j)))), (a6_3, .inl (c6_3, 10, .inl (fun j => nI (eB j)))), (a6_4, .inl (c6_4, 10, .inl (upd (fun j => nI (eW j)) a (nI (if (eW a) < ((eW b) + 1) then ((eW b) + 1) else (eW a)))))), (o5, .inr (5, [.ref a5_0, .ref a5_1, .ref a5_2, .ref a5_3, .ref a5_4, .ref a5_5, .ref a5_6])), (a5_1, .inl (c5_1, 120, .inl f5_1)), (a5_5, .inl (c5_5, 120, .inl f5_5)), (a5_6, .inl (c5_6, 120, .inl f5_6))]) E h 3 5 rfl rfl (vp_in_nI (by omega) (by omega)) (nI_clamp (by omega)) rfl dX6_learnNeeds_106 (fun H locs h => ?_)
        have h : KS (dC, dI) A [(o6, .inr (6, [.ref a6_0, .ref o5, .ref a6_2, .ref a6_3, .ref a6_4, .ref a6_5, .ref a6_6, .ref a6_7, .int (nI n6), .int v6_9])), (a6_2, .inl (c6_2, 10, .inl (fun j => nI ((mUpd eE b ((eE b) ||| (2 ^ a))) j)))), (a6_3, .inl (c6_3, 10, .inl (fun j => nI (eB j)))), (a6_4, .inl (c6_4, 10, .inl (fun j => nI ((mUpd eW a (if (eW a) < ((eW b) + 1) then ((eW b) + 1) else (eW a))) j)))), (o5, .inr (5, [.ref a5_0, .ref a5_1, .ref a5_2, .ref a5_3, .ref a5_4, .ref a5_5, .ref a5_6])), (a5_1, .inl (c5_1, 120, .inl f5_1)), (a5_5, .inl (c5_5, 120, .inl f5_5)), (a5_6, .inl (c5_6, 120, .inl f5_6))] [(c5_1, .int), (c5_5, .int), (c5_6, .int), (c6_2, .int), (c6_3, .int), (c6_4, .int)] s _ _ := k_cong 3 h rfl (fun j _ => mm_upd (X := eW) (k := a) (v := (if (eW a) < ((eW b) + 1) then ((eW b) + 1) else (eW a))) j) rfl
        refine lv_goto (tgt := 149) hx hb dX6_learnNeeds_107 rfl ?_
        refine lv_iinc (v := nI (b + 1)) (lv' := [(3, .int (nI (b + 1))), (4, .int (nI ((iN f5_1 f5_5 f5_6 i9) a b))), (0, .ref o6), (1, .int (nI i9)), (2, .int (nI a))]) hx hb dX6_learnNeeds_149 hl (k := 4) rfl (nI_1 b) (by decide) rfl (fun ls hl => ?_)
        refine lv_goto (tgt := 39) hx hb dX6_learnNeeds_152 rfl ?_
        exact ih39 (n6 - (b + 1)) (b + 1, (mUpd eE b ((eE b) ||| (2 ^ a))), eB, (mUpd eW a (if (eW a) < ((eW b) + 1) then ((eW b) + 1) else (eW a)))) _ _ _ (by omega) ⟨by omega, rfl, by omega, (by first | exact NE_set hE (by omega) (by omega) (by assumption) | exact NE_skip hE (by assumption) | exact NE_skip hE (by omega)), (by first | exact NE_set hB (by omega) (by omega) (by assumption) | exact NE_skip hB (by assumption) | exact NE_skip hB (by omega)), (by first | exact hWL | exact WL_set hWL (by omega) (by omega) (Or.inl ⟨by assumption, rfl⟩) | exact WL_set hWL (by omega) (by omega) (Or.inr ⟨by assumption, rfl⟩))⟩ (k_perm h [0, 4, 5, 6, 7, 1, 2, 3] (by decide +kernel) rfl rfl) (lv_sub hl [2, 3, 4, 0] rfl)
set_option maxHeartbeats 4000000 in
set_option maxRecDepth 100000 in
theorem c_X6_areTooMany (l : Launch) (dC : Nat → ClassId) (dI : Nat → Nat → Nat) (sz : Nat) (o6 : Nat) (a6_0 : Nat) (o5 : Nat) (a6_2 : Nat) (a6_3 : Nat) (a6_4 : Nat) (a6_5 : Nat) (a6_6 : Nat) (a6_7 : Nat) (v6_9 : Int32) (c6_5 : ClassId) (c6_6 : ClassId) (c6_4 : ClassId) (q : mPI) (n6 : Nat) (eP : Nat → Nat) (eR : Nat → Nat) (eW : Nat → Nat) (rs : Nat) (lf : Nat) (hq : q.1 = n6 ∧ n6 ≤ 10 ∧ 1 ≤ q.2.2.2 ∧ q.2.2.2 ≤ 3) (hP : ∀ p, p < 5 → eP p = mOP q.2.2.1 p n6) (hR : ∀ p, p < 5 → eR p = pRoom q.2.2.2 p) (hW : WL q.2.1 n6 0 eW) (hrs : rs < 1024) (hlf : lf ≤ 10) : Met l yX6_areTooMany wsX6_areTooMany ({ frames := 1, cells := 0, slots := 0, locals := 21 } : Room) (va_Pc [.ref o6, .int (nI rs), .int (nI lf)] (KPre (dC, dI) [(o6, .inr (6, [.ref a6_0, .ref o5, .ref a6_2, .ref a6_3, .ref a6_4, .ref a6_5, .ref a6_6, .ref a6_7, .int (nI n6), .int v6_9])), (a6_5, .inl (c6_5, 5, .inl (fun j => nI (eP j)))), (a6_6, .inl (c6_6, 5, .inl (fun j => nI (eR j)))), (a6_4, .inl (c6_4, 10, .inl (fun j => nI (eW j))))] [(c6_5, .int), (c6_6, .int), (c6_4, .int)] sz (fun U => KAll (va_A [(o6, .inr (6, [.ref a6_0, .ref o5, .ref a6_2, .ref a6_3, .ref a6_4, .ref a6_5, .ref a6_6, .ref a6_7, .int (nI n6), .int v6_9])), (a6_5, .inl (c6_5, 5, .inl (fun j => nI (eP j)))), (a6_6, .inl (c6_6, 5, .inl (fun j => nI (eR j)))), (a6_4, .inl (c6_4, 10, .inl (fun j => nI (eW j))))] sz) U))) (va_Qi (fun (r : Int32) (u : Unit) => (r = 0 ∨ r = 1) ∧ (¬ r = 0 → TM q eW rs lf)) (KPost (dC, dI) (va_A [(o6, .inr (6, [.ref a6_0, .ref o5, .ref a6_2, .ref a6_3, .ref a6_4, .ref a6_5, .ref a6_6, .ref a6_7, .int (nI n6), .int v6_9])), (a6_5, .inl (c6_5, 5, .inl (fun j => nI (eP j)))), (a6_6, .inl (c6_6, 5, .inl (fun j => nI (eR j)))), (a6_4, .inl (c6_4, 10, .inl (fun j => nI (eW j))))] sz) (fun (u : Unit) => [(o6, .inr (6, [.ref a6_0, .ref o5, .ref a6_2, .ref a6_3, .ref a6_4, .ref a6_5, .ref a6_6, .ref a6_7, .int (nI n6), .int v6_9])), (a6_5, .inl (c6_5, 5, .inl (fun j => nI (eP j)))), (a6_6, .inl (c6_6, 5, .inl (fun j => nI (eR j)))), (a6_4, .inl (c6_4, 10, .inl (fun j => nI (eW j))))])) (va_A [(o6, .inr (6, [.ref a6_0, .ref o5, .ref a6_2, .ref a6_3, .ref a6_4, .ref a6_5, .ref a6_6, .ref a6_7, .int (nI n6), .int v6_9])), (a6_5, .inl (c6_5, 5, .inl (fun j => nI (eP j)))), (a6_6, .inl (c6_6, 5, .inl (fun j => nI (eR j)))), (a6_4, .inl (c6_4, 10, .inl (fun j => nI (eW j))))] sz)) 0 0 (va_A [(o6, .inr (6, [.ref a6_0, .ref o5, .ref a6_2, .ref a6_3, .ref a6_4, .ref a6_5, .ref a6_6, .ref a6_7, .int (nI n6), .int v6_9])), (a6_5, .inl (c6_5, 5, .inl (fun j => nI (eP j)))), (a6_6, .inl (c6_6, 5, .inl (fun j => nI (eR j)))), (a6_4, .inl (c6_4, 10, .inl (fun j => nI (eW j))))] sz) := by
  refine kMet (y := yX6_areTooMany) (wsM := wsX6_areTooMany) (cc := cX6_areTooMany) (maxL := 4) (ret := (some .boolean)) (rm := ({ frames := 1, cells := 0, slots := 0, locals := 21 } : Room)) (mc := 0) (ms := 0) (av := [.ref o6, .int (nI rs), .int (nI lf)]) (D := (dC, dI)) (wc := [(o6, .inr (6, [.ref a6_0, .ref o5, .ref a6_2, .ref a6_3, .ref a6_4, .ref a6_5, .ref a6_6, .ref a6_7, .int (nI n6), .int v6_9])), (a6_5, .inl (c6_5, 5, .inl (fun j => nI (eP j)))), (a6_6, .inl (c6_6, 5, .inl (fun j => nI (eR j)))), (a6_4, .inl (c6_4, 10, .inl (fun j => nI (eW j))))]) (tc := [(c6_5, .int), (c6_6, .int), (c6_4, .int)]) (sz := sz) (X := fun U => KAll (va_A [(o6, .inr (6, [.ref a6_0, .ref o5, .ref a6_2, .ref a6_3, .ref a6_4, .ref a6_5, .ref a6_6, .ref a6_7, .int (nI n6), .int v6_9])), (a6_5, .inl (c6_5, 5, .inl (fun j => nI (eP j)))), (a6_6, .inl (c6_6, 5, .inl (fun j => nI (eR j)))), (a6_4, .inl (c6_4, 10, .inl (fun j => nI (eW j))))] sz) U) (Qc := fun A => va_Qi (fun (r : Int32) (u : Unit) => (r = 0 ∨ r = 1) ∧ (¬ r = 0 → TM q eW rs lf)) (KPost (dC, dI) A (fun (u : Unit) => [(o6, .inr (6, [.ref a6_0, .ref o5, .ref a6_2, .ref a6_3, .ref a6_4, .ref a6_5, .ref a6_6, .ref a6_7, .int (nI n6), .int v6_9])), (a6_5, .inl (c6_5, 5, .inl (fun j => nI (eP j)))), (a6_6, .inl (c6_6, 5, .inl (fun j => nI (eR j)))), (a6_4, .inl (c6_4, 10, .inl (fun j => nI (eW j))))])) A) (by decide) rfl (Nat.le_of_ble_eq_true rfl) ?_
  intro p e s m below meth c A ls E hr hlocks hnm hsz hAe hX h hl
  have hx := E.1
  have hb := E.2.1
  have hl : lv_has ls 4 [(0, .ref o6), (1, .int (nI rs)), (2, .int (nI lf))] := hl
  have hX : KAll A s := by rw [← hAe]; exact hX
  obtain ⟨⟨tD, hZD, hTD⟩, ⟨tX, hZX, hTX⟩, ⟨tY, hZY, hTY⟩, ⟨tP, hZP, hTP⟩, ⟨tL, hZL, hTL⟩, ⟨tM, hZM, hTM⟩, hN0_134, hN0_60, hN0_96, hN1_83, hN1_87, hN3_49, hN3_52, hN4_44, hN4_69, hN5_33, hN6_102, hN6_67, hF37, hF40, hF50, hF53⟩ := id hX
  refine lv_iconst (v := 0) hx hb dX6_areTooMany_0 kic_0 ?_
  refine lv_istore_n (lv' := [(3, .int 0), (0, .ref o6), (1, .int (nI rs)), (2, .int (nI lf))]) hx hb dX6_areTooMany_1 rfl hl (Nat.le_of_ble_eq_true rfl) rfl (fun ls hl => ?_)
  refine k_loop (σ := Nat) (fun x9 => [(o6, .inr (6, [.ref a6_0, .ref o5, .ref a6_2, .ref a6_3, .ref a6_4, .ref a6_5, .ref a6_6, .ref a6_7, .int (nI n6), .int v6_9])), (a6_5, .inl (c6_5, 5, .inl (fun j => nI (eP j)))), (a6_6, .inl (c6_6, 5, .inl (fun j => nI (eR j)))), (a6_4, .inl (c6_4, 10, .inl (fun j => nI (eW j))))]) (fun x9 => [(0, .ref o6), (1, .int (nI rs)), (2, .int (nI lf)), (3, .int (nI x9))]) (fun n9 x9 => x9 ≤ 5 ∧ n9 = 5 - x9) ?_ (5 - 0) 0 ⟨by omega, rfl⟩ h (lv_sub hl [1, 2, 3, 0] rfl)
  intro n9 x9 H locs ls hI h hl ih2
  obtain ⟨i, rfl⟩ : ∃ z, z = x9 := ⟨_, rfl⟩
  have hI : i ≤ 5 ∧ n9 = 5 - i := hI
  have h : KS (dC, dI) A [(o6, .inr (6, [.ref a6_0, .ref o5, .ref a6_2, .ref a6_3, .ref a6_4, .ref a6_5, .ref a6_6, .ref a6_7, .int (nI n6), .int v6_9])), (a6_5, .inl (c6_5, 5, .inl (fun j => nI (eP j)))), (a6_6, .inl (c6_6, 5, .inl (fun j => nI (eR j)))), (a6_4, .inl (c6_4, 10, .inl (fun j => nI (eW j))))] [(c6_5, .int), (c6_6, .int), (c6_4, .int)] s H locs := h
  have hl : lv_has ls 4 [(0, .ref o6), (1, .int (nI rs)), (2, .int (nI lf)), (3, .int (nI i))] := hl
  obtain ⟨hi1, hi2⟩ := hI
  refine lv_iload_n hx hb dX6_areTooMany_2 rfl (lv_at hl 3 rfl) ?_
  refine lv_iconst (v := 5) hx hb dX6_areTooMany_3 kic_5 ?_
  refine lv_icmp_ge (tgt := 37) hx hb dX6_areTooMany_4 rfl (fun c_1 => ?_) (fun c_1 => ?_)
  · skip
    have i_1 : 5 ≤ i := (nI_leI (a := 5) (b := i) (by omega) (by omega)).mp c_1
    refine lv_iconst (v := 0) hx hb dX6_areTooMany_37 kic_0 ?_
    refine lv_istore_n (lv' := [(3, .int 0), (0, .ref o6), (1, .int (nI rs)), (2, .int (nI lf))]) hx hb dX6_areTooMany_38 rfl hl (Nat.le_of_ble_eq_true rfl) rfl (fun ls hl => ?_)
    refine k_loop (σ := Nat) (fun x9 => [(o6, .inr (6, [.ref a6_0, .ref o5, .ref a6_2, .ref a6_3, .ref a6_4, .ref a6_5, .ref a6_6, .ref a6_7, .int (nI n6), .int v6_9])), (a6_5, .inl (c6_5, 5, .inl (fun j => nI (eP j)))), (a6_6, .inl (c6_6, 5, .inl (fun j => nI (eR j)))), (a6_4, .inl (c6_4, 10, .inl (fun j => nI (eW j))))]) (fun x9 => [(0, .ref o6), (1, .int (nI rs)), (2, .int (nI lf)), (3, .int (nI x9))]) (fun n9 x9 => x9 ≤ n6 ∧ n9 = n6 - x9) ?_ (n6 - 0) 0 ⟨by omega, rfl⟩ h (lv_sub hl [1, 2, 3, 0] rfl)
    intro n9 x9 H locs ls hI h hl ih39
    obtain ⟨i, rfl⟩ : ∃ z, z = x9 := ⟨_, rfl⟩
    have hI : i ≤ n6 ∧ n9 = n6 - i := hI
    have h : KS (dC, dI) A [(o6, .inr (6, [.ref a6_0, .ref o5, .ref a6_2, .ref a6_3, .ref a6_4, .ref a6_5, .ref a6_6, .ref a6_7, .int (nI n6), .int v6_9])), (a6_5, .inl (c6_5, 5, .inl (fun j => nI (eP j)))), (a6_6, .inl (c6_6, 5, .inl (fun j => nI (eR j)))), (a6_4, .inl (c6_4, 10, .inl (fun j => nI (eW j))))] [(c6_5, .int), (c6_6, .int), (c6_4, .int)] s H locs := h
    have hl : lv_has ls 4 [(0, .ref o6), (1, .int (nI rs)), (2, .int (nI lf)), (3, .int (nI i))] := hl
    obtain ⟨hi1, hi2⟩ := hI
    refine lv_iload_n hx hb dX6_areTooMany_39 rfl (lv_at hl 3 rfl) ?_
    refine lv_aload_n hx hb dX6_areTooMany_40 rfl (lv_at hl 0 rfl) ?_
    refine k_get (v := .int (nI n6)) E h (fun w h => List.mem_cons_of_mem _ (List.mem_append_right _ h)) 0 rfl rfl 8 (Nat.le_of_ble_eq_true rfl) (List.mem_of_getElem? (i := 3) rfl) rfl dX6_areTooMany_41 ?_
    refine lv_icmp_ge (tgt := 73) hx hb dX6_areTooMany_44 rfl (fun c_2 => ?_) (fun c_2 => ?_)
    · skip
      have i_2 : n6 ≤ i := (nI_leI (a := n6) (b := i) (by omega) (by omega)).mp c_2
      refine lv_iconst (v := 0) hx hb dX6_areTooMany_73 kic_0 ?_
      have hP9 := h.2.1.sub [0, 1, 2, 3] rfl
      have hD9 := h.2.2.1.sub (ws' := [(o6, .inr (6, [.ref a6_0, .ref o5, .ref a6_2, .ref a6_3, .ref a6_4, .ref a6_5, .ref a6_6, .ref a6_7, .int (nI n6), .int v6_9])), (a6_5, .inl (c6_5, 5, .inl (fun j => nI (eP j)))), (a6_6, .inl (c6_6, 5, .inl (fun j => nI (eR j)))), (a6_4, .inl (c6_4, 10, .inl (fun j => nI (eW j))))]) [0, 1, 2, 3] (by decide) rfl
      exact W.zret (v := 0) hx hb hr (by decide) (fun t ht hW => ⟨⟨0, (), rfl, ⟨Or.inl rfl, fun z => absurd rfl z⟩, (by rw [ht]; exact hP9), hD9⟩, h.2.2.2.1.F ht⟩) h.2.2.2.1.2.2 dX6_areTooMany_74 hlocks
    · skip
      have i_2 : ¬ n6 ≤ i := fun h9 => c_2 ((nI_leI (a := n6) (b := i) (by omega) (by omega)).mpr h9)
      refine lv_iload_n hx hb dX6_areTooMany_47 rfl (lv_at hl 1 rfl) ?_
      refine lv_iload_n hx hb dX6_areTooMany_48 rfl (lv_at hl 3 rfl) ?_
      refine kc_i (wc := []) (wr := [(o6, .inr (6, [.ref a6_0, .ref o5, .ref a6_2, .ref a6_3, .ref a6_4, .ref a6_5, .ref a6_6, .ref a6_7, .int (nI n6), .int v6_9])), (a6_5, .inl (c6_5, 5, .inl (fun j => nI (eP j)))), (a6_6, .inl (c6_6, 5, .inl (fun j => nI (eR j)))), (a6_4, .inl (c6_4, 10, .inl (fun j => nI (eW j))))]) h (va_runSN (As := [.int (nI rs), .int (nI i)]) (rest := []) E (c_isInN l dC dI _  (m9 := rs) (i9 := i) (hm := (by omega)) (hi := (by omega))) ⟨va_cnB 2 E.2.2.2.2 gX6_areTooMany_X7_isIn_n102 rfl rfl rfl hN6_102 (E.2.2.2.2 _ (List.mem_of_getElem? (i := 13) rfl)) (by decide +kernel) ⟨Nat.le_of_ble_eq_true rfl, Nat.le_of_ble_eq_true rfl⟩, E.2.2.2.2 _ (List.mem_of_getElem? (i := 12) rfl), trivial⟩ (kPreS h KX_true (fun _ _ _ => trivial) [] [] (by decide) rfl rfl) rfl rfl hl.1 rfl (lv_room (Nat.le_of_ble_eq_true rfl)) dX6_areTooMany_49 ⟨Nat.le_of_ble_eq_true rfl, Nat.le_of_ble_eq_true rfl⟩) [] [0, 1, 2, 3] rfl rfl (by decide) (by decide) (fun r_3 u_3 H locs hw_3 h => ?_)
      have h : KS (dC, dI) A [(o6, .inr (6, [.ref a6_0, .ref o5, .ref a6_2, .ref a6_3, .ref a6_4, .ref a6_5, .ref a6_6, .ref a6_7, .int (nI n6), .int v6_9])), (a6_5, .inl (c6_5, 5, .inl (fun j => nI (eP j)))), (a6_6, .inl (c6_6, 5, .inl (fun j => nI (eR j)))), (a6_4, .inl (c6_4, 10, .inl (fun j => nI (eW j))))] [(c6_5, .int), (c6_6, .int), (c6_4, .int)] s H locs := h
      have hw_3 : r_3 = if rs.testBit i = true then 1 else 0 := by first | exact hw_3 | (simp only [Int32.toInt_toInt64] at hw_3; exact hw_3)
      refine W.eq (g2 := F0 m 52 ls [.int r_3]) rfl ?_
      refine lv_if_eq (tgt := 67) hx hb dX6_areTooMany_52 rfl (fun c_4 => ?_) (fun c_4 => ?_)
      · skip
        have b_4 := kb0 hw_3 c_4
        refine lv_iinc (v := nI (i + 1)) (lv' := [(3, .int (nI (i + 1))), (0, .ref o6), (1, .int (nI rs)), (2, .int (nI lf))]) hx hb dX6_areTooMany_67 hl (k := 3) rfl (nI_1 i) (by decide) rfl (fun ls hl => ?_)
        refine lv_goto (tgt := 39) hx hb dX6_areTooMany_70 rfl ?_
        exact ih39 (n6 - (i + 1)) (i + 1) _ _ _ (by omega) ⟨by omega, rfl⟩ h (lv_sub hl [1, 2, 3, 0] rfl)
      · skip
        have b_4 := kb1 hw_3 c_4
        refine lv_aload_n hx hb dX6_areTooMany_55 rfl (lv_at hl 0 rfl) ?_
        refine k_get (v := .ref a6_4) E h (fun w h => List.mem_cons_of_mem _ (List.mem_append_right _ h)) 0 rfl rfl 4 (Nat.le_of_ble_eq_true rfl) (List.mem_of_getElem? (i := 4) rfl) rfl dX6_areTooMany_56 ?_
        refine lv_iload_n hx hb dX6_areTooMany_59 rfl (lv_at hl 3 rfl) ?_
        refine k_iald (v := nI (eW i)) E h 3 2 rfl rfl (vp_in_nI (by omega) (by omega)) (by rw [nI_clamp (by omega)]) dX6_areTooMany_60 ?_
        have hwk := WL_k hW (i := i) (by omega)
        refine lv_iload_n hx hb dX6_areTooMany_61 rfl (lv_at hl 2 rfl) ?_
        refine lv_icmp_lt (tgt := 67) hx hb dX6_areTooMany_62 rfl (fun c_5 => ?_) (fun c_5 => ?_)
        · skip
          have i_5 : (eW i) < lf := (nI_ltI (a := (eW i)) (b := lf) (by omega) (by omega)).mp c_5
          refine lv_iinc (v := nI (i + 1)) (lv' := [(3, .int (nI (i + 1))), (0, .ref o6), (1, .int (nI rs)), (2, .int (nI lf))]) hx hb dX6_areTooMany_67 hl (k := 3) rfl (nI_1 i) (by decide) rfl (fun ls hl => ?_)
          refine lv_goto (tgt := 39) hx hb dX6_areTooMany_70 rfl ?_
          exact ih39 (n6 - (i + 1)) (i + 1) _ _ _ (by omega) ⟨by omega, rfl⟩ h (lv_sub hl [1, 2, 3, 0] rfl)
        · skip
          have i_5 : ¬ (eW i) < lf := fun h9 => c_5 ((nI_ltI (a := (eW i)) (b := lf) (by omega) (by omega)).mpr h9)
          refine lv_iconst (v := 1) hx hb dX6_areTooMany_65 kic_1 ?_
          have hP9 := h.2.1.sub [0, 1, 2, 3] rfl
          have hD9 := h.2.2.1.sub (ws' := [(o6, .inr (6, [.ref a6_0, .ref o5, .ref a6_2, .ref a6_3, .ref a6_4, .ref a6_5, .ref a6_6, .ref a6_7, .int (nI n6), .int v6_9])), (a6_5, .inl (c6_5, 5, .inl (fun j => nI (eP j)))), (a6_6, .inl (c6_6, 5, .inl (fun j => nI (eR j)))), (a6_4, .inl (c6_4, 10, .inl (fun j => nI (eW j))))]) [0, 1, 2, 3] (by decide) rfl
          exact W.zret (v := 1) hx hb hr (by decide) (fun t ht hW => ⟨⟨1, (), rfl, ⟨Or.inr rfl, fun _ => Or.inr ⟨i, by omega, by assumption, by omega⟩⟩, (by rw [ht]; exact hP9), hD9⟩, h.2.2.2.1.F ht⟩) h.2.2.2.1.2.2 dX6_areTooMany_66 hlocks
  · skip
    have i_1 : ¬ 5 ≤ i := fun h9 => c_1 ((nI_leI (a := 5) (b := i) (by omega) (by omega)).mpr h9)
    refine lv_iload_n hx hb dX6_areTooMany_7 rfl (lv_at hl 1 rfl) ?_
    refine lv_aload_n hx hb dX6_areTooMany_8 rfl (lv_at hl 0 rfl) ?_
    refine k_get (v := .ref a6_5) E h (fun w h => List.mem_cons_of_mem _ (List.mem_append_right _ h)) 0 rfl rfl 5 (Nat.le_of_ble_eq_true rfl) (List.mem_of_getElem? (i := 1) rfl) rfl dX6_areTooMany_9 ?_
    refine lv_iload_n hx hb dX6_areTooMany_12 rfl (lv_at hl 3 rfl) ?_
    refine k_iald (v := nI (eP i)) E h 1 0 rfl rfl (vp_in_nI (by omega) (by omega)) (by rw [nI_clamp (by omega)]) dX6_areTooMany_13 ?_
    refine lv_iand hx hb dX6_areTooMany_14 ?_
    refine k_topi (y := nI (rs &&& (eP i))) (mm_and rs (eP i)) ?_
    refine kc_i (wc := []) (wr := [(o6, .inr (6, [.ref a6_0, .ref o5, .ref a6_2, .ref a6_3, .ref a6_4, .ref a6_5, .ref a6_6, .ref a6_7, .int (nI n6), .int v6_9])), (a6_5, .inl (c6_5, 5, .inl (fun j => nI (eP j)))), (a6_6, .inl (c6_6, 5, .inl (fun j => nI (eR j)))), (a6_4, .inl (c6_4, 10, .inl (fun j => nI (eW j))))]) h (va_runS (As := [.int (nI (rs &&& (eP i)))]) (rest := []) E (c_bitcN l dC dI _  (m9 := (rs &&& (eP i))) (hm := (Nat.lt_of_le_of_lt Nat.and_le_left hrs))) (va_cwS 1 E.2.2.2.2 gX6_areTooMany_J6_bitCount_0f7a4 rfl rfl rfl hdS_J6_bitCount_0f7a4 ⟨Nat.le_of_ble_eq_true rfl, Nat.le_of_ble_eq_true rfl⟩) (kPreS h KX_true (fun _ _ _ => trivial) [] [] (by decide) rfl rfl) rfl rfl hl.1 rfl (lv_room (Nat.le_of_ble_eq_true rfl)) dX6_areTooMany_15 ⟨Nat.le_of_ble_eq_true rfl, Nat.le_of_ble_eq_true rfl⟩) [] [0, 1, 2, 3] rfl rfl (by decide) (by decide) (fun r_6 u_6 H locs hw_6 h => ?_)
    have h : KS (dC, dI) A [(o6, .inr (6, [.ref a6_0, .ref o5, .ref a6_2, .ref a6_3, .ref a6_4, .ref a6_5, .ref a6_6, .ref a6_7, .int (nI n6), .int v6_9])), (a6_5, .inl (c6_5, 5, .inl (fun j => nI (eP j)))), (a6_6, .inl (c6_6, 5, .inl (fun j => nI (eR j)))), (a6_4, .inl (c6_4, 10, .inl (fun j => nI (eW j))))] [(c6_5, .int), (c6_6, .int), (c6_4, .int)] s H locs := h
    have hw_6 : r_6 = nI (mCnt (rs &&& (eP i)) 10) := by first | exact hw_6 | (simp only [Int32.toInt_toInt64] at hw_6; exact hw_6)
    refine k_topi (y := nI (mCnt (rs &&& (eP i)) 10)) (hw_6) ?_
    refine W.eq (g2 := F0 m 18 ls [.int (nI (mCnt (rs &&& (eP i)) 10))]) rfl ?_
    refine lv_aload_n hx hb dX6_areTooMany_18 rfl (lv_at hl 0 rfl) ?_
    refine k_get (v := .ref a6_6) E h (fun w h => List.mem_cons_of_mem _ (List.mem_append_right _ h)) 0 rfl rfl 6 (Nat.le_of_ble_eq_true rfl) (List.mem_of_getElem? (i := 2) rfl) rfl dX6_areTooMany_19 ?_
    refine lv_iload_n hx hb dX6_areTooMany_22 rfl (lv_at hl 3 rfl) ?_
    refine k_iald (v := nI (eR i)) E h 2 1 rfl rfl (vp_in_nI (by omega) (by omega)) (by rw [nI_clamp (by omega)]) dX6_areTooMany_23 ?_
    refine lv_iload_n hx hb dX6_areTooMany_24 rfl (lv_at hl 2 rfl) ?_
    refine lv_imul hx hb dX6_areTooMany_25 ?_
    refine k_topi (y := nI ((eR i) * lf)) (pk_mul (eR i) lf) ?_
    have hm1 := mCnt_le (rs &&& (eP i)) 10
    have hm2 : eR i * lf ≤ 3 * 10 := Nat.mul_le_mul (by rw [hR i (by omega)]; exact pRoom_le hq.2.2.2) hlf
    refine lv_icmp_le (tgt := 31) hx hb dX6_areTooMany_26 rfl (fun c_7 => ?_) (fun c_7 => ?_)
    · skip
      have i_7 : (mCnt (rs &&& (eP i)) 10) ≤ ((eR i) * lf) := (nI_leI (a := (mCnt (rs &&& (eP i)) 10)) (b := ((eR i) * lf)) (by omega) (by omega)).mp c_7
      refine lv_iinc (v := nI (i + 1)) (lv' := [(3, .int (nI (i + 1))), (0, .ref o6), (1, .int (nI rs)), (2, .int (nI lf))]) hx hb dX6_areTooMany_31 hl (k := 3) rfl (nI_1 i) (by decide) rfl (fun ls hl => ?_)
      refine lv_goto (tgt := 2) hx hb dX6_areTooMany_34 rfl ?_
      exact ih2 (5 - (i + 1)) (i + 1) _ _ _ (by omega) ⟨by omega, rfl⟩ h (lv_sub hl [1, 2, 3, 0] rfl)
    · skip
      have i_7 : ¬ (mCnt (rs &&& (eP i)) 10) ≤ ((eR i) * lf) := fun h9 => c_7 ((nI_leI (a := (mCnt (rs &&& (eP i)) 10)) (b := ((eR i) * lf)) (by omega) (by omega)).mpr h9)
      refine lv_iconst (v := 1) hx hb dX6_areTooMany_29 kic_1 ?_
      have hP9 := h.2.1.sub [0, 1, 2, 3] rfl
      have hD9 := h.2.2.1.sub (ws' := [(o6, .inr (6, [.ref a6_0, .ref o5, .ref a6_2, .ref a6_3, .ref a6_4, .ref a6_5, .ref a6_6, .ref a6_7, .int (nI n6), .int v6_9])), (a6_5, .inl (c6_5, 5, .inl (fun j => nI (eP j)))), (a6_6, .inl (c6_6, 5, .inl (fun j => nI (eR j)))), (a6_4, .inl (c6_4, 10, .inl (fun j => nI (eW j))))]) [0, 1, 2, 3] (by decide) rfl
      exact W.zret (v := 1) hx hb hr (by decide) (fun t ht hW => ⟨⟨1, (), rfl, ⟨Or.inr rfl, fun _ => Or.inl ⟨i, by omega, by rw [hq.1, ← mCnt_10 _ _ _ hq.2.1, ← hP i (by omega), ← hR i (by omega)]; omega⟩⟩, (by rw [ht]; exact hP9), hD9⟩, h.2.2.2.1.F ht⟩) h.2.2.2.1.2.2 dX6_areTooMany_30 hlocks
set_option maxHeartbeats 4000000 in
set_option maxRecDepth 100000 in
theorem c_X6_readyAfter (l : Launch) (dC : Nat → ClassId) (dI : Nat → Nat → Nat) (sz : Nat) (o6 : Nat) (a6_0 : Nat) (o5 : Nat) (a6_2 : Nat) (a6_3 : Nat) (a6_4 : Nat) (a6_5 : Nat) (a6_6 : Nat) (a6_7 : Nat) (v6_9 : Int32) (c6_2 : ClassId) (c6_3 : ClassId) (q : mPI) (n6 : Nat) (eE : Nat → Nat) (eB : Nat → Nat) (d9 : Nat) (hq : q.1 = n6 ∧ n6 ≤ 10 ∧ 1 ≤ q.2.2.2 ∧ q.2.2.2 ≤ 3) (hE : NE q.2.1 n6 0 0 2 eE) (hB : NE q.2.1 n6 0 0 1 eB) (hd : d9 < 2 ^ n6) : Met l yX6_readyAfter wsX6_readyAfter ({ frames := 1, cells := 0, slots := 0, locals := 21 } : Room) (va_Pc [.ref o6, .int (nI d9)] (KPre (dC, dI) [(o6, .inr (6, [.ref a6_0, .ref o5, .ref a6_2, .ref a6_3, .ref a6_4, .ref a6_5, .ref a6_6, .ref a6_7, .int (nI n6), .int v6_9])), (a6_2, .inl (c6_2, 10, .inl (fun j => nI (eE j)))), (a6_3, .inl (c6_3, 10, .inl (fun j => nI (eB j))))] [(c6_2, .int), (c6_3, .int)] sz (fun U => KAll (va_A [(o6, .inr (6, [.ref a6_0, .ref o5, .ref a6_2, .ref a6_3, .ref a6_4, .ref a6_5, .ref a6_6, .ref a6_7, .int (nI n6), .int v6_9])), (a6_2, .inl (c6_2, 10, .inl (fun j => nI (eE j)))), (a6_3, .inl (c6_3, 10, .inl (fun j => nI (eB j))))] sz) U))) (va_Qi (fun (r : Int32) (u : Nat) => r = nI u ∧ RDp q d9 u q.1) (KPost (dC, dI) (va_A [(o6, .inr (6, [.ref a6_0, .ref o5, .ref a6_2, .ref a6_3, .ref a6_4, .ref a6_5, .ref a6_6, .ref a6_7, .int (nI n6), .int v6_9])), (a6_2, .inl (c6_2, 10, .inl (fun j => nI (eE j)))), (a6_3, .inl (c6_3, 10, .inl (fun j => nI (eB j))))] sz) (fun (u : Nat) => [(o6, .inr (6, [.ref a6_0, .ref o5, .ref a6_2, .ref a6_3, .ref a6_4, .ref a6_5, .ref a6_6, .ref a6_7, .int (nI n6), .int v6_9])), (a6_2, .inl (c6_2, 10, .inl (fun j => nI (eE j)))), (a6_3, .inl (c6_3, 10, .inl (fun j => nI (eB j))))])) (va_A [(o6, .inr (6, [.ref a6_0, .ref o5, .ref a6_2, .ref a6_3, .ref a6_4, .ref a6_5, .ref a6_6, .ref a6_7, .int (nI n6), .int v6_9])), (a6_2, .inl (c6_2, 10, .inl (fun j => nI (eE j)))), (a6_3, .inl (c6_3, 10, .inl (fun j => nI (eB j))))] sz)) 0 0 (va_A [(o6, .inr (6, [.ref a6_0, .ref o5, .ref a6_2, .ref a6_3, .ref a6_4, .ref a6_5, .ref a6_6, .ref a6_7, .int (nI n6), .int v6_9])), (a6_2, .inl (c6_2, 10, .inl (fun j => nI (eE j)))), (a6_3, .inl (c6_3, 10, .inl (fun j => nI (eB j))))] sz) := by
  refine kMet (y := yX6_readyAfter) (wsM := wsX6_readyAfter) (cc := cX6_readyAfter) (maxL := 5) (ret := (some .int)) (rm := ({ frames := 1, cells := 0, slots := 0, locals := 21 } : Room)) (mc := 0) (ms := 0) (av := [.ref o6, .int (nI d9)]) (D := (dC, dI)) (wc := [(o6, .inr (6, [.ref a6_0, .ref o5, .ref a6_2, .ref a6_3, .ref a6_4, .ref a6_5, .ref a6_6, .ref a6_7, .int (nI n6), .int v6_9])), (a6_2, .inl (c6_2, 10, .inl (fun j => nI (eE j)))), (a6_3, .inl (c6_3, 10, .inl (fun j => nI (eB j))))]) (tc := [(c6_2, .int), (c6_3, .int)]) (sz := sz) (X := fun U => KAll (va_A [(o6, .inr (6, [.ref a6_0, .ref o5, .ref a6_2, .ref a6_3, .ref a6_4, .ref a6_5, .ref a6_6, .ref a6_7, .int (nI n6), .int v6_9])), (a6_2, .inl (c6_2, 10, .inl (fun j => nI (eE j)))), (a6_3, .inl (c6_3, 10, .inl (fun j => nI (eB j))))] sz) U) (Qc := fun A => va_Qi (fun (r : Int32) (u : Nat) => r = nI u ∧ RDp q d9 u q.1) (KPost (dC, dI) A (fun (u : Nat) => [(o6, .inr (6, [.ref a6_0, .ref o5, .ref a6_2, .ref a6_3, .ref a6_4, .ref a6_5, .ref a6_6, .ref a6_7, .int (nI n6), .int v6_9])), (a6_2, .inl (c6_2, 10, .inl (fun j => nI (eE j)))), (a6_3, .inl (c6_3, 10, .inl (fun j => nI (eB j))))])) A) (by decide) rfl (Nat.le_of_ble_eq_true rfl) ?_
  intro p e s m below meth c A ls E hr hlocks hnm hsz hAe hX h hl
  have hx := E.1
  have hb := E.2.1
  have hl : lv_has ls 5 [(0, .ref o6), (1, .int (nI d9))] := hl
  have hX : KAll A s := by rw [← hAe]; exact hX
  obtain ⟨⟨tD, hZD, hTD⟩, ⟨tX, hZX, hTX⟩, ⟨tY, hZY, hTY⟩, ⟨tP, hZP, hTP⟩, ⟨tL, hZL, hTL⟩, ⟨tM, hZM, hTM⟩, hN0_134, hN0_60, hN0_96, hN1_83, hN1_87, hN3_49, hN3_52, hN4_44, hN4_69, hN5_33, hN6_102, hN6_67, hF37, hF40, hF50, hF53⟩ := id hX
  refine lv_iconst (v := 0) hx hb dX6_readyAfter_0 kic_0 ?_
  refine lv_istore_n (lv' := [(2, .int 0), (0, .ref o6), (1, .int (nI d9))]) hx hb dX6_readyAfter_1 rfl hl (Nat.le_of_ble_eq_true rfl) rfl (fun ls hl => ?_)
  refine lv_iconst (v := 0) hx hb dX6_readyAfter_2 kic_0 ?_
  refine lv_istore_n (lv' := [(3, .int 0), (2, .int 0), (0, .ref o6), (1, .int (nI d9))]) hx hb dX6_readyAfter_3 rfl hl (Nat.le_of_ble_eq_true rfl) rfl (fun ls hl => ?_)
  refine k_loop (σ := Nat × Nat) (fun x9 => [(o6, .inr (6, [.ref a6_0, .ref o5, .ref a6_2, .ref a6_3, .ref a6_4, .ref a6_5, .ref a6_6, .ref a6_7, .int (nI n6), .int v6_9])), (a6_2, .inl (c6_2, 10, .inl (fun j => nI (eE j)))), (a6_3, .inl (c6_3, 10, .inl (fun j => nI (eB j))))]) (fun x9 => [(0, .ref o6), (1, .int (nI d9)), (2, .int (nI x9.2)), (3, .int (nI x9.1))]) (fun n9 x9 => x9.1 ≤ n6 ∧ n9 = n6 - x9.1 ∧ RDp q d9 x9.2 x9.1) ?_ (n6 - 0) (0, 0) ⟨by omega, rfl, RDp_0 q d9⟩ h (lv_sub hl [2, 3, 1, 0] rfl)
  intro n9 x9 H locs ls hI h hl ih4
  obtain ⟨i, rd⟩ := x9
  have hI : i ≤ n6 ∧ n9 = n6 - i ∧ RDp q d9 rd i := hI
  have h : KS (dC, dI) A [(o6, .inr (6, [.ref a6_0, .ref o5, .ref a6_2, .ref a6_3, .ref a6_4, .ref a6_5, .ref a6_6, .ref a6_7, .int (nI n6), .int v6_9])), (a6_2, .inl (c6_2, 10, .inl (fun j => nI (eE j)))), (a6_3, .inl (c6_3, 10, .inl (fun j => nI (eB j))))] [(c6_2, .int), (c6_3, .int)] s H locs := h
  have hl : lv_has ls 5 [(0, .ref o6), (1, .int (nI d9)), (2, .int (nI rd)), (3, .int (nI i))] := hl
  obtain ⟨hi1, hi2, hi3⟩ := hI
  have ht0 := mm_two (i := n6) hq.2.1
  have ht1 := RDp_lt hi3
  have ht2 := mm_two (i := i) (by omega)
  refine lv_iload_n hx hb dX6_readyAfter_4 rfl (lv_at hl 3 rfl) ?_
  refine lv_aload_n hx hb dX6_readyAfter_5 rfl (lv_at hl 0 rfl) ?_
  refine k_get (v := .int (nI n6)) E h (fun w h => List.mem_cons_of_mem _ (List.mem_append_right _ h)) 0 rfl rfl 8 (Nat.le_of_ble_eq_true rfl) (List.mem_of_getElem? (i := 1) rfl) rfl dX6_readyAfter_6 ?_
  refine lv_icmp_ge (tgt := 72) hx hb dX6_readyAfter_9 rfl (fun c_1 => ?_) (fun c_1 => ?_)
  · skip
    have i_1 : n6 ≤ i := (nI_leI (a := n6) (b := i) (by omega) (by omega)).mp c_1
    refine lv_iload_n hx hb dX6_readyAfter_72 rfl (lv_at hl 2 rfl) ?_
    have hP9 := h.2.1.sub [0, 1, 2] rfl
    have hD9 := h.2.2.1.sub (ws' := [(o6, .inr (6, [.ref a6_0, .ref o5, .ref a6_2, .ref a6_3, .ref a6_4, .ref a6_5, .ref a6_6, .ref a6_7, .int (nI n6), .int v6_9])), (a6_2, .inl (c6_2, 10, .inl (fun j => nI (eE j)))), (a6_3, .inl (c6_3, 10, .inl (fun j => nI (eB j))))]) [0, 1, 2] (by decide) rfl
    exact W.iret (v := nI rd) hx hb hr (fun t ht hW => ⟨⟨nI rd, rd, rfl, ⟨rfl, (by rw [hq.1, show n6 = i by omega]; exact hi3)⟩, (by rw [ht]; exact hP9), hD9⟩, h.2.2.2.1.F ht⟩) h.2.2.2.1.2.2 dX6_readyAfter_73 hlocks
  · skip
    have i_1 : ¬ n6 ≤ i := fun h9 => c_1 ((nI_leI (a := n6) (b := i) (by omega) (by omega)).mpr h9)
    refine lv_aload_n hx hb dX6_readyAfter_12 rfl (lv_at hl 0 rfl) ?_
    refine k_get (v := .ref a6_2) E h (fun w h => List.mem_cons_of_mem _ (List.mem_append_right _ h)) 0 rfl rfl 2 (Nat.le_of_ble_eq_true rfl) (List.mem_of_getElem? (i := 2) rfl) rfl dX6_readyAfter_13 ?_
    refine lv_iload_n hx hb dX6_readyAfter_16 rfl (lv_at hl 3 rfl) ?_
    refine k_iald (v := nI (eE i)) E h 1 0 rfl rfl (vp_in_nI (by omega) (by omega)) (by rw [nI_clamp (by omega)]) dX6_readyAfter_17 ?_
    refine lv_iload_n hx hb dX6_readyAfter_18 rfl (lv_at hl 1 rfl) ?_
    refine lv_iconst (v := -1) hx hb dX6_readyAfter_19 kic_m1 ?_
    refine lv_ixor hx hb dX6_readyAfter_20 ?_
    refine lv_iand hx hb dX6_readyAfter_21 ?_
    refine k_topi (y := nI (mDif (eE i) d9)) (mm_andn (eE i) d9) ?_
    have hd1 := mDif_le (eE i) d9
    have hd2 := NE_k hE hq.2.1 (b := i) (by omega)
    refine lv_if_ne (tgt := 44) hx hb dX6_readyAfter_22 rfl (fun c_2 => ?_) (fun c_2 => ?_)
    · skip
      have i_2 : ¬ (mDif (eE i) d9) = 0 := fun h9 => c_2 ((nI_eq (a := (mDif (eE i) d9)) (b := 0) (by omega) (by omega)).mpr h9)
      refine lv_iconst (v := 0) hx hb dX6_readyAfter_44 kic_0 ?_
      refine lv_istore (lv' := [(4, .int 0), (0, .ref o6), (1, .int (nI d9)), (2, .int (nI rd)), (3, .int (nI i))]) hx hb dX6_readyAfter_45 hl (Nat.le_of_ble_eq_true rfl) rfl (fun ls hl => ?_)
      refine lv_iload hx hb dX6_readyAfter_47 (lv_at hl 0 rfl) ?_
      refine lv_if_eq (tgt := 66) hx hb dX6_readyAfter_49 rfl (fun _ => ?_) (fun c_3 => absurd (by decide) c_3)
      refine lv_iinc (v := nI (i + 1)) (lv' := [(3, .int (nI (i + 1))), (4, .int 0), (0, .ref o6), (1, .int (nI d9)), (2, .int (nI rd))]) hx hb dX6_readyAfter_66 hl (k := 4) rfl (nI_1 i) (by decide) rfl (fun ls hl => ?_)
      refine lv_goto (tgt := 4) hx hb dX6_readyAfter_69 rfl ?_
      exact ih4 (n6 - (i + 1)) (i + 1, rd) _ _ _ (by omega) ⟨by omega, rfl, (by first | exact RDp_add hE (by omega) hi3 (by assumption) (by assumption) | exact RDp_no1 hE (by omega) hi3 (by assumption) | exact RDp_no2 hB (by omega) hi3 (by assumption) | exact RDp_no3 hi3 (by assumption))⟩ h (lv_sub hl [2, 3, 4, 0] rfl)
    · skip
      have i_2 : (mDif (eE i) d9) = 0 := (nI_eq (a := (mDif (eE i) d9)) (b := 0) (by omega) (by omega)).mp c_2
      refine lv_aload_n hx hb dX6_readyAfter_25 rfl (lv_at hl 0 rfl) ?_
      refine k_get (v := .ref a6_3) E h (fun w h => List.mem_cons_of_mem _ (List.mem_append_right _ h)) 0 rfl rfl 3 (Nat.le_of_ble_eq_true rfl) (List.mem_of_getElem? (i := 3) rfl) rfl dX6_readyAfter_26 ?_
      refine lv_iload_n hx hb dX6_readyAfter_29 rfl (lv_at hl 3 rfl) ?_
      refine k_iald (v := nI (eB i)) E h 2 1 rfl rfl (vp_in_nI (by omega) (by omega)) (by rw [nI_clamp (by omega)]) dX6_readyAfter_30 ?_
      refine lv_iload_n hx hb dX6_readyAfter_31 rfl (lv_at hl 1 rfl) ?_
      refine lv_iload_n hx hb dX6_readyAfter_32 rfl (lv_at hl 2 rfl) ?_
      refine lv_ior hx hb dX6_readyAfter_33 ?_
      refine k_topi (y := nI (d9 ||| rd)) (mm_or d9 rd) ?_
      refine lv_iconst (v := -1) hx hb dX6_readyAfter_34 kic_m1 ?_
      refine lv_ixor hx hb dX6_readyAfter_35 ?_
      refine lv_iand hx hb dX6_readyAfter_36 ?_
      refine k_topi (y := nI (mDif (eB i) (d9 ||| rd))) (mm_andn (eB i) (d9 ||| rd)) ?_
      have hd3 := mDif_le (eB i) (d9 ||| rd)
      have hd4 := NE_k hB hq.2.1 (b := i) (by omega)
      refine lv_if_ne (tgt := 44) hx hb dX6_readyAfter_37 rfl (fun c_4 => ?_) (fun c_4 => ?_)
      · skip
        have i_4 : ¬ (mDif (eB i) (d9 ||| rd)) = 0 := fun h9 => c_4 ((nI_eq (a := (mDif (eB i) (d9 ||| rd))) (b := 0) (by omega) (by omega)).mpr h9)
        refine lv_iconst (v := 0) hx hb dX6_readyAfter_44 kic_0 ?_
        refine lv_istore (lv' := [(4, .int 0), (0, .ref o6), (1, .int (nI d9)), (2, .int (nI rd)), (3, .int (nI i))]) hx hb dX6_readyAfter_45 hl (Nat.le_of_ble_eq_true rfl) rfl (fun ls hl => ?_)
        refine lv_iload hx hb dX6_readyAfter_47 (lv_at hl 0 rfl) ?_
        refine lv_if_eq (tgt := 66) hx hb dX6_readyAfter_49 rfl (fun _ => ?_) (fun c_5 => absurd (by decide) c_5)
        refine lv_iinc (v := nI (i + 1)) (lv' := [(3, .int (nI (i + 1))), (4, .int 0), (0, .ref o6), (1, .int (nI d9)), (2, .int (nI rd))]) hx hb dX6_readyAfter_66 hl (k := 4) rfl (nI_1 i) (by decide) rfl (fun ls hl => ?_)
        refine lv_goto (tgt := 4) hx hb dX6_readyAfter_69 rfl ?_
        exact ih4 (n6 - (i + 1)) (i + 1, rd) _ _ _ (by omega) ⟨by omega, rfl, (by first | exact RDp_add hE (by omega) hi3 (by assumption) (by assumption) | exact RDp_no1 hE (by omega) hi3 (by assumption) | exact RDp_no2 hB (by omega) hi3 (by assumption) | exact RDp_no3 hi3 (by assumption))⟩ h (lv_sub hl [2, 3, 4, 0] rfl)
      · skip
        have i_4 : (mDif (eB i) (d9 ||| rd)) = 0 := (nI_eq (a := (mDif (eB i) (d9 ||| rd))) (b := 0) (by omega) (by omega)).mp c_4
        refine lv_iconst (v := 1) hx hb dX6_readyAfter_40 kic_1 ?_
        refine lv_goto (tgt := 45) hx hb dX6_readyAfter_41 rfl ?_
        refine lv_istore (lv' := [(4, .int 1), (0, .ref o6), (1, .int (nI d9)), (2, .int (nI rd)), (3, .int (nI i))]) hx hb dX6_readyAfter_45 hl (Nat.le_of_ble_eq_true rfl) rfl (fun ls hl => ?_)
        refine lv_iload hx hb dX6_readyAfter_47 (lv_at hl 0 rfl) ?_
        refine lv_if_eq (tgt := 66) hx hb dX6_readyAfter_49 rfl (fun c_6 => absurd c_6 (by decide)) (fun _ => ?_)
        refine lv_iload_n hx hb dX6_readyAfter_52 rfl (lv_at hl 2 rfl) ?_
        refine lv_iload_n hx hb dX6_readyAfter_53 rfl (lv_at hl 4 rfl) ?_
        refine kc_i (wc := []) (wr := [(o6, .inr (6, [.ref a6_0, .ref o5, .ref a6_2, .ref a6_3, .ref a6_4, .ref a6_5, .ref a6_6, .ref a6_7, .int (nI n6), .int v6_9])), (a6_2, .inl (c6_2, 10, .inl (fun j => nI (eE j)))), (a6_3, .inl (c6_3, 10, .inl (fun j => nI (eB j))))]) h (va_runSN (As := [.int (nI d9), .int (nI i)]) (rest := []) E (c_isInN l dC dI _  (m9 := d9) (i9 := i) (hm := (by omega)) (hi := (by omega))) ⟨va_cnB 2 E.2.2.2.2 gX6_readyAfter_X7_isIn_n102 rfl rfl rfl hN6_102 (E.2.2.2.2 _ (List.mem_of_getElem? (i := 5) rfl)) (by decide +kernel) ⟨Nat.le_of_ble_eq_true rfl, Nat.le_of_ble_eq_true rfl⟩, E.2.2.2.2 _ (List.mem_of_getElem? (i := 4) rfl), trivial⟩ (kPreS h KX_true (fun _ _ _ => trivial) [] [] (by decide) rfl rfl) rfl rfl hl.1 rfl (lv_room (Nat.le_of_ble_eq_true rfl)) dX6_readyAfter_54 ⟨Nat.le_of_ble_eq_true rfl, Nat.le_of_ble_eq_true rfl⟩) [] [0, 1, 2] rfl rfl (by decide) (by decide) (fun r_7 u_7 H locs hw_7 h => ?_)
        have h : KS (dC, dI) A [(o6, .inr (6, [.ref a6_0, .ref o5, .ref a6_2, .ref a6_3, .ref a6_4, .ref a6_5, .ref a6_6, .ref a6_7, .int (nI n6), .int v6_9])), (a6_2, .inl (c6_2, 10, .inl (fun j => nI (eE j)))), (a6_3, .inl (c6_3, 10, .inl (fun j => nI (eB j))))] [(c6_2, .int), (c6_3, .int)] s H locs := h
        have hw_7 : r_7 = if d9.testBit i = true then 1 else 0 := by first | exact hw_7 | (simp only [Int32.toInt_toInt64] at hw_7; exact hw_7)
        refine W.eq (g2 := F0 m 57 ls [.int r_7]) rfl ?_
        refine lv_if_ne (tgt := 66) hx hb dX6_readyAfter_57 rfl (fun c_8 => ?_) (fun c_8 => ?_)
        · skip
          have b_8 := kb1 hw_7 c_8
          refine lv_iinc (v := nI (i + 1)) (lv' := [(3, .int (nI (i + 1))), (4, .int 1), (0, .ref o6), (1, .int (nI d9)), (2, .int (nI rd))]) hx hb dX6_readyAfter_66 hl (k := 4) rfl (nI_1 i) (by decide) rfl (fun ls hl => ?_)
          refine lv_goto (tgt := 4) hx hb dX6_readyAfter_69 rfl ?_
          exact ih4 (n6 - (i + 1)) (i + 1, rd) _ _ _ (by omega) ⟨by omega, rfl, (by first | exact RDp_add hE (by omega) hi3 (by assumption) (by assumption) | exact RDp_no1 hE (by omega) hi3 (by assumption) | exact RDp_no2 hB (by omega) hi3 (by assumption) | exact RDp_no3 hi3 (by assumption))⟩ h (lv_sub hl [2, 3, 4, 0] rfl)
        · skip
          have b_8 := kb0 hw_7 c_8
          refine lv_iload_n hx hb dX6_readyAfter_60 rfl (lv_at hl 3 rfl) ?_
          refine lv_iconst (v := 1) hx hb dX6_readyAfter_61 kic_1 ?_
          refine lv_iload_n hx hb dX6_readyAfter_62 rfl (lv_at hl 4 rfl) ?_
          refine lv_ishl hx hb dX6_readyAfter_63 ?_
          refine k_topi (y := nI (2 ^ i)) (mm_shl (by omega)) ?_
          refine lv_ior hx hb dX6_readyAfter_64 ?_
          refine k_topi (y := nI (rd ||| (2 ^ i))) (mm_or rd (2 ^ i)) ?_
          refine lv_istore_n (lv' := [(2, .int (nI (rd ||| (2 ^ i)))), (4, .int 1), (0, .ref o6), (1, .int (nI d9)), (3, .int (nI i))]) hx hb dX6_readyAfter_65 rfl hl (Nat.le_of_ble_eq_true rfl) rfl (fun ls hl => ?_)
          refine lv_iinc (v := nI (i + 1)) (lv' := [(3, .int (nI (i + 1))), (2, .int (nI (rd ||| (2 ^ i)))), (4, .int 1), (0, .ref o6), (1, .int (nI d9))]) hx hb dX6_readyAfter_66 hl (k := 4) rfl (nI_1 i) (by decide) rfl (fun ls hl => ?_)
          refine lv_goto (tgt := 4) hx hb dX6_readyAfter_69 rfl ?_
          exact ih4 (n6 - (i + 1)) (i + 1, (rd ||| (2 ^ i))) _ _ _ (by omega) ⟨by omega, rfl, (by first | exact RDp_add hE (by omega) hi3 (by assumption) (by assumption) | exact RDp_no1 hE (by omega) hi3 (by assumption) | exact RDp_no2 hB (by omega) hi3 (by assumption) | exact RDp_no3 hi3 (by assumption))⟩ h (lv_sub hl [3, 4, 1, 0] rfl)
set_option maxHeartbeats 4000000 in
set_option maxRecDepth 100000 in
theorem c_X6_urgentOf (l : Launch) (dC : Nat → ClassId) (dI : Nat → Nat → Nat) (sz : Nat) (o6 : Nat) (a6_0 : Nat) (o5 : Nat) (a6_2 : Nat) (a6_3 : Nat) (a6_4 : Nat) (a6_5 : Nat) (a6_6 : Nat) (a6_7 : Nat) (v6_9 : Int32) (c6_4 : ClassId) (q : mPI) (n6 : Nat) (eW : Nat → Nat) (rs : Nat) (lf : Nat) (hq : q.1 = n6 ∧ n6 ≤ 10 ∧ 1 ≤ q.2.2.2 ∧ q.2.2.2 ≤ 3) (hW : WL q.2.1 n6 0 eW) (hrs : rs < 1024) (hlf : 1 ≤ lf ∧ lf ≤ 10) : Met l yX6_urgentOf wsX6_urgentOf ({ frames := 1, cells := 0, slots := 0, locals := 21 } : Room) (va_Pc [.ref o6, .int (nI rs), .int (nI lf)] (KPre (dC, dI) [(o6, .inr (6, [.ref a6_0, .ref o5, .ref a6_2, .ref a6_3, .ref a6_4, .ref a6_5, .ref a6_6, .ref a6_7, .int (nI n6), .int v6_9])), (a6_4, .inl (c6_4, 10, .inl (fun j => nI (eW j))))] [(c6_4, .int)] sz (fun U => KAll (va_A [(o6, .inr (6, [.ref a6_0, .ref o5, .ref a6_2, .ref a6_3, .ref a6_4, .ref a6_5, .ref a6_6, .ref a6_7, .int (nI n6), .int v6_9])), (a6_4, .inl (c6_4, 10, .inl (fun j => nI (eW j))))] sz) U))) (va_Qi (fun (r : Int32) (u : Nat) => r = nI u ∧ UG eW rs lf u q.1) (KPost (dC, dI) (va_A [(o6, .inr (6, [.ref a6_0, .ref o5, .ref a6_2, .ref a6_3, .ref a6_4, .ref a6_5, .ref a6_6, .ref a6_7, .int (nI n6), .int v6_9])), (a6_4, .inl (c6_4, 10, .inl (fun j => nI (eW j))))] sz) (fun (u : Nat) => [(o6, .inr (6, [.ref a6_0, .ref o5, .ref a6_2, .ref a6_3, .ref a6_4, .ref a6_5, .ref a6_6, .ref a6_7, .int (nI n6), .int v6_9])), (a6_4, .inl (c6_4, 10, .inl (fun j => nI (eW j))))])) (va_A [(o6, .inr (6, [.ref a6_0, .ref o5, .ref a6_2, .ref a6_3, .ref a6_4, .ref a6_5, .ref a6_6, .ref a6_7, .int (nI n6), .int v6_9])), (a6_4, .inl (c6_4, 10, .inl (fun j => nI (eW j))))] sz)) 0 0 (va_A [(o6, .inr (6, [.ref a6_0, .ref o5, .ref a6_2, .ref a6_3, .ref a6_4, .ref a6_5, .ref a6_6, .ref a6_7, .int (nI n6), .int v6_9])), (a6_4, .inl (c6_4, 10, .inl (fun j => nI (eW j))))] sz) := by
  refine kMet (y := yX6_urgentOf) (wsM := wsX6_urgentOf) (cc := cX6_urgentOf) (maxL := 5) (ret := (some .int)) (rm := ({ frames := 1, cells := 0, slots := 0, locals := 21 } : Room)) (mc := 0) (ms := 0) (av := [.ref o6, .int (nI rs), .int (nI lf)]) (D := (dC, dI)) (wc := [(o6, .inr (6, [.ref a6_0, .ref o5, .ref a6_2, .ref a6_3, .ref a6_4, .ref a6_5, .ref a6_6, .ref a6_7, .int (nI n6), .int v6_9])), (a6_4, .inl (c6_4, 10, .inl (fun j => nI (eW j))))]) (tc := [(c6_4, .int)]) (sz := sz) (X := fun U => KAll (va_A [(o6, .inr (6, [.ref a6_0, .ref o5, .ref a6_2, .ref a6_3, .ref a6_4, .ref a6_5, .ref a6_6, .ref a6_7, .int (nI n6), .int v6_9])), (a6_4, .inl (c6_4, 10, .inl (fun j => nI (eW j))))] sz) U) (Qc := fun A => va_Qi (fun (r : Int32) (u : Nat) => r = nI u ∧ UG eW rs lf u q.1) (KPost (dC, dI) A (fun (u : Nat) => [(o6, .inr (6, [.ref a6_0, .ref o5, .ref a6_2, .ref a6_3, .ref a6_4, .ref a6_5, .ref a6_6, .ref a6_7, .int (nI n6), .int v6_9])), (a6_4, .inl (c6_4, 10, .inl (fun j => nI (eW j))))])) A) (by decide) rfl (Nat.le_of_ble_eq_true rfl) ?_
  intro p e s m below meth c A ls E hr hlocks hnm hsz hAe hX h hl
  have hx := E.1
  have hb := E.2.1
  have hl : lv_has ls 5 [(0, .ref o6), (1, .int (nI rs)), (2, .int (nI lf))] := hl
  have hX : KAll A s := by rw [← hAe]; exact hX
  obtain ⟨⟨tD, hZD, hTD⟩, ⟨tX, hZX, hTX⟩, ⟨tY, hZY, hTY⟩, ⟨tP, hZP, hTP⟩, ⟨tL, hZL, hTL⟩, ⟨tM, hZM, hTM⟩, hN0_134, hN0_60, hN0_96, hN1_83, hN1_87, hN3_49, hN3_52, hN4_44, hN4_69, hN5_33, hN6_102, hN6_67, hF37, hF40, hF50, hF53⟩ := id hX
  refine lv_iconst (v := 0) hx hb dX6_urgentOf_0 kic_0 ?_
  refine lv_istore_n (lv' := [(3, .int 0), (0, .ref o6), (1, .int (nI rs)), (2, .int (nI lf))]) hx hb dX6_urgentOf_1 rfl hl (Nat.le_of_ble_eq_true rfl) rfl (fun ls hl => ?_)
  refine lv_iconst (v := 0) hx hb dX6_urgentOf_2 kic_0 ?_
  refine lv_istore (lv' := [(4, .int 0), (3, .int 0), (0, .ref o6), (1, .int (nI rs)), (2, .int (nI lf))]) hx hb dX6_urgentOf_3 hl (Nat.le_of_ble_eq_true rfl) rfl (fun ls hl => ?_)
  refine k_loop (σ := Nat × Nat) (fun x9 => [(o6, .inr (6, [.ref a6_0, .ref o5, .ref a6_2, .ref a6_3, .ref a6_4, .ref a6_5, .ref a6_6, .ref a6_7, .int (nI n6), .int v6_9])), (a6_4, .inl (c6_4, 10, .inl (fun j => nI (eW j))))]) (fun x9 => [(0, .ref o6), (1, .int (nI rs)), (2, .int (nI lf)), (3, .int (nI x9.2)), (4, .int (nI x9.1))]) (fun n9 x9 => x9.1 ≤ n6 ∧ n9 = n6 - x9.1 ∧ UG eW rs lf x9.2 x9.1) ?_ (n6 - 0) (0, 0) ⟨by omega, rfl, UG_0 eW rs lf⟩ h (lv_sub hl [2, 3, 4, 1, 0] rfl)
  intro n9 x9 H locs ls hI h hl ih5
  obtain ⟨i, ug⟩ := x9
  have hI : i ≤ n6 ∧ n9 = n6 - i ∧ UG eW rs lf ug i := hI
  have h : KS (dC, dI) A [(o6, .inr (6, [.ref a6_0, .ref o5, .ref a6_2, .ref a6_3, .ref a6_4, .ref a6_5, .ref a6_6, .ref a6_7, .int (nI n6), .int v6_9])), (a6_4, .inl (c6_4, 10, .inl (fun j => nI (eW j))))] [(c6_4, .int)] s H locs := h
  have hl : lv_has ls 5 [(0, .ref o6), (1, .int (nI rs)), (2, .int (nI lf)), (3, .int (nI ug)), (4, .int (nI i))] := hl
  obtain ⟨hi1, hi2, hi3⟩ := hI
  refine lv_iload hx hb dX6_urgentOf_5 (lv_at hl 4 rfl) ?_
  refine lv_aload_n hx hb dX6_urgentOf_7 rfl (lv_at hl 0 rfl) ?_
  refine k_get (v := .int (nI n6)) E h (fun w h => List.mem_cons_of_mem _ (List.mem_append_right _ h)) 0 rfl rfl 8 (Nat.le_of_ble_eq_true rfl) (List.mem_of_getElem? (i := 1) rfl) rfl dX6_urgentOf_8 ?_
  refine lv_icmp_ge (tgt := 49) hx hb dX6_urgentOf_11 rfl (fun c_1 => ?_) (fun c_1 => ?_)
  · skip
    have i_1 : n6 ≤ i := (nI_leI (a := n6) (b := i) (by omega) (by omega)).mp c_1
    refine lv_iload_n hx hb dX6_urgentOf_49 rfl (lv_at hl 3 rfl) ?_
    have hP9 := h.2.1.sub [0, 1] rfl
    have hD9 := h.2.2.1.sub (ws' := [(o6, .inr (6, [.ref a6_0, .ref o5, .ref a6_2, .ref a6_3, .ref a6_4, .ref a6_5, .ref a6_6, .ref a6_7, .int (nI n6), .int v6_9])), (a6_4, .inl (c6_4, 10, .inl (fun j => nI (eW j))))]) [0, 1] (by decide) rfl
    exact W.iret (v := nI ug) hx hb hr (fun t ht hW => ⟨⟨nI ug, ug, rfl, ⟨rfl, (by rw [hq.1, show n6 = i by omega]; exact hi3)⟩, (by rw [ht]; exact hP9), hD9⟩, h.2.2.2.1.F ht⟩) h.2.2.2.1.2.2 dX6_urgentOf_50 hlocks
  · skip
    have i_1 : ¬ n6 ≤ i := fun h9 => c_1 ((nI_leI (a := n6) (b := i) (by omega) (by omega)).mpr h9)
    refine lv_iload_n hx hb dX6_urgentOf_14 rfl (lv_at hl 1 rfl) ?_
    refine lv_iload hx hb dX6_urgentOf_15 (lv_at hl 4 rfl) ?_
    refine kc_i (wc := []) (wr := [(o6, .inr (6, [.ref a6_0, .ref o5, .ref a6_2, .ref a6_3, .ref a6_4, .ref a6_5, .ref a6_6, .ref a6_7, .int (nI n6), .int v6_9])), (a6_4, .inl (c6_4, 10, .inl (fun j => nI (eW j))))]) h (va_runSN (As := [.int (nI rs), .int (nI i)]) (rest := []) E (c_isInN l dC dI _  (m9 := rs) (i9 := i) (hm := (by omega)) (hi := (by omega))) ⟨va_cnB 2 E.2.2.2.2 gX6_urgentOf_X7_isIn_n102 rfl rfl rfl hN6_102 (E.2.2.2.2 _ (List.mem_of_getElem? (i := 4) rfl)) (by decide +kernel) ⟨Nat.le_of_ble_eq_true rfl, Nat.le_of_ble_eq_true rfl⟩, E.2.2.2.2 _ (List.mem_of_getElem? (i := 3) rfl), trivial⟩ (kPreS h KX_true (fun _ _ _ => trivial) [] [] (by decide) rfl rfl) rfl rfl hl.1 rfl (lv_room (Nat.le_of_ble_eq_true rfl)) dX6_urgentOf_17 ⟨Nat.le_of_ble_eq_true rfl, Nat.le_of_ble_eq_true rfl⟩) [] [0, 1] rfl rfl (by decide) (by decide) (fun r_2 u_2 H locs hw_2 h => ?_)
    have h : KS (dC, dI) A [(o6, .inr (6, [.ref a6_0, .ref o5, .ref a6_2, .ref a6_3, .ref a6_4, .ref a6_5, .ref a6_6, .ref a6_7, .int (nI n6), .int v6_9])), (a6_4, .inl (c6_4, 10, .inl (fun j => nI (eW j))))] [(c6_4, .int)] s H locs := h
    have hw_2 : r_2 = if rs.testBit i = true then 1 else 0 := by first | exact hw_2 | (simp only [Int32.toInt_toInt64] at hw_2; exact hw_2)
    refine W.eq (g2 := F0 m 20 ls [.int r_2]) rfl ?_
    refine lv_if_eq (tgt := 43) hx hb dX6_urgentOf_20 rfl (fun c_3 => ?_) (fun c_3 => ?_)
    · skip
      have b_3 := kb0 hw_2 c_3
      refine lv_iinc (v := nI (i + 1)) (lv' := [(4, .int (nI (i + 1))), (0, .ref o6), (1, .int (nI rs)), (2, .int (nI lf)), (3, .int (nI ug))]) hx hb dX6_urgentOf_43 hl (k := 4) rfl (nI_1 i) (by decide) rfl (fun ls hl => ?_)
      refine lv_goto (tgt := 5) hx hb dX6_urgentOf_46 rfl ?_
      exact ih5 (n6 - (i + 1)) (i + 1, ug) _ _ _ (by omega) ⟨by omega, rfl, (by first | exact UG_add hi3 (by assumption) (by assumption) hlf.1 | exact UG_no hi3 (Or.inl (by assumption)) | exact UG_no hi3 (Or.inr (by assumption)))⟩ h (lv_sub hl [1, 2, 3, 4, 0] rfl)
    · skip
      have b_3 := kb1 hw_2 c_3
      refine lv_aload_n hx hb dX6_urgentOf_23 rfl (lv_at hl 0 rfl) ?_
      refine k_get (v := .ref a6_4) E h (fun w h => List.mem_cons_of_mem _ (List.mem_append_right _ h)) 0 rfl rfl 4 (Nat.le_of_ble_eq_true rfl) (List.mem_of_getElem? (i := 2) rfl) rfl dX6_urgentOf_24 ?_
      refine lv_iload hx hb dX6_urgentOf_27 (lv_at hl 4 rfl) ?_
      refine k_iald (v := nI (eW i)) E h 1 0 rfl rfl (vp_in_nI (by omega) (by omega)) (by rw [nI_clamp (by omega)]) dX6_urgentOf_29 ?_
      have hwk := WL_k hW (i := i) (by omega)
      refine lv_iload_n hx hb dX6_urgentOf_30 rfl (lv_at hl 2 rfl) ?_
      refine lv_iconst (v := 1) hx hb dX6_urgentOf_31 kic_1 ?_
      refine lv_isub hx hb dX6_urgentOf_32 ?_
      refine k_topi (y := nI (lf - 1)) (pk_sub (a := lf) (b := 1) (by omega)) ?_
      refine lv_icmp_ne (tgt := 43) hx hb dX6_urgentOf_33 rfl (fun c_4 => ?_) (fun c_4 => ?_)
      · skip
        have i_4 : ¬ (eW i) = (lf - 1) := fun h9 => c_4 ((nI_eq (a := (eW i)) (b := (lf - 1)) (by omega) (by omega)).mpr h9)
        refine lv_iinc (v := nI (i + 1)) (lv' := [(4, .int (nI (i + 1))), (0, .ref o6), (1, .int (nI rs)), (2, .int (nI lf)), (3, .int (nI ug))]) hx hb dX6_urgentOf_43 hl (k := 4) rfl (nI_1 i) (by decide) rfl (fun ls hl => ?_)
        refine lv_goto (tgt := 5) hx hb dX6_urgentOf_46 rfl ?_
        exact ih5 (n6 - (i + 1)) (i + 1, ug) _ _ _ (by omega) ⟨by omega, rfl, (by first | exact UG_add hi3 (by assumption) (by assumption) hlf.1 | exact UG_no hi3 (Or.inl (by assumption)) | exact UG_no hi3 (Or.inr (by assumption)))⟩ h (lv_sub hl [1, 2, 3, 4, 0] rfl)
      · skip
        have i_4 : (eW i) = (lf - 1) := (nI_eq (a := (eW i)) (b := (lf - 1)) (by omega) (by omega)).mp c_4
        refine lv_iload_n hx hb dX6_urgentOf_36 rfl (lv_at hl 3 rfl) ?_
        refine lv_iconst (v := 1) hx hb dX6_urgentOf_37 kic_1 ?_
        refine lv_iload hx hb dX6_urgentOf_38 (lv_at hl 4 rfl) ?_
        refine lv_ishl hx hb dX6_urgentOf_40 ?_
        refine k_topi (y := nI (2 ^ i)) (mm_shl (by omega)) ?_
        refine lv_ior hx hb dX6_urgentOf_41 ?_
        refine k_topi (y := nI (ug ||| (2 ^ i))) (mm_or ug (2 ^ i)) ?_
        refine lv_istore_n (lv' := [(3, .int (nI (ug ||| (2 ^ i)))), (0, .ref o6), (1, .int (nI rs)), (2, .int (nI lf)), (4, .int (nI i))]) hx hb dX6_urgentOf_42 rfl hl (Nat.le_of_ble_eq_true rfl) rfl (fun ls hl => ?_)
        refine lv_iinc (v := nI (i + 1)) (lv' := [(4, .int (nI (i + 1))), (3, .int (nI (ug ||| (2 ^ i)))), (0, .ref o6), (1, .int (nI rs)), (2, .int (nI lf))]) hx hb dX6_urgentOf_43 hl (k := 4) rfl (nI_1 i) (by decide) rfl (fun ls hl => ?_)
        refine lv_goto (tgt := 5) hx hb dX6_urgentOf_46 rfl ?_
        exact ih5 (n6 - (i + 1)) (i + 1, (ug ||| (2 ^ i))) _ _ _ (by omega) ⟨by omega, rfl, (by first | exact UG_add hi3 (by assumption) (by assumption) hlf.1 | exact UG_no hi3 (Or.inl (by assumption)) | exact UG_no hi3 (Or.inr (by assumption)))⟩ h (lv_sub hl [2, 3, 4, 1, 0] rfl)
set_option maxHeartbeats 4000000 in
set_option maxRecDepth 100000 in
theorem c_X6_canMeet (l : Launch) (dC : Nat → ClassId) (dI : Nat → Nat → Nat) (sz : Nat) (o6 : Nat) (a6_0 : Nat) (o5 : Nat) (a6_2 : Nat) (a6_3 : Nat) (a6_4 : Nat) (a6_5 : Nat) (a6_6 : Nat) (a6_7 : Nat) (v6_9 : Int32) (c6_5 : ClassId) (c6_6 : ClassId) (c6_3 : ClassId) (q : mPI) (n6 : Nat) (eP : Nat → Nat) (eR : Nat → Nat) (eB : Nat → Nat) (ac : Nat) (rd : Nat) (d9 : Nat) (hq : q.1 = n6 ∧ n6 ≤ 10 ∧ 1 ≤ q.2.2.2 ∧ q.2.2.2 ≤ 3) (hP : ∀ p, p < 5 → eP p = mOP q.2.2.1 p n6) (hR : ∀ p, p < 5 → eR p = pRoom q.2.2.2 p) (hB : NE q.2.1 n6 0 0 1 eB) (hac : ac < 1024) (hrd : rd < 2 ^ n6) (hd : d9 < 1024) : Met l yX6_canMeet wsX6_canMeet ({ frames := 1, cells := 0, slots := 0, locals := 21 } : Room) (va_Pc [.ref o6, .int (nI ac), .int (nI rd), .int (nI d9)] (KPre (dC, dI) [(o6, .inr (6, [.ref a6_0, .ref o5, .ref a6_2, .ref a6_3, .ref a6_4, .ref a6_5, .ref a6_6, .ref a6_7, .int (nI n6), .int v6_9])), (a6_5, .inl (c6_5, 5, .inl (fun j => nI (eP j)))), (a6_6, .inl (c6_6, 5, .inl (fun j => nI (eR j)))), (a6_3, .inl (c6_3, 10, .inl (fun j => nI (eB j))))] [(c6_5, .int), (c6_6, .int), (c6_3, .int)] sz (fun U => KAll (va_A [(o6, .inr (6, [.ref a6_0, .ref o5, .ref a6_2, .ref a6_3, .ref a6_4, .ref a6_5, .ref a6_6, .ref a6_7, .int (nI n6), .int v6_9])), (a6_5, .inl (c6_5, 5, .inl (fun j => nI (eP j)))), (a6_6, .inl (c6_6, 5, .inl (fun j => nI (eR j)))), (a6_3, .inl (c6_3, 10, .inl (fun j => nI (eB j))))] sz) U))) (va_Qi (fun (r : Int32) (u : Unit) => (r = 1 ∧ CMq q d9 rd ac) ∨ (r = 0 ∧ ¬ CMq q d9 rd ac)) (KPost (dC, dI) (va_A [(o6, .inr (6, [.ref a6_0, .ref o5, .ref a6_2, .ref a6_3, .ref a6_4, .ref a6_5, .ref a6_6, .ref a6_7, .int (nI n6), .int v6_9])), (a6_5, .inl (c6_5, 5, .inl (fun j => nI (eP j)))), (a6_6, .inl (c6_6, 5, .inl (fun j => nI (eR j)))), (a6_3, .inl (c6_3, 10, .inl (fun j => nI (eB j))))] sz) (fun (u : Unit) => [(o6, .inr (6, [.ref a6_0, .ref o5, .ref a6_2, .ref a6_3, .ref a6_4, .ref a6_5, .ref a6_6, .ref a6_7, .int (nI n6), .int v6_9])), (a6_5, .inl (c6_5, 5, .inl (fun j => nI (eP j)))), (a6_6, .inl (c6_6, 5, .inl (fun j => nI (eR j)))), (a6_3, .inl (c6_3, 10, .inl (fun j => nI (eB j))))])) (va_A [(o6, .inr (6, [.ref a6_0, .ref o5, .ref a6_2, .ref a6_3, .ref a6_4, .ref a6_5, .ref a6_6, .ref a6_7, .int (nI n6), .int v6_9])), (a6_5, .inl (c6_5, 5, .inl (fun j => nI (eP j)))), (a6_6, .inl (c6_6, 5, .inl (fun j => nI (eR j)))), (a6_3, .inl (c6_3, 10, .inl (fun j => nI (eB j))))] sz)) 0 0 (va_A [(o6, .inr (6, [.ref a6_0, .ref o5, .ref a6_2, .ref a6_3, .ref a6_4, .ref a6_5, .ref a6_6, .ref a6_7, .int (nI n6), .int v6_9])), (a6_5, .inl (c6_5, 5, .inl (fun j => nI (eP j)))), (a6_6, .inl (c6_6, 5, .inl (fun j => nI (eR j)))), (a6_3, .inl (c6_3, 10, .inl (fun j => nI (eB j))))] sz) := by
  refine kMet (y := yX6_canMeet) (wsM := wsX6_canMeet) (cc := cX6_canMeet) (maxL := 5) (ret := (some .boolean)) (rm := ({ frames := 1, cells := 0, slots := 0, locals := 21 } : Room)) (mc := 0) (ms := 0) (av := [.ref o6, .int (nI ac), .int (nI rd), .int (nI d9)]) (D := (dC, dI)) (wc := [(o6, .inr (6, [.ref a6_0, .ref o5, .ref a6_2, .ref a6_3, .ref a6_4, .ref a6_5, .ref a6_6, .ref a6_7, .int (nI n6), .int v6_9])), (a6_5, .inl (c6_5, 5, .inl (fun j => nI (eP j)))), (a6_6, .inl (c6_6, 5, .inl (fun j => nI (eR j)))), (a6_3, .inl (c6_3, 10, .inl (fun j => nI (eB j))))]) (tc := [(c6_5, .int), (c6_6, .int), (c6_3, .int)]) (sz := sz) (X := fun U => KAll (va_A [(o6, .inr (6, [.ref a6_0, .ref o5, .ref a6_2, .ref a6_3, .ref a6_4, .ref a6_5, .ref a6_6, .ref a6_7, .int (nI n6), .int v6_9])), (a6_5, .inl (c6_5, 5, .inl (fun j => nI (eP j)))), (a6_6, .inl (c6_6, 5, .inl (fun j => nI (eR j)))), (a6_3, .inl (c6_3, 10, .inl (fun j => nI (eB j))))] sz) U) (Qc := fun A => va_Qi (fun (r : Int32) (u : Unit) => (r = 1 ∧ CMq q d9 rd ac) ∨ (r = 0 ∧ ¬ CMq q d9 rd ac)) (KPost (dC, dI) A (fun (u : Unit) => [(o6, .inr (6, [.ref a6_0, .ref o5, .ref a6_2, .ref a6_3, .ref a6_4, .ref a6_5, .ref a6_6, .ref a6_7, .int (nI n6), .int v6_9])), (a6_5, .inl (c6_5, 5, .inl (fun j => nI (eP j)))), (a6_6, .inl (c6_6, 5, .inl (fun j => nI (eR j)))), (a6_3, .inl (c6_3, 10, .inl (fun j => nI (eB j))))])) A) (by decide) rfl (Nat.le_of_ble_eq_true rfl) ?_
  intro p e s m below meth c A ls E hr hlocks hnm hsz hAe hX h hl
  have hx := E.1
  have hb := E.2.1
  have hl : lv_has ls 5 [(0, .ref o6), (1, .int (nI ac)), (2, .int (nI rd)), (3, .int (nI d9))] := hl
  have hX : KAll A s := by rw [← hAe]; exact hX
  obtain ⟨⟨tD, hZD, hTD⟩, ⟨tX, hZX, hTX⟩, ⟨tY, hZY, hTY⟩, ⟨tP, hZP, hTP⟩, ⟨tL, hZL, hTL⟩, ⟨tM, hZM, hTM⟩, hN0_134, hN0_60, hN0_96, hN1_83, hN1_87, hN3_49, hN3_52, hN4_44, hN4_69, hN5_33, hN6_102, hN6_67, hF37, hF40, hF50, hF53⟩ := id hX
  refine lv_iload_n hx hb dX6_canMeet_0 rfl (lv_at hl 1 rfl) ?_
  refine lv_iload_n hx hb dX6_canMeet_1 rfl (lv_at hl 2 rfl) ?_
  refine lv_iconst (v := -1) hx hb dX6_canMeet_2 kic_m1 ?_
  refine lv_ixor hx hb dX6_canMeet_3 ?_
  refine lv_iand hx hb dX6_canMeet_4 ?_
  refine k_topi (y := nI (mDif ac rd)) (mm_andn ac rd) ?_
  have hd1 := mDif_le ac rd
  refine lv_if_eq (tgt := 10) hx hb dX6_canMeet_5 rfl (fun c_1 => ?_) (fun c_1 => ?_)
  · skip
    have i_1 : (mDif ac rd) = 0 := (nI_eq (a := (mDif ac rd)) (b := 0) (by omega) (by omega)).mp c_1
    have hsub := mDif_0.mp i_1
    refine lv_iconst (v := 0) hx hb dX6_canMeet_10 kic_0 ?_
    refine lv_istore (lv' := [(4, .int 0), (0, .ref o6), (1, .int (nI ac)), (2, .int (nI rd)), (3, .int (nI d9))]) hx hb dX6_canMeet_11 hl (Nat.le_of_ble_eq_true rfl) rfl (fun ls hl => ?_)
    refine k_loop (σ := Nat) (fun x9 => [(o6, .inr (6, [.ref a6_0, .ref o5, .ref a6_2, .ref a6_3, .ref a6_4, .ref a6_5, .ref a6_6, .ref a6_7, .int (nI n6), .int v6_9])), (a6_5, .inl (c6_5, 5, .inl (fun j => nI (eP j)))), (a6_6, .inl (c6_6, 5, .inl (fun j => nI (eR j)))), (a6_3, .inl (c6_3, 10, .inl (fun j => nI (eB j))))]) (fun x9 => [(0, .ref o6), (1, .int (nI ac)), (2, .int (nI rd)), (3, .int (nI d9)), (4, .int (nI x9))]) (fun n9 x9 => x9 ≤ 5 ∧ n9 = 5 - x9 ∧ ∀ p, p < x9 → pcn q.2.2.1 ac p q.1 ≤ pRoom q.2.2.2 p) ?_ (5 - 0) 0 ⟨by omega, rfl, fun j h => absurd h (Nat.not_lt_zero j)⟩ h (lv_sub hl [1, 2, 3, 4, 0] rfl)
    intro n9 x9 H locs ls hI h hl ih13
    obtain ⟨i, rfl⟩ : ∃ z, z = x9 := ⟨_, rfl⟩
    have hI : i ≤ 5 ∧ n9 = 5 - i ∧ ∀ p, p < i → pcn q.2.2.1 ac p q.1 ≤ pRoom q.2.2.2 p := hI
    have h : KS (dC, dI) A [(o6, .inr (6, [.ref a6_0, .ref o5, .ref a6_2, .ref a6_3, .ref a6_4, .ref a6_5, .ref a6_6, .ref a6_7, .int (nI n6), .int v6_9])), (a6_5, .inl (c6_5, 5, .inl (fun j => nI (eP j)))), (a6_6, .inl (c6_6, 5, .inl (fun j => nI (eR j)))), (a6_3, .inl (c6_3, 10, .inl (fun j => nI (eB j))))] [(c6_5, .int), (c6_6, .int), (c6_3, .int)] s H locs := h
    have hl : lv_has ls 5 [(0, .ref o6), (1, .int (nI ac)), (2, .int (nI rd)), (3, .int (nI d9)), (4, .int (nI i))] := hl
    obtain ⟨hi1, hi2, hi3⟩ := hI
    refine lv_iload hx hb dX6_canMeet_13 (lv_at hl 4 rfl) ?_
    refine lv_iconst (v := 5) hx hb dX6_canMeet_15 kic_5 ?_
    refine lv_icmp_ge (tgt := 49) hx hb dX6_canMeet_16 rfl (fun c_2 => ?_) (fun c_2 => ?_)
    · skip
      have i_2 : 5 ≤ i := (nI_leI (a := 5) (b := i) (by omega) (by omega)).mp c_2
      refine lv_iconst (v := 0) hx hb dX6_canMeet_49 kic_0 ?_
      refine lv_istore (lv' := [(4, .int 0), (0, .ref o6), (1, .int (nI ac)), (2, .int (nI rd)), (3, .int (nI d9))]) hx hb dX6_canMeet_50 hl (Nat.le_of_ble_eq_true rfl) rfl (fun ls hl => ?_)
      refine k_loop (σ := Nat) (fun x9 => [(o6, .inr (6, [.ref a6_0, .ref o5, .ref a6_2, .ref a6_3, .ref a6_4, .ref a6_5, .ref a6_6, .ref a6_7, .int (nI n6), .int v6_9])), (a6_5, .inl (c6_5, 5, .inl (fun j => nI (eP j)))), (a6_6, .inl (c6_6, 5, .inl (fun j => nI (eR j)))), (a6_3, .inl (c6_3, 10, .inl (fun j => nI (eB j))))]) (fun x9 => [(0, .ref o6), (1, .int (nI ac)), (2, .int (nI rd)), (3, .int (nI d9)), (4, .int (nI x9))]) (fun n9 x9 => x9 ≤ n6 ∧ n9 = n6 - x9 ∧ ∀ j, j < x9 → ac.testBit j = true → ∀ a, a < j → q.2.1 a j = 1 → d9.testBit a = true ∨ ac.testBit a = true) ?_ (n6 - 0) 0 ⟨by omega, rfl, fun j h => absurd h (Nat.not_lt_zero j)⟩ h (lv_sub hl [1, 2, 3, 4, 0] rfl)
      intro n9 x9 H locs ls hI h hl ih52
      obtain ⟨i, rfl⟩ : ∃ z, z = x9 := ⟨_, rfl⟩
      have hI : i ≤ n6 ∧ n9 = n6 - i ∧ ∀ j, j < i → ac.testBit j = true → ∀ a, a < j → q.2.1 a j = 1 → d9.testBit a = true ∨ ac.testBit a = true := hI
      have h : KS (dC, dI) A [(o6, .inr (6, [.ref a6_0, .ref o5, .ref a6_2, .ref a6_3, .ref a6_4, .ref a6_5, .ref a6_6, .ref a6_7, .int (nI n6), .int v6_9])), (a6_5, .inl (c6_5, 5, .inl (fun j => nI (eP j)))), (a6_6, .inl (c6_6, 5, .inl (fun j => nI (eR j)))), (a6_3, .inl (c6_3, 10, .inl (fun j => nI (eB j))))] [(c6_5, .int), (c6_6, .int), (c6_3, .int)] s H locs := h
      have hl : lv_has ls 5 [(0, .ref o6), (1, .int (nI ac)), (2, .int (nI rd)), (3, .int (nI d9)), (4, .int (nI i))] := hl
      obtain ⟨hj1, hj2, hj3⟩ := hI
      refine lv_iload hx hb dX6_canMeet_52 (lv_at hl 4 rfl) ?_
      refine lv_aload_n hx hb dX6_canMeet_54 rfl (lv_at hl 0 rfl) ?_
      refine k_get (v := .int (nI n6)) E h (fun w h => List.mem_cons_of_mem _ (List.mem_append_right _ h)) 0 rfl rfl 8 (Nat.le_of_ble_eq_true rfl) (List.mem_of_getElem? (i := 3) rfl) rfl dX6_canMeet_55 ?_
      refine lv_icmp_ge (tgt := 94) hx hb dX6_canMeet_58 rfl (fun c_3 => ?_) (fun c_3 => ?_)
      · skip
        have i_3 : n6 ≤ i := (nI_leI (a := n6) (b := i) (by omega) (by omega)).mp c_3
        refine lv_iconst (v := 1) hx hb dX6_canMeet_94 kic_1 ?_
        have hP9 := h.2.1.sub [0, 1, 2, 3] rfl
        have hD9 := h.2.2.1.sub (ws' := [(o6, .inr (6, [.ref a6_0, .ref o5, .ref a6_2, .ref a6_3, .ref a6_4, .ref a6_5, .ref a6_6, .ref a6_7, .int (nI n6), .int v6_9])), (a6_5, .inl (c6_5, 5, .inl (fun j => nI (eP j)))), (a6_6, .inl (c6_6, 5, .inl (fun j => nI (eR j)))), (a6_3, .inl (c6_3, 10, .inl (fun j => nI (eB j))))]) [0, 1, 2, 3] (by decide) rfl
        exact W.zret (v := 1) hx hb hr (by decide) (fun t ht hW => ⟨⟨1, (), rfl, Or.inl ⟨rfl, hsub, fun p hp => hi3 p (by omega), fun j hj => hj3 j (by have := mBit_lt hrd (hsub j hj); omega) hj⟩, (by rw [ht]; exact hP9), hD9⟩, h.2.2.2.1.F ht⟩) h.2.2.2.1.2.2 dX6_canMeet_95 hlocks
      · skip
        have i_3 : ¬ n6 ≤ i := fun h9 => c_3 ((nI_leI (a := n6) (b := i) (by omega) (by omega)).mpr h9)
        refine lv_iload_n hx hb dX6_canMeet_61 rfl (lv_at hl 1 rfl) ?_
        refine lv_iload hx hb dX6_canMeet_62 (lv_at hl 4 rfl) ?_
        refine kc_i (wc := []) (wr := [(o6, .inr (6, [.ref a6_0, .ref o5, .ref a6_2, .ref a6_3, .ref a6_4, .ref a6_5, .ref a6_6, .ref a6_7, .int (nI n6), .int v6_9])), (a6_5, .inl (c6_5, 5, .inl (fun j => nI (eP j)))), (a6_6, .inl (c6_6, 5, .inl (fun j => nI (eR j)))), (a6_3, .inl (c6_3, 10, .inl (fun j => nI (eB j))))]) h (va_runSN (As := [.int (nI ac), .int (nI i)]) (rest := []) E (c_isInN l dC dI _  (m9 := ac) (i9 := i) (hm := (by omega)) (hi := (by omega))) ⟨va_cnB 2 E.2.2.2.2 gX6_canMeet_X7_isIn_n102 rfl rfl rfl hN6_102 (E.2.2.2.2 _ (List.mem_of_getElem? (i := 13) rfl)) (by decide +kernel) ⟨Nat.le_of_ble_eq_true rfl, Nat.le_of_ble_eq_true rfl⟩, E.2.2.2.2 _ (List.mem_of_getElem? (i := 12) rfl), trivial⟩ (kPreS h KX_true (fun _ _ _ => trivial) [] [] (by decide) rfl rfl) rfl rfl hl.1 rfl (lv_room (Nat.le_of_ble_eq_true rfl)) dX6_canMeet_64 ⟨Nat.le_of_ble_eq_true rfl, Nat.le_of_ble_eq_true rfl⟩) [] [0, 1, 2, 3] rfl rfl (by decide) (by decide) (fun r_4 u_4 H locs hw_4 h => ?_)
        have h : KS (dC, dI) A [(o6, .inr (6, [.ref a6_0, .ref o5, .ref a6_2, .ref a6_3, .ref a6_4, .ref a6_5, .ref a6_6, .ref a6_7, .int (nI n6), .int v6_9])), (a6_5, .inl (c6_5, 5, .inl (fun j => nI (eP j)))), (a6_6, .inl (c6_6, 5, .inl (fun j => nI (eR j)))), (a6_3, .inl (c6_3, 10, .inl (fun j => nI (eB j))))] [(c6_5, .int), (c6_6, .int), (c6_3, .int)] s H locs := h
        have hw_4 : r_4 = if ac.testBit i = true then 1 else 0 := by first | exact hw_4 | (simp only [Int32.toInt_toInt64] at hw_4; exact hw_4)
        refine W.eq (g2 := F0 m 67 ls [.int r_4]) rfl ?_
        refine lv_if_eq (tgt := 88) hx hb dX6_canMeet_67 rfl (fun c_5 => ?_) (fun c_5 => ?_)
        · skip
          have b_5 := kb0 hw_4 c_5
          refine lv_iinc (v := nI (i + 1)) (lv' := [(4, .int (nI (i + 1))), (0, .ref o6), (1, .int (nI ac)), (2, .int (nI rd)), (3, .int (nI d9))]) hx hb dX6_canMeet_88 hl (k := 4) rfl (nI_1 i) (by decide) rfl (fun ls hl => ?_)
          refine lv_goto (tgt := 52) hx hb dX6_canMeet_91 rfl ?_
          exact ih52 (n6 - (i + 1)) (i + 1) _ _ _ (by omega) ⟨by omega, rfl, (fun j hj hb => by by_cases e : j = i; (subst e; first | exact (CM_B hB (by omega)).mp (by assumption) | exact absurd hb (by assumption)); exact hj3 j (by omega) hb)⟩ h (lv_sub hl [1, 2, 3, 4, 0] rfl)
        · skip
          have b_5 := kb1 hw_4 c_5
          refine lv_aload_n hx hb dX6_canMeet_70 rfl (lv_at hl 0 rfl) ?_
          refine k_get (v := .ref a6_3) E h (fun w h => List.mem_cons_of_mem _ (List.mem_append_right _ h)) 0 rfl rfl 3 (Nat.le_of_ble_eq_true rfl) (List.mem_of_getElem? (i := 4) rfl) rfl dX6_canMeet_71 ?_
          refine lv_iload hx hb dX6_canMeet_74 (lv_at hl 4 rfl) ?_
          refine k_iald (v := nI (eB i)) E h 3 2 rfl rfl (vp_in_nI (by omega) (by omega)) (by rw [nI_clamp (by omega)]) dX6_canMeet_76 ?_
          refine lv_iload_n hx hb dX6_canMeet_77 rfl (lv_at hl 3 rfl) ?_
          refine lv_iload_n hx hb dX6_canMeet_78 rfl (lv_at hl 1 rfl) ?_
          refine lv_ior hx hb dX6_canMeet_79 ?_
          refine k_topi (y := nI (d9 ||| ac)) (mm_or d9 ac) ?_
          refine lv_iconst (v := -1) hx hb dX6_canMeet_80 kic_m1 ?_
          refine lv_ixor hx hb dX6_canMeet_81 ?_
          refine lv_iand hx hb dX6_canMeet_82 ?_
          refine k_topi (y := nI (mDif (eB i) (d9 ||| ac))) (mm_andn (eB i) (d9 ||| ac)) ?_
          have hd3 := mDif_le (eB i) (d9 ||| ac)
          have hd4 := NE_k hB hq.2.1 (b := i) (by omega)
          refine lv_if_eq (tgt := 88) hx hb dX6_canMeet_83 rfl (fun c_6 => ?_) (fun c_6 => ?_)
          · skip
            have i_6 : (mDif (eB i) (d9 ||| ac)) = 0 := (nI_eq (a := (mDif (eB i) (d9 ||| ac))) (b := 0) (by omega) (by omega)).mp c_6
            refine lv_iinc (v := nI (i + 1)) (lv' := [(4, .int (nI (i + 1))), (0, .ref o6), (1, .int (nI ac)), (2, .int (nI rd)), (3, .int (nI d9))]) hx hb dX6_canMeet_88 hl (k := 4) rfl (nI_1 i) (by decide) rfl (fun ls hl => ?_)
            refine lv_goto (tgt := 52) hx hb dX6_canMeet_91 rfl ?_
            exact ih52 (n6 - (i + 1)) (i + 1) _ _ _ (by omega) ⟨by omega, rfl, (fun j hj hb => by by_cases e : j = i; (subst e; first | exact (CM_B hB (by omega)).mp (by assumption) | exact absurd hb (by assumption)); exact hj3 j (by omega) hb)⟩ h (lv_sub hl [1, 2, 3, 4, 0] rfl)
          · skip
            have i_6 : ¬ (mDif (eB i) (d9 ||| ac)) = 0 := fun h9 => c_6 ((nI_eq (a := (mDif (eB i) (d9 ||| ac))) (b := 0) (by omega) (by omega)).mpr h9)
            refine lv_iconst (v := 0) hx hb dX6_canMeet_86 kic_0 ?_
            have hP9 := h.2.1.sub [0, 1, 2, 3] rfl
            have hD9 := h.2.2.1.sub (ws' := [(o6, .inr (6, [.ref a6_0, .ref o5, .ref a6_2, .ref a6_3, .ref a6_4, .ref a6_5, .ref a6_6, .ref a6_7, .int (nI n6), .int v6_9])), (a6_5, .inl (c6_5, 5, .inl (fun j => nI (eP j)))), (a6_6, .inl (c6_6, 5, .inl (fun j => nI (eR j)))), (a6_3, .inl (c6_3, 10, .inl (fun j => nI (eB j))))]) [0, 1, 2, 3] (by decide) rfl
            exact W.zret (v := 0) hx hb hr (by decide) (fun t ht hW => ⟨⟨0, (), rfl, Or.inr ⟨rfl, fun z => absurd ((CM_B hB (by omega)).mpr (z.2.2 i (by assumption))) (by assumption)⟩, (by rw [ht]; exact hP9), hD9⟩, h.2.2.2.1.F ht⟩) h.2.2.2.1.2.2 dX6_canMeet_87 hlocks
    · skip
      have i_2 : ¬ 5 ≤ i := fun h9 => c_2 ((nI_leI (a := 5) (b := i) (by omega) (by omega)).mpr h9)
      refine lv_iload_n hx hb dX6_canMeet_19 rfl (lv_at hl 1 rfl) ?_
      refine lv_aload_n hx hb dX6_canMeet_20 rfl (lv_at hl 0 rfl) ?_
      refine k_get (v := .ref a6_5) E h (fun w h => List.mem_cons_of_mem _ (List.mem_append_right _ h)) 0 rfl rfl 5 (Nat.le_of_ble_eq_true rfl) (List.mem_of_getElem? (i := 1) rfl) rfl dX6_canMeet_21 ?_
      refine lv_iload hx hb dX6_canMeet_24 (lv_at hl 4 rfl) ?_
      refine k_iald (v := nI (eP i)) E h 1 0 rfl rfl (vp_in_nI (by omega) (by omega)) (by rw [nI_clamp (by omega)]) dX6_canMeet_26 ?_
      refine lv_iand hx hb dX6_canMeet_27 ?_
      refine k_topi (y := nI (ac &&& (eP i))) (mm_and ac (eP i)) ?_
      refine kc_i (wc := []) (wr := [(o6, .inr (6, [.ref a6_0, .ref o5, .ref a6_2, .ref a6_3, .ref a6_4, .ref a6_5, .ref a6_6, .ref a6_7, .int (nI n6), .int v6_9])), (a6_5, .inl (c6_5, 5, .inl (fun j => nI (eP j)))), (a6_6, .inl (c6_6, 5, .inl (fun j => nI (eR j)))), (a6_3, .inl (c6_3, 10, .inl (fun j => nI (eB j))))]) h (va_runS (As := [.int (nI (ac &&& (eP i)))]) (rest := []) E (c_bitcN l dC dI _  (m9 := (ac &&& (eP i))) (hm := (Nat.lt_of_le_of_lt Nat.and_le_left hac))) (va_cwS 1 E.2.2.2.2 gX6_canMeet_J6_bitCount_0f7a4 rfl rfl rfl hdS_J6_bitCount_0f7a4 ⟨Nat.le_of_ble_eq_true rfl, Nat.le_of_ble_eq_true rfl⟩) (kPreS h KX_true (fun _ _ _ => trivial) [] [] (by decide) rfl rfl) rfl rfl hl.1 rfl (lv_room (Nat.le_of_ble_eq_true rfl)) dX6_canMeet_28 ⟨Nat.le_of_ble_eq_true rfl, Nat.le_of_ble_eq_true rfl⟩) [] [0, 1, 2, 3] rfl rfl (by decide) (by decide) (fun r_7 u_7 H locs hw_7 h => ?_)
      have h : KS (dC, dI) A [(o6, .inr (6, [.ref a6_0, .ref o5, .ref a6_2, .ref a6_3, .ref a6_4, .ref a6_5, .ref a6_6, .ref a6_7, .int (nI n6), .int v6_9])), (a6_5, .inl (c6_5, 5, .inl (fun j => nI (eP j)))), (a6_6, .inl (c6_6, 5, .inl (fun j => nI (eR j)))), (a6_3, .inl (c6_3, 10, .inl (fun j => nI (eB j))))] [(c6_5, .int), (c6_6, .int), (c6_3, .int)] s H locs := h
      have hw_7 : r_7 = nI (mCnt (ac &&& (eP i)) 10) := by first | exact hw_7 | (simp only [Int32.toInt_toInt64] at hw_7; exact hw_7)
      refine k_topi (y := nI (mCnt (ac &&& (eP i)) 10)) (hw_7) ?_
      refine W.eq (g2 := F0 m 31 ls [.int (nI (mCnt (ac &&& (eP i)) 10))]) rfl ?_
      refine lv_aload_n hx hb dX6_canMeet_31 rfl (lv_at hl 0 rfl) ?_
      refine k_get (v := .ref a6_6) E h (fun w h => List.mem_cons_of_mem _ (List.mem_append_right _ h)) 0 rfl rfl 6 (Nat.le_of_ble_eq_true rfl) (List.mem_of_getElem? (i := 2) rfl) rfl dX6_canMeet_32 ?_
      refine lv_iload hx hb dX6_canMeet_35 (lv_at hl 4 rfl) ?_
      refine k_iald (v := nI (eR i)) E h 2 1 rfl rfl (vp_in_nI (by omega) (by omega)) (by rw [nI_clamp (by omega)]) dX6_canMeet_37 ?_
      have hm1 := mCnt_le (ac &&& (eP i)) 10
      have hm2 : eR i ≤ 3 := by rw [hR i (by omega)]; exact pRoom_le hq.2.2.2
      refine lv_icmp_le (tgt := 43) hx hb dX6_canMeet_38 rfl (fun c_8 => ?_) (fun c_8 => ?_)
      · skip
        have i_8 : (mCnt (ac &&& (eP i)) 10) ≤ (eR i) := (nI_leI (a := (mCnt (ac &&& (eP i)) 10)) (b := (eR i)) (by omega) (by omega)).mp c_8
        refine lv_iinc (v := nI (i + 1)) (lv' := [(4, .int (nI (i + 1))), (0, .ref o6), (1, .int (nI ac)), (2, .int (nI rd)), (3, .int (nI d9))]) hx hb dX6_canMeet_43 hl (k := 4) rfl (nI_1 i) (by decide) rfl (fun ls hl => ?_)
        refine lv_goto (tgt := 13) hx hb dX6_canMeet_46 rfl ?_
        exact ih13 (5 - (i + 1)) (i + 1) _ _ _ (by omega) ⟨by omega, rfl, (fun p hp => by by_cases e : p = i; (rw [e, hq.1, ← mCnt_10 _ _ _ hq.2.1, ← hP i (by omega), ← hR i (by omega)]; omega); exact hi3 p (by omega))⟩ h (lv_sub hl [1, 2, 3, 4, 0] rfl)
      · skip
        have i_8 : ¬ (mCnt (ac &&& (eP i)) 10) ≤ (eR i) := fun h9 => c_8 ((nI_leI (a := (mCnt (ac &&& (eP i)) 10)) (b := (eR i)) (by omega) (by omega)).mpr h9)
        refine lv_iconst (v := 0) hx hb dX6_canMeet_41 kic_0 ?_
        have hP9 := h.2.1.sub [0, 1, 2, 3] rfl
        have hD9 := h.2.2.1.sub (ws' := [(o6, .inr (6, [.ref a6_0, .ref o5, .ref a6_2, .ref a6_3, .ref a6_4, .ref a6_5, .ref a6_6, .ref a6_7, .int (nI n6), .int v6_9])), (a6_5, .inl (c6_5, 5, .inl (fun j => nI (eP j)))), (a6_6, .inl (c6_6, 5, .inl (fun j => nI (eR j)))), (a6_3, .inl (c6_3, 10, .inl (fun j => nI (eB j))))]) [0, 1, 2, 3] (by decide) rfl
        exact W.zret (v := 0) hx hb hr (by decide) (fun t ht hW => ⟨⟨0, (), rfl, Or.inr ⟨rfl, fun z => by have z2 := z.2.1 i (by omega); rw [hq.1, ← mCnt_10 _ _ _ hq.2.1, ← hP i (by omega), ← hR i (by omega)] at z2; omega⟩, (by rw [ht]; exact hP9), hD9⟩, h.2.2.2.1.F ht⟩) h.2.2.2.1.2.2 dX6_canMeet_42 hlocks
  · skip
    have i_1 : ¬ (mDif ac rd) = 0 := fun h9 => c_1 ((nI_eq (a := (mDif ac rd)) (b := 0) (by omega) (by omega)).mpr h9)
    refine lv_iconst (v := 0) hx hb dX6_canMeet_8 kic_0 ?_
    have hP9 := h.2.1.sub [0, 1, 2, 3] rfl
    have hD9 := h.2.2.1.sub (ws' := [(o6, .inr (6, [.ref a6_0, .ref o5, .ref a6_2, .ref a6_3, .ref a6_4, .ref a6_5, .ref a6_6, .ref a6_7, .int (nI n6), .int v6_9])), (a6_5, .inl (c6_5, 5, .inl (fun j => nI (eP j)))), (a6_6, .inl (c6_6, 5, .inl (fun j => nI (eR j)))), (a6_3, .inl (c6_3, 10, .inl (fun j => nI (eB j))))]) [0, 1, 2, 3] (by decide) rfl
    exact W.zret (v := 0) hx hb hr (by decide) (fun t ht hW => ⟨⟨0, (), rfl, Or.inr ⟨rfl, fun z => absurd (mDif_0.mpr z.1) (by assumption)⟩, (by rw [ht]; exact hP9), hD9⟩, h.2.2.2.1.F ht⟩) h.2.2.2.1.2.2 dX6_canMeet_9 hlocks
