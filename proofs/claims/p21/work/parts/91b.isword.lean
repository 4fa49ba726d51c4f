set_option maxHeartbeats 4000000 in
set_option maxRecDepth 100000 in
theorem c_X8_isWord (l : Launch) (dC : Nat → ClassId) (dI : Nat → Nat → Nat) (sz : Nat) (o8 : Nat) (a8_0 : Nat) (a8_1 : Nat) (a8_2 : Nat) (a8_3 : Nat) (a8_4 : Nat) (a8_5 : Nat) (v8_6 : Int32) (a8_7 : Nat) (a8_8 : Nat) (a8_9 : Nat) (a8_10 : Nat) (a8_11 : Nat) (a8_13 : Nat) (a8_14 : Nat) (a8_15 : Nat) (a8_16 : Nat) (a8_17 : Nat) (a8_18 : Nat) (a8_19 : Nat) (a8_20 : Nat) (a8_21 : Nat) (a8_22 : Nat) (a8_23 : Nat) (a8_24 : Nat) (v8_25 : Int32) (v8_26 : Int32) (a8_27 : Nat) (a8_28 : Nat) (a8_29 : Nat) (a8_30 : Nat) (a8_31 : Nat) (v8_32 : Int32) (v8_33 : Int32) (v8_34 : Int32) (v8_35 : Int32) (a8_36 : Nat) (a8_37 : Nat) (v8_38 : Int32) (v8_39 : Int32) (v8_40 : Int32) (a8_41 : Nat) (a8_42 : Nat) (v8_43 : Int32) (c8_11 : ClassId) (f8_11 : Nat → Int32) (c8_7 : ClassId) (f8_7 : Nat → Int32) (c8_17 : ClassId) (c8_18 : ClassId) (D8 : Nat → Int32) (X8_ : Nat → Int32) (Y8 : Nat → Int32) (bs : Nat) (eE : Nat → Nat) (eB : Nat → Nat) (i9 : Nat) (d9 : Nat) (st9 : Nat) (hL8 : IL f8_11) (hK : IK f8_7) (hi9 : i9 < 12) (hbs : 1 ≤ bs ∧ bs ≤ 3) (hE : NE (iN f8_7 (rR f8_7 X8_ Y8) (rW f8_7 D8) i9) (lenN f8_11 i9) 0 0 2 eE) (hB : NE (iN f8_7 (rR f8_7 X8_ Y8) (rW f8_7 D8) i9) (lenN f8_11 i9) 0 0 1 eB) (hd : d9 < 1024) (hst : (¬ st9 = 0 ∧ st9 < 2 ^ (lenN f8_11 i9)) ∧ ∀ i, st9.testBit i = true → d9.testBit i = false) : Met l yX8_isWord wsX8_isWord ({ frames := 1, cells := 0, slots := 0, locals := 20 } : Room) (va_Pc [.ref o8, .int (nI i9), .int (nI d9), .int (nI st9)] (KPre (dC, dI) [(o8, .inr (8, [.ref a8_0, .ref a8_1, .ref a8_2, .ref a8_3, .ref a8_4, .ref a8_5, .int v8_6, .ref a8_7, .ref a8_8, .ref a8_9, .ref a8_10, .ref a8_11, .int (nI bs), .ref a8_13, .ref a8_14, .ref a8_15, .ref a8_16, .ref a8_17, .ref a8_18, .ref a8_19, .ref a8_20, .ref a8_21, .ref a8_22, .ref a8_23, .ref a8_24, .int v8_25, .int v8_26, .ref a8_27, .ref a8_28, .ref a8_29, .ref a8_30, .ref a8_31, .int v8_32, .int v8_33, .int v8_34, .int v8_35, .ref a8_36, .ref a8_37, .int v8_38, .int v8_39, .int v8_40, .ref a8_41, .ref a8_42, .int v8_43])), (a8_11, .inl (c8_11, 12, .inl f8_11)), (a8_7, .inl (c8_7, 120, .inl f8_7)), (a8_17, .inl (c8_17, 10, .inl (fun j => nI (eE j)))), (a8_18, .inl (c8_18, 10, .inl (fun j => nI (eB j))))] [(c8_11, .int), (c8_7, .int), (c8_17, .int), (c8_18, .int)] sz (fun _ => True))) (va_Qi (fun (r : Int32) (u : Unit) => (r = 1 ∧ mLW (iQ f8_7 (rR f8_7 X8_ Y8) (rW f8_7 D8) (lenN f8_11 i9) i9 bs) d9 st9) ∨ (r = 0 ∧ ¬ mLW (iQ f8_7 (rR f8_7 X8_ Y8) (rW f8_7 D8) (lenN f8_11 i9) i9 bs) d9 st9)) (KPost (dC, dI) (va_A [(o8, .inr (8, [.ref a8_0, .ref a8_1, .ref a8_2, .ref a8_3, .ref a8_4, .ref a8_5, .int v8_6, .ref a8_7, .ref a8_8, .ref a8_9, .ref a8_10, .ref a8_11, .int (nI bs), .ref a8_13, .ref a8_14, .ref a8_15, .ref a8_16, .ref a8_17, .ref a8_18, .ref a8_19, .ref a8_20, .ref a8_21, .ref a8_22, .ref a8_23, .ref a8_24, .int v8_25, .int v8_26, .ref a8_27, .ref a8_28, .ref a8_29, .ref a8_30, .ref a8_31, .int v8_32, .int v8_33, .int v8_34, .int v8_35, .ref a8_36, .ref a8_37, .int v8_38, .int v8_39, .int v8_40, .ref a8_41, .ref a8_42, .int v8_43])), (a8_11, .inl (c8_11, 12, .inl f8_11)), (a8_7, .inl (c8_7, 120, .inl f8_7)), (a8_17, .inl (c8_17, 10, .inl (fun j => nI (eE j)))), (a8_18, .inl (c8_18, 10, .inl (fun j => nI (eB j))))] sz) (fun (u : Unit) => [(o8, .inr (8, [.ref a8_0, .ref a8_1, .ref a8_2, .ref a8_3, .ref a8_4, .ref a8_5, .int v8_6, .ref a8_7, .ref a8_8, .ref a8_9, .ref a8_10, .ref a8_11, .int (nI bs), .ref a8_13, .ref a8_14, .ref a8_15, .ref a8_16, .ref a8_17, .ref a8_18, .ref a8_19, .ref a8_20, .ref a8_21, .ref a8_22, .ref a8_23, .ref a8_24, .int v8_25, .int v8_26, .ref a8_27, .ref a8_28, .ref a8_29, .ref a8_30, .ref a8_31, .int v8_32, .int v8_33, .int v8_34, .int v8_35, .ref a8_36, .ref a8_37, .int v8_38, .int v8_39, .int v8_40, .ref a8_41, .ref a8_42, .int v8_43])), (a8_11, .inl (c8_11, 12, .inl f8_11)), (a8_7, .inl (c8_7, 120, .inl f8_7)), (a8_17, .inl (c8_17, 10, .inl (fun j => nI (eE j)))), (a8_18, .inl (c8_18, 10, .inl (fun j => nI (eB j))))])) (va_A [(o8, .inr (8, [.ref a8_0, .ref a8_1, .ref a8_2, .ref a8_3, .ref a8_4, .ref a8_5, .int v8_6, .ref a8_7, .ref a8_8, .ref a8_9, .ref a8_10, .ref a8_11, .int (nI bs), .ref a8_13, .ref a8_14, .ref a8_15, .ref a8_16, .ref a8_17, .ref a8_18, .ref a8_19, .ref a8_20, .ref a8_21, .ref a8_22, .ref a8_23, .ref a8_24, .int v8_25, .int v8_26, .ref a8_27, .ref a8_28, .ref a8_29, .ref a8_30, .ref a8_31, .int v8_32, .int v8_33, .int v8_34, .int v8_35, .ref a8_36, .ref a8_37, .int v8_38, .int v8_39, .int v8_40, .ref a8_41, .ref a8_42, .int v8_43])), (a8_11, .inl (c8_11, 12, .inl f8_11)), (a8_7, .inl (c8_7, 120, .inl f8_7)), (a8_17, .inl (c8_17, 10, .inl (fun j => nI (eE j)))), (a8_18, .inl (c8_18, 10, .inl (fun j => nI (eB j))))] sz)) 0 0 (va_A [(o8, .inr (8, [.ref a8_0, .ref a8_1, .ref a8_2, .ref a8_3, .ref a8_4, .ref a8_5, .int v8_6, .ref a8_7, .ref a8_8, .ref a8_9, .ref a8_10, .ref a8_11, .int (nI bs), .ref a8_13, .ref a8_14, .ref a8_15, .ref a8_16, .ref a8_17, .ref a8_18, .ref a8_19, .ref a8_20, .ref a8_21, .ref a8_22, .ref a8_23, .ref a8_24, .int v8_25, .int v8_26, .ref a8_27, .ref a8_28, .ref a8_29, .ref a8_30, .ref a8_31, .int v8_32, .int v8_33, .int v8_34, .int v8_35, .ref a8_36, .ref a8_37, .int v8_38, .int v8_39, .int v8_40, .ref a8_41, .ref a8_42, .int v8_43])), (a8_11, .inl (c8_11, 12, .inl f8_11)), (a8_7, .inl (c8_7, 120, .inl f8_7)), (a8_17, .inl (c8_17, 10, .inl (fun j => nI (eE j)))), (a8_18, .inl (c8_18, 10, .inl (fun j => nI (eB j))))] sz) := by
  refine kMet (y := yX8_isWord) (wsM := wsX8_isWord) (cc := cX8_isWord) (maxL := 8) (ret := (some .boolean)) (rm := ({ frames := 1, cells := 0, slots := 0, locals := 20 } : Room)) (mc := 0) (ms := 0) (av := [.ref o8, .int (nI i9), .int (nI d9), .int (nI st9)]) (D := (dC, dI)) (wc := [(o8, .inr (8, [.ref a8_0, .ref a8_1, .ref a8_2, .ref a8_3, .ref a8_4, .ref a8_5, .int v8_6, .ref a8_7, .ref a8_8, .ref a8_9, .ref a8_10, .ref a8_11, .int (nI bs), .ref a8_13, .ref a8_14, .ref a8_15, .ref a8_16, .ref a8_17, .ref a8_18, .ref a8_19, .ref a8_20, .ref a8_21, .ref a8_22, .ref a8_23, .ref a8_24, .int v8_25, .int v8_26, .ref a8_27, .ref a8_28, .ref a8_29, .ref a8_30, .ref a8_31, .int v8_32, .int v8_33, .int v8_34, .int v8_35, .ref a8_36, .ref a8_37, .int v8_38, .int v8_39, .int v8_40, .ref a8_41, .ref a8_42, .int v8_43])), (a8_11, .inl (c8_11, 12, .inl f8_11)), (a8_7, .inl (c8_7, 120, .inl f8_7)), (a8_17, .inl (c8_17, 10, .inl (fun j => nI (eE j)))), (a8_18, .inl (c8_18, 10, .inl (fun j => nI (eB j))))]) (tc := [(c8_11, .int), (c8_7, .int), (c8_17, .int), (c8_18, .int)]) (sz := sz) (X := fun _ => True) (Qc := fun A => va_Qi (fun (r : Int32) (u : Unit) => (r = 1 ∧ mLW (iQ f8_7 (rR f8_7 X8_ Y8) (rW f8_7 D8) (lenN f8_11 i9) i9 bs) d9 st9) ∨ (r = 0 ∧ ¬ mLW (iQ f8_7 (rR f8_7 X8_ Y8) (rW f8_7 D8) (lenN f8_11 i9) i9 bs) d9 st9)) (KPost (dC, dI) A (fun (u : Unit) => [(o8, .inr (8, [.ref a8_0, .ref a8_1, .ref a8_2, .ref a8_3, .ref a8_4, .ref a8_5, .int v8_6, .ref a8_7, .ref a8_8, .ref a8_9, .ref a8_10, .ref a8_11, .int (nI bs), .ref a8_13, .ref a8_14, .ref a8_15, .ref a8_16, .ref a8_17, .ref a8_18, .ref a8_19, .ref a8_20, .ref a8_21, .ref a8_22, .ref a8_23, .ref a8_24, .int v8_25, .int v8_26, .ref a8_27, .ref a8_28, .ref a8_29, .ref a8_30, .ref a8_31, .int v8_32, .int v8_33, .int v8_34, .int v8_35, .ref a8_36, .ref a8_37, .int v8_38, .int v8_39, .int v8_40, .ref a8_41, .ref a8_42, .int v8_43])), (a8_11, .inl (c8_11, 12, .inl f8_11)), (a8_7, .inl (c8_7, 120, .inl f8_7)), (a8_17, .inl (c8_17, 10, .inl (fun j => nI (eE j)))), (a8_18, .inl (c8_18, 10, .inl (fun j => nI (eB j))))])) A) (by decide) rfl (Nat.le_of_ble_eq_true rfl) ?_
  intro p e s m below meth c A ls E hr hlocks hnm hsz hAe hX h hl
  have hx := E.1
  have hb := E.2.1
  have hl : lv_has ls 8 [(0, .ref o8), (1, .int (nI i9)), (2, .int (nI d9)), (3, .int (nI st9))] := hl
  have hn9 := IL_n hL8 hi9
  have ht0 := mm_two (i := (lenN f8_11 i9)) hn9.2
  refine lv_iconst (v := 0) hx hb dX8_isWord_0 kic_0 ?_
  refine lv_istore (lv' := [(4, .int 0), (0, .ref o8), (1, .int (nI i9)), (2, .int (nI d9)), (3, .int (nI st9))]) hx hb dX8_isWord_1 hl (Nat.le_of_ble_eq_true rfl) rfl (fun ls hl => ?_)
  refine lv_iconst (v := 0) hx hb dX8_isWord_3 kic_0 ?_
  refine lv_istore (lv' := [(5, .int 0), (4, .int 0), (0, .ref o8), (1, .int (nI i9)), (2, .int (nI d9)), (3, .int (nI st9))]) hx hb dX8_isWord_4 hl (Nat.le_of_ble_eq_true rfl) rfl (fun ls hl => ?_)
  refine lv_iconst (v := 0) hx hb dX8_isWord_6 kic_0 ?_
  refine lv_istore (lv' := [(6, .int 0), (5, .int 0), (4, .int 0), (0, .ref o8), (1, .int (nI i9)), (2, .int (nI d9)), (3, .int (nI st9))]) hx hb dX8_isWord_7 hl (Nat.le_of_ble_eq_true rfl) rfl (fun ls hl => ?_)
  refine k_loop (σ := Nat × Nat × Nat) (fun x9 => [(o8, .inr (8, [.ref a8_0, .ref a8_1, .ref a8_2, .ref a8_3, .ref a8_4, .ref a8_5, .int v8_6, .ref a8_7, .ref a8_8, .ref a8_9, .ref a8_10, .ref a8_11, .int (nI bs), .ref a8_13, .ref a8_14, .ref a8_15, .ref a8_16, .ref a8_17, .ref a8_18, .ref a8_19, .ref a8_20, .ref a8_21, .ref a8_22, .ref a8_23, .ref a8_24, .int v8_25, .int v8_26, .ref a8_27, .ref a8_28, .ref a8_29, .ref a8_30, .ref a8_31, .int v8_32, .int v8_33, .int v8_34, .int v8_35, .ref a8_36, .ref a8_37, .int v8_38, .int v8_39, .int v8_40, .ref a8_41, .ref a8_42, .int v8_43])), (a8_11, .inl (c8_11, 12, .inl f8_11)), (a8_7, .inl (c8_7, 120, .inl f8_7)), (a8_17, .inl (c8_17, 10, .inl (fun j => nI (eE j)))), (a8_18, .inl (c8_18, 10, .inl (fun j => nI (eB j))))]) (fun x9 => [(0, .ref o8), (1, .int (nI i9)), (2, .int (nI d9)), (3, .int (nI st9)), (4, .int (nI x9.2.1)), (5, .int (nI x9.2.2)), (6, .int (nI x9.1))]) (fun n9 x9 => x9.1 ≤ (lenN f8_11 i9) ∧ n9 = (lenN f8_11 i9) - x9.1 ∧ WIq (iQ f8_7 (rR f8_7 X8_ Y8) (rW f8_7 D8) (lenN f8_11 i9) i9 bs) d9 st9 x9.1 x9.2.1 x9.2.2) ?_ ((lenN f8_11 i9) - 0) (0, 0, 0) ⟨Nat.zero_le _, rfl, WI_0 _ _ _⟩ h (lv_sub hl [3, 4, 5, 6, 2, 1, 0] rfl)
  intro n9 x9 H locs ls hI h hl ih9
  obtain ⟨i, pl, ot⟩ := x9
  have hI : i ≤ (lenN f8_11 i9) ∧ n9 = (lenN f8_11 i9) - i ∧ WIq (iQ f8_7 (rR f8_7 X8_ Y8) (rW f8_7 D8) (lenN f8_11 i9) i9 bs) d9 st9 i pl ot := hI
  have h : KS (dC, dI) A [(o8, .inr (8, [.ref a8_0, .ref a8_1, .ref a8_2, .ref a8_3, .ref a8_4, .ref a8_5, .int v8_6, .ref a8_7, .ref a8_8, .ref a8_9, .ref a8_10, .ref a8_11, .int (nI bs), .ref a8_13, .ref a8_14, .ref a8_15, .ref a8_16, .ref a8_17, .ref a8_18, .ref a8_19, .ref a8_20, .ref a8_21, .ref a8_22, .ref a8_23, .ref a8_24, .int v8_25, .int v8_26, .ref a8_27, .ref a8_28, .ref a8_29, .ref a8_30, .ref a8_31, .int v8_32, .int v8_33, .int v8_34, .int v8_35, .ref a8_36, .ref a8_37, .int v8_38, .int v8_39, .int v8_40, .ref a8_41, .ref a8_42, .int v8_43])), (a8_11, .inl (c8_11, 12, .inl f8_11)), (a8_7, .inl (c8_7, 120, .inl f8_7)), (a8_17, .inl (c8_17, 10, .inl (fun j => nI (eE j)))), (a8_18, .inl (c8_18, 10, .inl (fun j => nI (eB j))))] [(c8_11, .int), (c8_7, .int), (c8_17, .int), (c8_18, .int)] s H locs := h
  have hl : lv_has ls 8 [(0, .ref o8), (1, .int (nI i9)), (2, .int (nI d9)), (3, .int (nI st9)), (4, .int (nI pl)), (5, .int (nI ot)), (6, .int (nI i))] := hl
  obtain ⟨hi1, hi2, hWI⟩ := hI
  have hol := hWI.2.1
  have hpl : pl ≤ i := by rw [hWI.1]; exact pcn_le _ _ _ _
  refine lv_iload hx hb dX8_isWord_9 (lv_at hl 6 rfl) ?_
  refine lv_aload_n hx hb dX8_isWord_11 rfl (lv_at hl 0 rfl) ?_
  refine k_get (v := .ref a8_11) E h (fun w h => List.mem_cons_of_mem _ (List.mem_append_right _ h)) 0 rfl rfl 11 (Nat.le_of_ble_eq_true rfl) (List.mem_of_getElem? (i := 1) rfl) rfl dX8_isWord_12 ?_
  refine lv_iload_n hx hb dX8_isWord_15 rfl (lv_at hl 1 rfl) ?_
  refine k_iald (v := f8_11 i9) E h 1 0 rfl rfl (vp_in_nI (by omega) (by omega)) (by rw [nI_clamp (by omega)]) dX8_isWord_16 ?_
  refine k_topi (y := nI (lenN f8_11 i9)) (hn9.1) ?_
  refine lv_icmp_ge (tgt := 120) hx hb dX8_isWord_17 rfl (fun c_1 => ?_) (fun c_1 => ?_)
  · skip
    have i_1 : (lenN f8_11 i9) ≤ i := (nI_leI (a := (lenN f8_11 i9)) (b := i) (by omega) (by omega)).mp c_1
    refine lv_iload hx hb dX8_isWord_120 (lv_at hl 4 rfl) ?_
    refine lv_aload_n hx hb dX8_isWord_122 rfl (lv_at hl 0 rfl) ?_
    refine k_get (v := .int (nI bs)) E h (fun w h => List.mem_cons_of_mem _ (List.mem_append_right _ h)) 0 rfl rfl 12 (Nat.le_of_ble_eq_true rfl) (List.mem_of_getElem? (i := 5) rfl) rfl dX8_isWord_123 ?_
    refine lv_icmp_gt (tgt := 133) hx hb dX8_isWord_126 rfl (fun c_2 => ?_) (fun c_2 => ?_)
    · skip
      have i_2 : bs < pl := (nI_ltI (a := bs) (b := pl) (by omega) (by omega)).mp c_2
      refine lv_iconst (v := 0) hx hb dX8_isWord_133 kic_0 ?_
      have hP9 := h.2.1.sub [0, 1, 2, 3, 4] rfl
      have hD9 := h.2.2.1.sub (ws' := [(o8, .inr (8, [.ref a8_0, .ref a8_1, .ref a8_2, .ref a8_3, .ref a8_4, .ref a8_5, .int v8_6, .ref a8_7, .ref a8_8, .ref a8_9, .ref a8_10, .ref a8_11, .int (nI bs), .ref a8_13, .ref a8_14, .ref a8_15, .ref a8_16, .ref a8_17, .ref a8_18, .ref a8_19, .ref a8_20, .ref a8_21, .ref a8_22, .ref a8_23, .ref a8_24, .int v8_25, .int v8_26, .ref a8_27, .ref a8_28, .ref a8_29, .ref a8_30, .ref a8_31, .int v8_32, .int v8_33, .int v8_34, .int v8_35, .ref a8_36, .ref a8_37, .int v8_38, .int v8_39, .int v8_40, .ref a8_41, .ref a8_42, .int v8_43])), (a8_11, .inl (c8_11, 12, .inl f8_11)), (a8_7, .inl (c8_7, 120, .inl f8_7)), (a8_17, .inl (c8_17, 10, .inl (fun j => nI (eE j)))), (a8_18, .inl (c8_18, 10, .inl (fun j => nI (eB j))))]) [0, 1, 2, 3, 4] (by decide) rfl
      exact W.zret (v := 0) hx hb hr (by decide) (fun t ht hW => ⟨⟨0, (), rfl, (by have hEnd := WI_end (q := iQ f8_7 (rR f8_7 X8_ Y8) (rW f8_7 D8) (lenN f8_11 i9) i9 bs) (by have e9 : i = (lenN f8_11 i9) := (by omega); rw [e9] at hWI; exact hWI) hst.1.1 hst.1.2 hst.2; first | exact Or.inl ⟨rfl, hEnd.mpr (by show pl ≤ bs; omega)⟩ | exact Or.inr ⟨rfl, fun z => absurd (hEnd.mp z) (by show ¬ pl ≤ bs; omega)⟩), (by rw [ht]; exact hP9), hD9⟩, h.2.2.2.1.F ht⟩) h.2.2.2.1.2.2 dX8_isWord_134 hlocks
    · skip
      have i_2 : ¬ bs < pl := fun h9 => c_2 ((nI_ltI (a := bs) (b := pl) (by omega) (by omega)).mpr h9)
      refine lv_iconst (v := 1) hx hb dX8_isWord_129 kic_1 ?_
      refine lv_goto (tgt := 134) hx hb dX8_isWord_130 rfl ?_
      have hP9 := h.2.1.sub [0, 1, 2, 3, 4] rfl
      have hD9 := h.2.2.1.sub (ws' := [(o8, .inr (8, [.ref a8_0, .ref a8_1, .ref a8_2, .ref a8_3, .ref a8_4, .ref a8_5, .int v8_6, .ref a8_7, .ref a8_8, .ref a8_9, .ref a8_10, .ref a8_11, .int (nI bs), .ref a8_13, .ref a8_14, .ref a8_15, .ref a8_16, .ref a8_17, .ref a8_18, .ref a8_19, .ref a8_20, .ref a8_21, .ref a8_22, .ref a8_23, .ref a8_24, .int v8_25, .int v8_26, .ref a8_27, .ref a8_28, .ref a8_29, .ref a8_30, .ref a8_31, .int v8_32, .int v8_33, .int v8_34, .int v8_35, .ref a8_36, .ref a8_37, .int v8_38, .int v8_39, .int v8_40, .ref a8_41, .ref a8_42, .int v8_43])), (a8_11, .inl (c8_11, 12, .inl f8_11)), (a8_7, .inl (c8_7, 120, .inl f8_7)), (a8_17, .inl (c8_17, 10, .inl (fun j => nI (eE j)))), (a8_18, .inl (c8_18, 10, .inl (fun j => nI (eB j))))]) [0, 1, 2, 3, 4] (by decide) rfl
      exact W.zret (v := 1) hx hb hr (by decide) (fun t ht hW => ⟨⟨1, (), rfl, (by have hEnd := WI_end (q := iQ f8_7 (rR f8_7 X8_ Y8) (rW f8_7 D8) (lenN f8_11 i9) i9 bs) (by have e9 : i = (lenN f8_11 i9) := (by omega); rw [e9] at hWI; exact hWI) hst.1.1 hst.1.2 hst.2; first | exact Or.inl ⟨rfl, hEnd.mpr (by show pl ≤ bs; omega)⟩ | exact Or.inr ⟨rfl, fun z => absurd (hEnd.mp z) (by show ¬ pl ≤ bs; omega)⟩), (by rw [ht]; exact hP9), hD9⟩, h.2.2.2.1.F ht⟩) h.2.2.2.1.2.2 dX8_isWord_134 hlocks
  · skip
    have i_1 : ¬ (lenN f8_11 i9) ≤ i := fun h9 => c_1 ((nI_leI (a := (lenN f8_11 i9)) (b := i) (by omega) (by omega)).mpr h9)
    refine lv_iload_n hx hb dX8_isWord_20 rfl (lv_at hl 3 rfl) ?_
    refine lv_iload hx hb dX8_isWord_21 (lv_at hl 6 rfl) ?_
    refine lv_ishr hx hb dX8_isWord_23 ?_
    refine lv_iconst (v := 1) hx hb dX8_isWord_24 kic_1 ?_
    refine lv_iand hx hb dX8_isWord_25 ?_
    refine k_topi (y := nI (mBt st9 i)) (mm_bt (by omega) (by omega)) ?_
    have hbl_3 := mBt_le st9 i
    refine lv_if_ne (tgt := 32) hx hb dX8_isWord_26 rfl (fun c_4 => ?_) (fun c_4 => ?_)
    · skip
      have i_4 : ¬ (mBt st9 i) = 0 := fun h9 => c_4 ((nI_eq (a := (mBt st9 i)) (b := 0) (by omega) (by omega)).mpr h9)
      have hbit := mBt_0.mp i_4
      refine lv_aload_n hx hb dX8_isWord_32 rfl (lv_at hl 0 rfl) ?_
      refine k_get (v := .ref a8_7) E h (fun w h => List.mem_cons_of_mem _ (List.mem_append_right _ h)) 0 rfl rfl 7 (Nat.le_of_ble_eq_true rfl) (List.mem_of_getElem? (i := 2) rfl) rfl dX8_isWord_33 ?_
      refine lv_bipush (v := 10) hx hb dX8_isWord_36 kbi_10 ?_
      refine lv_iload_n hx hb dX8_isWord_38 rfl (lv_at hl 1 rfl) ?_
      refine lv_imul hx hb dX8_isWord_39 ?_
      refine k_topi (y := nI (10 * i9)) (pk_mul 10 i9) ?_
      refine lv_iload hx hb dX8_isWord_40 (lv_at hl 6 rfl) ?_
      refine lv_iadd hx hb dX8_isWord_42 ?_
      refine k_topi (y := nI ((10 * i9) + i)) (nI_add (10 * i9) i) ?_
      refine k_topi (y := nI (i9 * 10 + i)) (by rw [Nat.mul_comm]) ?_
      refine k_iald (v := f8_7 (i9 * 10 + i)) E h 2 1 rfl rfl (vp_in_nI (by omega) (by omega)) (by rw [nI_clamp (by omega)]) dX8_isWord_43 ?_
      refine kc_i (wc := []) (wr := [(o8, .inr (8, [.ref a8_0, .ref a8_1, .ref a8_2, .ref a8_3, .ref a8_4, .ref a8_5, .int v8_6, .ref a8_7, .ref a8_8, .ref a8_9, .ref a8_10, .ref a8_11, .int (nI bs), .ref a8_13, .ref a8_14, .ref a8_15, .ref a8_16, .ref a8_17, .ref a8_18, .ref a8_19, .ref a8_20, .ref a8_21, .ref a8_22, .ref a8_23, .ref a8_24, .int v8_25, .int v8_26, .ref a8_27, .ref a8_28, .ref a8_29, .ref a8_30, .ref a8_31, .int v8_32, .int v8_33, .int v8_34, .int v8_35, .ref a8_36, .ref a8_37, .int v8_38, .int v8_39, .int v8_40, .ref a8_41, .ref a8_42, .int v8_43])), (a8_11, .inl (c8_11, 12, .inl f8_11)), (a8_7, .inl (c8_7, 120, .inl f8_7)), (a8_17, .inl (c8_17, 10, .inl (fun j => nI (eE j)))), (a8_18, .inl (c8_18, 10, .inl (fun j => nI (eB j))))]) h (va_runS (As := [.int (f8_7 (i9 * 10 + i))]) (rest := []) E (c_part8 l dC dI _ (p0 := f8_7 (i9 * 10 + i))  (hp := (hK (i9 * 10 + i) (by omega)))) (va_cwS 1 E.2.2.2.2 gX8_isWord_X8_partOf rfl rfl rfl hdS_X8_partOf ⟨Nat.le_of_ble_eq_true rfl, Nat.le_of_ble_eq_true rfl⟩) (kPreS h KX_true (fun _ _ _ => trivial) [] [] (by decide) rfl rfl) rfl rfl hl.1 rfl (lv_room (Nat.le_of_ble_eq_true rfl)) dX8_isWord_44 ⟨Nat.le_of_ble_eq_true rfl, Nat.le_of_ble_eq_true rfl⟩) [] [0, 1, 2, 3, 4] rfl rfl (by decide) (by decide) (fun r_5 u_5 H locs hw_5 h => ?_)
      have h : KS (dC, dI) A [(o8, .inr (8, [.ref a8_0, .ref a8_1, .ref a8_2, .ref a8_3, .ref a8_4, .ref a8_5, .int v8_6, .ref a8_7, .ref a8_8, .ref a8_9, .ref a8_10, .ref a8_11, .int (nI bs), .ref a8_13, .ref a8_14, .ref a8_15, .ref a8_16, .ref a8_17, .ref a8_18, .ref a8_19, .ref a8_20, .ref a8_21, .ref a8_22, .ref a8_23, .ref a8_24, .int v8_25, .int v8_26, .ref a8_27, .ref a8_28, .ref a8_29, .ref a8_30, .ref a8_31, .int v8_32, .int v8_33, .int v8_34, .int v8_35, .ref a8_36, .ref a8_37, .int v8_38, .int v8_39, .int v8_40, .ref a8_41, .ref a8_42, .int v8_43])), (a8_11, .inl (c8_11, 12, .inl f8_11)), (a8_7, .inl (c8_7, 120, .inl f8_7)), (a8_17, .inl (c8_17, 10, .inl (fun j => nI (eE j)))), (a8_18, .inl (c8_18, 10, .inl (fun j => nI (eB j))))] [(c8_11, .int), (c8_7, .int), (c8_17, .int), (c8_18, .int)] s H locs := h
      have hw_5 : r_5 = nI (pN (f8_7 (i9 * 10 + i))) := by first | exact hw_5 | (simp only [Int32.toInt_toInt64] at hw_5; exact hw_5)
      refine k_topi (y := nI (pN (f8_7 (i9 * 10 + i)))) (hw_5) ?_
      refine W.eq (g2 := F0 m 47 ls [.int (nI (pN (f8_7 (i9 * 10 + i))))]) rfl ?_
      have hp5 := pN_lt (hK (i9 * 10 + i) (by omega))
      refine lv_istore (lv' := [(7, .int (nI (pN (f8_7 (i9 * 10 + i))))), (0, .ref o8), (1, .int (nI i9)), (2, .int (nI d9)), (3, .int (nI st9)), (4, .int (nI pl)), (5, .int (nI ot)), (6, .int (nI i))]) hx hb dX8_isWord_47 hl (Nat.le_of_ble_eq_true rfl) rfl (fun ls hl => ?_)
      refine lv_iload hx hb dX8_isWord_49 (lv_at hl 0 rfl) ?_
      refine lv_if_ne (tgt := 60) hx hb dX8_isWord_51 rfl (fun c_6 => ?_) (fun c_6 => ?_)
      · skip
        have i_6 : ¬ (pN (f8_7 (i9 * 10 + i))) = 0 := fun h9 => c_6 ((nI_eq (a := (pN (f8_7 (i9 * 10 + i)))) (b := 0) (by omega) (by omega)).mpr h9)
        have hpz := i_6
        refine lv_iload hx hb dX8_isWord_60 (lv_at hl 6 rfl) ?_
        refine lv_iload hx hb dX8_isWord_62 (lv_at hl 0 rfl) ?_
        refine lv_ishr hx hb dX8_isWord_64 ?_
        refine lv_iconst (v := 1) hx hb dX8_isWord_65 kic_1 ?_
        refine lv_iand hx hb dX8_isWord_66 ?_
        refine k_topi (y := nI (mBt ot (pN (f8_7 (i9 * 10 + i))))) (mm_bt (by omega) (by omega)) ?_
        have hbl_7 := mBt_le ot (pN (f8_7 (i9 * 10 + i)))
        refine lv_iconst (v := 1) hx hb dX8_isWord_67 kic_1 ?_
        refine lv_icmp_ne (tgt := 73) hx hb dX8_isWord_68 rfl (fun c_8 => ?_) (fun c_8 => ?_)
        · skip
          have i_8 : ¬ (mBt ot (pN (f8_7 (i9 * 10 + i)))) = 1 := fun h9 => c_8 ((nI_eq (a := (mBt ot (pN (f8_7 (i9 * 10 + i))))) (b := 1) (by omega) (by omega)).mpr h9)
          have hno : ¬ ot.testBit (pN (f8_7 (i9 * 10 + i))) = true := fun z => i_8 (mBt_1.mpr z)
          refine lv_iload hx hb dX8_isWord_73 (lv_at hl 6 rfl) ?_
          refine lv_iconst (v := 1) hx hb dX8_isWord_75 kic_1 ?_
          refine lv_iload hx hb dX8_isWord_76 (lv_at hl 0 rfl) ?_
          refine lv_ishl hx hb dX8_isWord_78 ?_
          refine k_topi (y := nI (2 ^ (pN (f8_7 (i9 * 10 + i))))) (mm_shl (by omega)) ?_
          refine lv_ior hx hb dX8_isWord_79 ?_
          refine k_topi (y := nI (ot ||| (2 ^ (pN (f8_7 (i9 * 10 + i)))))) (mm_or ot (2 ^ (pN (f8_7 (i9 * 10 + i))))) ?_
          refine lv_istore (lv' := [(5, .int (nI (ot ||| (2 ^ (pN (f8_7 (i9 * 10 + i))))))), (7, .int (nI (pN (f8_7 (i9 * 10 + i))))), (0, .ref o8), (1, .int (nI i9)), (2, .int (nI d9)), (3, .int (nI st9)), (4, .int (nI pl)), (6, .int (nI i))]) hx hb dX8_isWord_80 hl (Nat.le_of_ble_eq_true rfl) rfl (fun ls hl => ?_)
          refine lv_aload_n hx hb dX8_isWord_82 rfl (lv_at hl 2 rfl) ?_
          refine k_get (v := .ref a8_17) E h (fun w h => List.mem_cons_of_mem _ (List.mem_append_right _ h)) 0 rfl rfl 17 (Nat.le_of_ble_eq_true rfl) (List.mem_of_getElem? (i := 3) rfl) rfl dX8_isWord_83 ?_
          refine lv_iload hx hb dX8_isWord_86 (lv_at hl 7 rfl) ?_
          refine k_iald (v := nI (eE i)) E h 3 2 rfl rfl (vp_in_nI (by omega) (by omega)) (by rw [nI_clamp (by omega)]) dX8_isWord_88 ?_
          refine lv_iload_n hx hb dX8_isWord_89 rfl (lv_at hl 4 rfl) ?_
          refine W.eq (g2 := F0 m 90 ls [.int (nI d9), .int (nI (eE i))]) rfl ?_
          refine lv_iconst (v := -1) hx hb dX8_isWord_90 kic_m1 ?_
          refine lv_ixor hx hb dX8_isWord_91 ?_
          refine lv_iand hx hb dX8_isWord_92 ?_
          refine k_topi (y := nI (mDif (eE i) d9)) (mm_andn (eE i) d9) ?_
          have hd1 := mDif_le (eE i) d9
          have hd2 := NE_k hE hn9.2 (b := i) (by omega)
          refine lv_if_ne (tgt := 112) hx hb dX8_isWord_93 rfl (fun c_9 => ?_) (fun c_9 => ?_)
          · skip
            have i_9 : ¬ (mDif (eE i) d9) = 0 := fun h9 => c_9 ((nI_eq (a := (mDif (eE i) d9)) (b := 0) (by omega) (by omega)).mpr h9)
            refine lv_iconst (v := 0) hx hb dX8_isWord_112 kic_0 ?_
            have hP9 := h.2.1.sub [0, 1, 2, 3, 4] rfl
            have hD9 := h.2.2.1.sub (ws' := [(o8, .inr (8, [.ref a8_0, .ref a8_1, .ref a8_2, .ref a8_3, .ref a8_4, .ref a8_5, .int v8_6, .ref a8_7, .ref a8_8, .ref a8_9, .ref a8_10, .ref a8_11, .int (nI bs), .ref a8_13, .ref a8_14, .ref a8_15, .ref a8_16, .ref a8_17, .ref a8_18, .ref a8_19, .ref a8_20, .ref a8_21, .ref a8_22, .ref a8_23, .ref a8_24, .int v8_25, .int v8_26, .ref a8_27, .ref a8_28, .ref a8_29, .ref a8_30, .ref a8_31, .int v8_32, .int v8_33, .int v8_34, .int v8_35, .ref a8_36, .ref a8_37, .int v8_38, .int v8_39, .int v8_40, .ref a8_41, .ref a8_42, .int v8_43])), (a8_11, .inl (c8_11, 12, .inl f8_11)), (a8_7, .inl (c8_7, 120, .inl f8_7)), (a8_17, .inl (c8_17, 10, .inl (fun j => nI (eE j)))), (a8_18, .inl (c8_18, 10, .inl (fun j => nI (eB j))))]) [0, 1, 2, 3, 4] (by decide) rfl
            exact W.zret (v := 0) hx hb hr (by decide) (fun t ht hW => ⟨⟨0, (), rfl, Or.inr ⟨rfl, (by first | exact WI_bad2 (q := iQ f8_7 (rR f8_7 X8_ Y8) (rW f8_7 D8) (lenN f8_11 i9) i9 bs) hE (by omega) hbit (by assumption) | exact WI_bad3 (q := iQ f8_7 (rR f8_7 X8_ Y8) (rW f8_7 D8) (lenN f8_11 i9) i9 bs) hB (by omega) hbit (by assumption))⟩, (by rw [ht]; exact hP9), hD9⟩, h.2.2.2.1.F ht⟩) h.2.2.2.1.2.2 dX8_isWord_113 hlocks
          · skip
            have i_9 : (mDif (eE i) d9) = 0 := (nI_eq (a := (mDif (eE i) d9)) (b := 0) (by omega) (by omega)).mp c_9
            refine lv_aload_n hx hb dX8_isWord_96 rfl (lv_at hl 2 rfl) ?_
            refine k_get (v := .ref a8_18) E h (fun w h => List.mem_cons_of_mem _ (List.mem_append_right _ h)) 0 rfl rfl 18 (Nat.le_of_ble_eq_true rfl) (List.mem_of_getElem? (i := 4) rfl) rfl dX8_isWord_97 ?_
            refine lv_iload hx hb dX8_isWord_100 (lv_at hl 7 rfl) ?_
            refine k_iald (v := nI (eB i)) E h 4 3 rfl rfl (vp_in_nI (by omega) (by omega)) (by rw [nI_clamp (by omega)]) dX8_isWord_102 ?_
            refine lv_iload_n hx hb dX8_isWord_103 rfl (lv_at hl 4 rfl) ?_
            refine lv_iload_n hx hb dX8_isWord_104 rfl (lv_at hl 5 rfl) ?_
            refine lv_ior hx hb dX8_isWord_105 ?_
            refine k_topi (y := nI (d9 ||| st9)) (mm_or d9 st9) ?_
            refine lv_iconst (v := -1) hx hb dX8_isWord_106 kic_m1 ?_
            refine lv_ixor hx hb dX8_isWord_107 ?_
            refine lv_iand hx hb dX8_isWord_108 ?_
            refine k_topi (y := nI (mDif (eB i) (d9 ||| st9))) (mm_andn (eB i) (d9 ||| st9)) ?_
            have hd3 := mDif_le (eB i) (d9 ||| st9)
            have hd4 := NE_k hB hn9.2 (b := i) (by omega)
            refine lv_if_eq (tgt := 114) hx hb dX8_isWord_109 rfl (fun c_10 => ?_) (fun c_10 => ?_)
            · skip
              have i_10 : (mDif (eB i) (d9 ||| st9)) = 0 := (nI_eq (a := (mDif (eB i) (d9 ||| st9))) (b := 0) (by omega) (by omega)).mp c_10
              refine lv_iinc (v := nI (i + 1)) (lv' := [(6, .int (nI (i + 1))), (5, .int (nI (ot ||| (2 ^ (pN (f8_7 (i9 * 10 + i))))))), (7, .int (nI (pN (f8_7 (i9 * 10 + i))))), (0, .ref o8), (1, .int (nI i9)), (2, .int (nI d9)), (3, .int (nI st9)), (4, .int (nI pl))]) hx hb dX8_isWord_114 hl (k := 7) rfl (nI_1 i) (by decide) rfl (fun ls hl => ?_)
              refine lv_goto (tgt := 9) hx hb dX8_isWord_117 rfl ?_
              exact ih9 ((lenN f8_11 i9) - (i + 1)) (i + 1, pl, (ot ||| (2 ^ (pN (f8_7 (i9 * 10 + i)))))) _ _ _ (by omega) ⟨by omega, rfl, (by first | exact WI_skip hWI hnb | exact WI_bus hWI hbit ((iP_at (by omega)).trans hpz) (WI_hc hE hB (by omega) (by assumption) (by assumption)) | exact WI_part hWI hbit (iP_at (by omega)) hp5 hpz hno (WI_hc hE hB (by omega) (by assumption) (by assumption)))⟩ h (lv_sub hl [3, 4, 5, 6, 7, 1, 0] rfl)
            · skip
              have i_10 : ¬ (mDif (eB i) (d9 ||| st9)) = 0 := fun h9 => c_10 ((nI_eq (a := (mDif (eB i) (d9 ||| st9))) (b := 0) (by omega) (by omega)).mpr h9)
              refine lv_iconst (v := 0) hx hb dX8_isWord_112 kic_0 ?_
              have hP9 := h.2.1.sub [0, 1, 2, 3, 4] rfl
              have hD9 := h.2.2.1.sub (ws' := [(o8, .inr (8, [.ref a8_0, .ref a8_1, .ref a8_2, .ref a8_3, .ref a8_4, .ref a8_5, .int v8_6, .ref a8_7, .ref a8_8, .ref a8_9, .ref a8_10, .ref a8_11, .int (nI bs), .ref a8_13, .ref a8_14, .ref a8_15, .ref a8_16, .ref a8_17, .ref a8_18, .ref a8_19, .ref a8_20, .ref a8_21, .ref a8_22, .ref a8_23, .ref a8_24, .int v8_25, .int v8_26, .ref a8_27, .ref a8_28, .ref a8_29, .ref a8_30, .ref a8_31, .int v8_32, .int v8_33, .int v8_34, .int v8_35, .ref a8_36, .ref a8_37, .int v8_38, .int v8_39, .int v8_40, .ref a8_41, .ref a8_42, .int v8_43])), (a8_11, .inl (c8_11, 12, .inl f8_11)), (a8_7, .inl (c8_7, 120, .inl f8_7)), (a8_17, .inl (c8_17, 10, .inl (fun j => nI (eE j)))), (a8_18, .inl (c8_18, 10, .inl (fun j => nI (eB j))))]) [0, 1, 2, 3, 4] (by decide) rfl
              exact W.zret (v := 0) hx hb hr (by decide) (fun t ht hW => ⟨⟨0, (), rfl, Or.inr ⟨rfl, (by first | exact WI_bad2 (q := iQ f8_7 (rR f8_7 X8_ Y8) (rW f8_7 D8) (lenN f8_11 i9) i9 bs) hE (by omega) hbit (by assumption) | exact WI_bad3 (q := iQ f8_7 (rR f8_7 X8_ Y8) (rW f8_7 D8) (lenN f8_11 i9) i9 bs) hB (by omega) hbit (by assumption))⟩, (by rw [ht]; exact hP9), hD9⟩, h.2.2.2.1.F ht⟩) h.2.2.2.1.2.2 dX8_isWord_113 hlocks
        · skip
          have i_8 : (mBt ot (pN (f8_7 (i9 * 10 + i)))) = 1 := (nI_eq (a := (mBt ot (pN (f8_7 (i9 * 10 + i))))) (b := 1) (by omega) (by omega)).mp c_8
          have hyes := mBt_1.mp i_8
          refine lv_iconst (v := 0) hx hb dX8_isWord_71 kic_0 ?_
          have hP9 := h.2.1.sub [0, 1, 2, 3, 4] rfl
          have hD9 := h.2.2.1.sub (ws' := [(o8, .inr (8, [.ref a8_0, .ref a8_1, .ref a8_2, .ref a8_3, .ref a8_4, .ref a8_5, .int v8_6, .ref a8_7, .ref a8_8, .ref a8_9, .ref a8_10, .ref a8_11, .int (nI bs), .ref a8_13, .ref a8_14, .ref a8_15, .ref a8_16, .ref a8_17, .ref a8_18, .ref a8_19, .ref a8_20, .ref a8_21, .ref a8_22, .ref a8_23, .ref a8_24, .int v8_25, .int v8_26, .ref a8_27, .ref a8_28, .ref a8_29, .ref a8_30, .ref a8_31, .int v8_32, .int v8_33, .int v8_34, .int v8_35, .ref a8_36, .ref a8_37, .int v8_38, .int v8_39, .int v8_40, .ref a8_41, .ref a8_42, .int v8_43])), (a8_11, .inl (c8_11, 12, .inl f8_11)), (a8_7, .inl (c8_7, 120, .inl f8_7)), (a8_17, .inl (c8_17, 10, .inl (fun j => nI (eE j)))), (a8_18, .inl (c8_18, 10, .inl (fun j => nI (eB j))))]) [0, 1, 2, 3, 4] (by decide) rfl
          exact W.zret (v := 0) hx hb hr (by decide) (fun t ht hW => ⟨⟨0, (), rfl, Or.inr ⟨rfl, WI_bad1 hWI (by show i < lenN f8_11 i9; omega) hbit (iP_at (by omega)) hp5 hpz hyes⟩, (by rw [ht]; exact hP9), hD9⟩, h.2.2.2.1.F ht⟩) h.2.2.2.1.2.2 dX8_isWord_72 hlocks
      · skip
        have i_6 : (pN (f8_7 (i9 * 10 + i))) = 0 := (nI_eq (a := (pN (f8_7 (i9 * 10 + i)))) (b := 0) (by omega) (by omega)).mp c_6
        have hpz := i_6
        refine lv_iinc (v := nI (pl + 1)) (lv' := [(4, .int (nI (pl + 1))), (7, .int (nI (pN (f8_7 (i9 * 10 + i))))), (0, .ref o8), (1, .int (nI i9)), (2, .int (nI d9)), (3, .int (nI st9)), (5, .int (nI ot)), (6, .int (nI i))]) hx hb dX8_isWord_54 hl (k := 5) rfl (nI_1 pl) (by decide) rfl (fun ls hl => ?_)
        refine lv_goto (tgt := 82) hx hb dX8_isWord_57 rfl ?_
        refine lv_aload_n hx hb dX8_isWord_82 rfl (lv_at hl 2 rfl) ?_
        refine k_get (v := .ref a8_17) E h (fun w h => List.mem_cons_of_mem _ (List.mem_append_right _ h)) 0 rfl rfl 17 (Nat.le_of_ble_eq_true rfl) (List.mem_of_getElem? (i := 3) rfl) rfl dX8_isWord_83 ?_
        refine lv_iload hx hb dX8_isWord_86 (lv_at hl 7 rfl) ?_
        refine k_iald (v := nI (eE i)) E h 3 2 rfl rfl (vp_in_nI (by omega) (by omega)) (by rw [nI_clamp (by omega)]) dX8_isWord_88 ?_
        refine lv_iload_n hx hb dX8_isWord_89 rfl (lv_at hl 4 rfl) ?_
        refine lv_iconst (v := -1) hx hb dX8_isWord_90 kic_m1 ?_
        refine lv_ixor hx hb dX8_isWord_91 ?_
        refine lv_iand hx hb dX8_isWord_92 ?_
        refine k_topi (y := nI (mDif (eE i) d9)) (mm_andn (eE i) d9) ?_
        have hd1 := mDif_le (eE i) d9
        have hd2 := NE_k hE hn9.2 (b := i) (by omega)
        refine lv_if_ne (tgt := 112) hx hb dX8_isWord_93 rfl (fun c_11 => ?_) (fun c_11 => ?_)
        · skip
          have i_11 : ¬ (mDif (eE i) d9) = 0 := fun h9 => c_11 ((nI_eq (a := (mDif (eE i) d9)) (b := 0) (by omega) (by omega)).mpr h9)
          refine lv_iconst (v := 0) hx hb dX8_isWord_112 kic_0 ?_
          have hP9 := h.2.1.sub [0, 1, 2, 3, 4] rfl
          have hD9 := h.2.2.1.sub (ws' := [(o8, .inr (8, [.ref a8_0, .ref a8_1, .ref a8_2, .ref a8_3, .ref a8_4, .ref a8_5, .int v8_6, .ref a8_7, .ref a8_8, .ref a8_9, .ref a8_10, .ref a8_11, .int (nI bs), .ref a8_13, .ref a8_14, .ref a8_15, .ref a8_16, .ref a8_17, .ref a8_18, .ref a8_19, .ref a8_20, .ref a8_21, .ref a8_22, .ref a8_23, .ref a8_24, .int v8_25, .int v8_26, .ref a8_27, .ref a8_28, .ref a8_29, .ref a8_30, .ref a8_31, .int v8_32, .int v8_33, .int v8_34, .int v8_35, .ref a8_36, .ref a8_37, .int v8_38, .int v8_39, .int v8_40, .ref a8_41, .ref a8_42, .int v8_43])), (a8_11, .inl (c8_11, 12, .inl f8_11)), (a8_7, .inl (c8_7, 120, .inl f8_7)), (a8_17, .inl (c8_17, 10, .inl (fun j => nI (eE j)))), (a8_18, .inl (c8_18, 10, .inl (fun j => nI (eB j))))]) [0, 1, 2, 3, 4] (by decide) rfl
          exact W.zret (v := 0) hx hb hr (by decide) (fun t ht hW => ⟨⟨0, (), rfl, Or.inr ⟨rfl, (by first | exact WI_bad2 (q := iQ f8_7 (rR f8_7 X8_ Y8) (rW f8_7 D8) (lenN f8_11 i9) i9 bs) hE (by omega) hbit (by assumption) | exact WI_bad3 (q := iQ f8_7 (rR f8_7 X8_ Y8) (rW f8_7 D8) (lenN f8_11 i9) i9 bs) hB (by omega) hbit (by assumption))⟩, (by rw [ht]; exact hP9), hD9⟩, h.2.2.2.1.F ht⟩) h.2.2.2.1.2.2 dX8_isWord_113 hlocks
        · skip
          have i_11 : (mDif (eE i) d9) = 0 := (nI_eq (a := (mDif (eE i) d9)) (b := 0) (by omega) (by omega)).mp c_11
          refine lv_aload_n hx hb dX8_isWord_96 rfl (lv_at hl 2 rfl) ?_
          refine k_get (v := .ref a8_18) E h (fun w h => List.mem_cons_of_mem _ (List.mem_append_right _ h)) 0 rfl rfl 18 (Nat.le_of_ble_eq_true rfl) (List.mem_of_getElem? (i := 4) rfl) rfl dX8_isWord_97 ?_
          refine lv_iload hx hb dX8_isWord_100 (lv_at hl 7 rfl) ?_
          refine k_iald (v := nI (eB i)) E h 4 3 rfl rfl (vp_in_nI (by omega) (by omega)) (by rw [nI_clamp (by omega)]) dX8_isWord_102 ?_
          refine lv_iload_n hx hb dX8_isWord_103 rfl (lv_at hl 4 rfl) ?_
          refine lv_iload_n hx hb dX8_isWord_104 rfl (lv_at hl 5 rfl) ?_
          refine lv_ior hx hb dX8_isWord_105 ?_
          refine k_topi (y := nI (d9 ||| st9)) (mm_or d9 st9) ?_
          refine lv_iconst (v := -1) hx hb dX8_isWord_106 kic_m1 ?_
          refine lv_ixor hx hb dX8_isWord_107 ?_
          refine lv_iand hx hb dX8_isWord_108 ?_
          refine k_topi (y := nI (mDif (eB i) (d9 ||| st9))) (mm_andn (eB i) (d9 ||| st9)) ?_
          have hd3 := mDif_le (eB i) (d9 ||| st9)
          have hd4 := NE_k hB hn9.2 (b := i) (by omega)
          refine lv_if_eq (tgt := 114) hx hb dX8_isWord_109 rfl (fun c_12 => ?_) (fun c_12 => ?_)
          · skip
            have i_12 : (mDif (eB i) (d9 ||| st9)) = 0 := (nI_eq (a := (mDif (eB i) (d9 ||| st9))) (b := 0) (by omega) (by omega)).mp c_12
            refine lv_iinc (v := nI (i + 1)) (lv' := [(6, .int (nI (i + 1))), (4, .int (nI (pl + 1))), (7, .int (nI (pN (f8_7 (i9 * 10 + i))))), (0, .ref o8), (1, .int (nI i9)), (2, .int (nI d9)), (3, .int (nI st9)), (5, .int (nI ot))]) hx hb dX8_isWord_114 hl (k := 7) rfl (nI_1 i) (by decide) rfl (fun ls hl => ?_)
            refine lv_goto (tgt := 9) hx hb dX8_isWord_117 rfl ?_
            exact ih9 ((lenN f8_11 i9) - (i + 1)) (i + 1, (pl + 1), ot) _ _ _ (by omega) ⟨by omega, rfl, (by first | exact WI_skip hWI hnb | exact WI_bus hWI hbit ((iP_at (by omega)).trans hpz) (WI_hc hE hB (by omega) (by assumption) (by assumption)) | exact WI_part hWI hbit (iP_at (by omega)) hp5 hpz hno (WI_hc hE hB (by omega) (by assumption) (by assumption)))⟩ h (lv_sub hl [3, 4, 5, 6, 1, 7, 0] rfl)
          · skip
            have i_12 : ¬ (mDif (eB i) (d9 ||| st9)) = 0 := fun h9 => c_12 ((nI_eq (a := (mDif (eB i) (d9 ||| st9))) (b := 0) (by omega) (by omega)).mpr h9)
            refine lv_iconst (v := 0) hx hb dX8_isWord_112 kic_0 ?_
            have hP9 := h.2.1.sub [0, 1, 2, 3, 4] rfl
            have hD9 := h.2.2.1.sub (ws' := [(o8, .inr (8, [.ref a8_0, .ref a8_1, .ref a8_2, .ref a8_3, .ref a8_4, .ref a8_5, .int v8_6, .ref a8_7, .ref a8_8, .ref a8_9, .ref a8_10, .ref a8_11, .int (nI bs), .ref a8_13, .ref a8_14, .ref a8_15, .ref a8_16, .ref a8_17, .ref a8_18, .ref a8_19, .ref a8_20, .ref a8_21, .ref a8_22, .ref a8_23, .ref a8_24, .int v8_25, .int v8_26, .ref a8_27, .ref a8_28, .ref a8_29, .ref a8_30, .ref a8_31, .int v8_32, .int v8_33, .int v8_34, .int v8_35, .ref a8_36, .ref a8_37, .int v8_38, .int v8_39, .int v8_40, .ref a8_41, .ref a8_42, .int v8_43])), (a8_11, .inl (c8_11, 12, .inl f8_11)), (a8_7, .inl (c8_7, 120, .inl f8_7)), (a8_17, .inl (c8_17, 10, .inl (fun j => nI (eE j)))), (a8_18, .inl (c8_18, 10, .inl (fun j => nI (eB j))))]) [0, 1, 2, 3, 4] (by decide) rfl
            exact W.zret (v := 0) hx hb hr (by decide) (fun t ht hW => ⟨⟨0, (), rfl, Or.inr ⟨rfl, (by first | exact WI_bad2 (q := iQ f8_7 (rR f8_7 X8_ Y8) (rW f8_7 D8) (lenN f8_11 i9) i9 bs) hE (by omega) hbit (by assumption) | exact WI_bad3 (q := iQ f8_7 (rR f8_7 X8_ Y8) (rW f8_7 D8) (lenN f8_11 i9) i9 bs) hB (by omega) hbit (by assumption))⟩, (by rw [ht]; exact hP9), hD9⟩, h.2.2.2.1.F ht⟩) h.2.2.2.1.2.2 dX8_isWord_113 hlocks
    · skip
      have i_4 : (mBt st9 i) = 0 := (nI_eq (a := (mBt st9 i)) (b := 0) (by omega) (by omega)).mp c_4
      have hnb : ¬ st9.testBit i = true := fun z => mBt_0.mpr z i_4
      refine lv_goto (tgt := 114) hx hb dX8_isWord_29 rfl ?_
      refine lv_iinc (v := nI (i + 1)) (lv' := [(6, .int (nI (i + 1))), (0, .ref o8), (1, .int (nI i9)), (2, .int (nI d9)), (3, .int (nI st9)), (4, .int (nI pl)), (5, .int (nI ot))]) hx hb dX8_isWord_114 hl (k := 6) rfl (nI_1 i) (by decide) rfl (fun ls hl => ?_)
      refine lv_goto (tgt := 9) hx hb dX8_isWord_117 rfl ?_
      exact ih9 ((lenN f8_11 i9) - (i + 1)) (i + 1, pl, ot) _ _ _ (by omega) ⟨by omega, rfl, (by first | exact WI_skip hWI hnb | exact WI_bus hWI hbit ((iP_at (by omega)).trans hpz) (WI_hc hE hB (by omega) (by assumption) (by assumption)) | exact WI_part hWI hbit (iP_at (by omega)) hp5 hpz hno (WI_hc hE hB (by omega) (by assumption) (by assumption)))⟩ h (lv_sub hl [1, 2, 3, 4, 5, 6, 0] rfl)
