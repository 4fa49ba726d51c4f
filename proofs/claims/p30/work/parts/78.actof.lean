set_option maxHeartbeats 4000000 in
set_option maxRecDepth 100000 in
theorem c_X8_actOf (l : Launch) (dC : Nat → ClassId) (dI : Nat → Nat → Nat) (sz : Nat) (o8 : Nat) (a8_0 : Nat) (a8_1 : Nat) (a8_2 : Nat) (a8_3 : Nat) (a8_4 : Nat) (a8_5 : Nat) (v8_6 : Int32) (a8_7 : Nat) (a8_8 : Nat) (a8_9 : Nat) (a8_10 : Nat) (a8_11 : Nat) (v8_12 : Int32) (a8_13 : Nat) (a8_14 : Nat) (a8_15 : Nat) (a8_16 : Nat) (a8_17 : Nat) (a8_18 : Nat) (a8_19 : Nat) (a8_20 : Nat) (a8_21 : Nat) (a8_22 : Nat) (a8_23 : Nat) (a8_24 : Nat) (v8_25 : Int32) (v8_26 : Int32) (a8_27 : Nat) (a8_28 : Nat) (a8_29 : Nat) (a8_30 : Nat) (a8_31 : Nat) (v8_32 : Int32) (v8_33 : Int32) (v8_34 : Int32) (v8_35 : Int32) (a8_36 : Nat) (a8_37 : Nat) (v8_38 : Int32) (v8_39 : Int32) (v8_40 : Int32) (a8_41 : Nat) (a8_42 : Nat) (v8_43 : Int32) (c8_11 : ClassId) (f8_11 : Nat → Int32) (c8_15 : ClassId) (f8_15 : Nat → Int32) (p0 : Int32) (p1 : Int32) (p2 : Int32) (hL8 : IL f8_11) (hp : 0 ≤ p0.toInt ∧ p0.toInt < 12) (hv : 0 ≤ p2.toInt) : Met l yX8_actOf wsX8_actOf ({ frames := 0, cells := 0, slots := 0, locals := 0 } : Room) (va_Pc [.ref o8, .int p0, .int p1, .int p2] (KPre (dC, dI) [(o8, .inr (8, [.ref a8_0, .ref a8_1, .ref a8_2, .ref a8_3, .ref a8_4, .ref a8_5, .int v8_6, .ref a8_7, .ref a8_8, .ref a8_9, .ref a8_10, .ref a8_11, .int v8_12, .ref a8_13, .ref a8_14, .ref a8_15, .ref a8_16, .ref a8_17, .ref a8_18, .ref a8_19, .ref a8_20, .ref a8_21, .ref a8_22, .ref a8_23, .ref a8_24, .int v8_25, .int v8_26, .ref a8_27, .ref a8_28, .ref a8_29, .ref a8_30, .ref a8_31, .int v8_32, .int v8_33, .int v8_34, .int v8_35, .ref a8_36, .ref a8_37, .int v8_38, .int v8_39, .int v8_40, .ref a8_41, .ref a8_42, .int v8_43])), (a8_11, .inl (c8_11, 12, .inl f8_11)), (a8_15, .inl (c8_15, 120, .inl f8_15))] [(c8_11, .int), (c8_15, .int)] sz (fun _ => True))) (va_Qi (fun (r : Int32) (u : Unit) => (r.toInt = -1 ∨ (0 ≤ r.toInt ∧ r.toInt < 120))) (KPost (dC, dI) (va_A [(o8, .inr (8, [.ref a8_0, .ref a8_1, .ref a8_2, .ref a8_3, .ref a8_4, .ref a8_5, .int v8_6, .ref a8_7, .ref a8_8, .ref a8_9, .ref a8_10, .ref a8_11, .int v8_12, .ref a8_13, .ref a8_14, .ref a8_15, .ref a8_16, .ref a8_17, .ref a8_18, .ref a8_19, .ref a8_20, .ref a8_21, .ref a8_22, .ref a8_23, .ref a8_24, .int v8_25, .int v8_26, .ref a8_27, .ref a8_28, .ref a8_29, .ref a8_30, .ref a8_31, .int v8_32, .int v8_33, .int v8_34, .int v8_35, .ref a8_36, .ref a8_37, .int v8_38, .int v8_39, .int v8_40, .ref a8_41, .ref a8_42, .int v8_43])), (a8_11, .inl (c8_11, 12, .inl f8_11)), (a8_15, .inl (c8_15, 120, .inl f8_15))] sz) (fun (u : Unit) => [(o8, .inr (8, [.ref a8_0, .ref a8_1, .ref a8_2, .ref a8_3, .ref a8_4, .ref a8_5, .int v8_6, .ref a8_7, .ref a8_8, .ref a8_9, .ref a8_10, .ref a8_11, .int v8_12, .ref a8_13, .ref a8_14, .ref a8_15, .ref a8_16, .ref a8_17, .ref a8_18, .ref a8_19, .ref a8_20, .ref a8_21, .ref a8_22, .ref a8_23, .ref a8_24, .int v8_25, .int v8_26, .ref a8_27, .ref a8_28, .ref a8_29, .ref a8_30, .ref a8_31, .int v8_32, .int v8_33, .int v8_34, .int v8_35, .ref a8_36, .ref a8_37, .int v8_38, .int v8_39, .int v8_40, .ref a8_41, .ref a8_42, .int v8_43])), (a8_11, .inl (c8_11, 12, .inl f8_11)), (a8_15, .inl (c8_15, 120, .inl f8_15))])) (va_A [(o8, .inr (8, [.ref a8_0, .ref a8_1, .ref a8_2, .ref a8_3, .ref a8_4, .ref a8_5, .int v8_6, .ref a8_7, .ref a8_8, .ref a8_9, .ref a8_10, .ref a8_11, .int v8_12, .ref a8_13, .ref a8_14, .ref a8_15, .ref a8_16, .ref a8_17, .ref a8_18, .ref a8_19, .ref a8_20, .ref a8_21, .ref a8_22, .ref a8_23, .ref a8_24, .int v8_25, .int v8_26, .ref a8_27, .ref a8_28, .ref a8_29, .ref a8_30, .ref a8_31, .int v8_32, .int v8_33, .int v8_34, .int v8_35, .ref a8_36, .ref a8_37, .int v8_38, .int v8_39, .int v8_40, .ref a8_41, .ref a8_42, .int v8_43])), (a8_11, .inl (c8_11, 12, .inl f8_11)), (a8_15, .inl (c8_15, 120, .inl f8_15))] sz)) 0 0 (va_A [(o8, .inr (8, [.ref a8_0, .ref a8_1, .ref a8_2, .ref a8_3, .ref a8_4, .ref a8_5, .int v8_6, .ref a8_7, .ref a8_8, .ref a8_9, .ref a8_10, .ref a8_11, .int v8_12, .ref a8_13, .ref a8_14, .ref a8_15, .ref a8_16, .ref a8_17, .ref a8_18, .ref a8_19, .ref a8_20, .ref a8_21, .ref a8_22, .ref a8_23, .ref a8_24, .int v8_25, .int v8_26, .ref a8_27, .ref a8_28, .ref a8_29, .ref a8_30, .ref a8_31, .int v8_32, .int v8_33, .int v8_34, .int v8_35, .ref a8_36, .ref a8_37, .int v8_38, .int v8_39, .int v8_40, .ref a8_41, .ref a8_42, .int v8_43])), (a8_11, .inl (c8_11, 12, .inl f8_11)), (a8_15, .inl (c8_15, 120, .inl f8_15))] sz) := by
  refine kMet (y := yX8_actOf) (wsM := wsX8_actOf) (cc := cX8_actOf) (maxL := 6) (ret := (some .int)) (rm := ({ frames := 0, cells := 0, slots := 0, locals := 0 } : Room)) (mc := 0) (ms := 0) (av := [.ref o8, .int p0, .int p1, .int p2]) (D := (dC, dI)) (wc := [(o8, .inr (8, [.ref a8_0, .ref a8_1, .ref a8_2, .ref a8_3, .ref a8_4, .ref a8_5, .int v8_6, .ref a8_7, .ref a8_8, .ref a8_9, .ref a8_10, .ref a8_11, .int v8_12, .ref a8_13, .ref a8_14, .ref a8_15, .ref a8_16, .ref a8_17, .ref a8_18, .ref a8_19, .ref a8_20, .ref a8_21, .ref a8_22, .ref a8_23, .ref a8_24, .int v8_25, .int v8_26, .ref a8_27, .ref a8_28, .ref a8_29, .ref a8_30, .ref a8_31, .int v8_32, .int v8_33, .int v8_34, .int v8_35, .ref a8_36, .ref a8_37, .int v8_38, .int v8_39, .int v8_40, .ref a8_41, .ref a8_42, .int v8_43])), (a8_11, .inl (c8_11, 12, .inl f8_11)), (a8_15, .inl (c8_15, 120, .inl f8_15))]) (tc := [(c8_11, .int), (c8_15, .int)]) (sz := sz) (X := fun _ => True) (Qc := fun A => va_Qi (fun (r : Int32) (u : Unit) => (r.toInt = -1 ∨ (0 ≤ r.toInt ∧ r.toInt < 120))) (KPost (dC, dI) A (fun (u : Unit) => [(o8, .inr (8, [.ref a8_0, .ref a8_1, .ref a8_2, .ref a8_3, .ref a8_4, .ref a8_5, .int v8_6, .ref a8_7, .ref a8_8, .ref a8_9, .ref a8_10, .ref a8_11, .int v8_12, .ref a8_13, .ref a8_14, .ref a8_15, .ref a8_16, .ref a8_17, .ref a8_18, .ref a8_19, .ref a8_20, .ref a8_21, .ref a8_22, .ref a8_23, .ref a8_24, .int v8_25, .int v8_26, .ref a8_27, .ref a8_28, .ref a8_29, .ref a8_30, .ref a8_31, .int v8_32, .int v8_33, .int v8_34, .int v8_35, .ref a8_36, .ref a8_37, .int v8_38, .int v8_39, .int v8_40, .ref a8_41, .ref a8_42, .int v8_43])), (a8_11, .inl (c8_11, 12, .inl f8_11)), (a8_15, .inl (c8_15, 120, .inl f8_15))])) A) (by decide) rfl (Nat.le_of_ble_eq_true rfl) ?_
  intro p e s m below meth c A ls E hr hlocks hnm hsz hAe hX h hl
  have hx := E.1
  have hb := E.2.1
  have hl : lv_has ls 6 [(0, .ref o8), (1, .int p0), (2, .int p1), (3, .int p2)] := hl
  have hl8 := IL_at hL8 hp
  refine lv_iload_n hx hb dX8_actOf_0 rfl (lv_at hl 3 rfl) ?_
  refine lv_istore (lv' := [(4, .int p2), (0, .ref o8), (1, .int p0), (2, .int p1), (3, .int p2)]) hx hb dX8_actOf_1 hl (by decide) rfl (fun ls hl => ?_)
  refine lv_iconst (v := 0) hx hb dX8_actOf_3 (by decide) ?_
  refine lv_istore (lv' := [(5, .int 0), (4, .int p2), (0, .ref o8), (1, .int p0), (2, .int p1), (3, .int p2)]) hx hb dX8_actOf_4 hl (by decide) rfl (fun ls hl => ?_)
  refine k_loop (σ := Int32 × Int32) (fun x9 => [(o8, .inr (8, [.ref a8_0, .ref a8_1, .ref a8_2, .ref a8_3, .ref a8_4, .ref a8_5, .int v8_6, .ref a8_7, .ref a8_8, .ref a8_9, .ref a8_10, .ref a8_11, .int v8_12, .ref a8_13, .ref a8_14, .ref a8_15, .ref a8_16, .ref a8_17, .ref a8_18, .ref a8_19, .ref a8_20, .ref a8_21, .ref a8_22, .ref a8_23, .ref a8_24, .int v8_25, .int v8_26, .ref a8_27, .ref a8_28, .ref a8_29, .ref a8_30, .ref a8_31, .int v8_32, .int v8_33, .int v8_34, .int v8_35, .ref a8_36, .ref a8_37, .int v8_38, .int v8_39, .int v8_40, .ref a8_41, .ref a8_42, .int v8_43])), (a8_11, .inl (c8_11, 12, .inl f8_11)), (a8_15, .inl (c8_15, 120, .inl f8_15))]) (fun x9 => [(0, .ref o8), (1, .int p0), (2, .int p1), (3, .int p2), (4, .int x9.1), (5, .int x9.2)]) (fun n9 x9 => (0 ≤ x9.2.toInt ∧ x9.2.toInt ≤ 10) ∧ n9 = (10 - x9.2.toInt).toNat ∧ 0 ≤ x9.1.toInt) ?_ (10 - 0) (p2, 0) ⟨by show 0 ≤ (0 : Int32).toInt ∧ (0 : Int32).toInt ≤ 10; decide, rfl, hv⟩ h (lv_sub hl [2, 3, 4, 5, 1, 0] rfl)
  intro n9 x9 H locs ls hI h hl ih
  obtain ⟨le, x5⟩ := x9
  have hI : (0 ≤ x5.toInt ∧ x5.toInt ≤ 10) ∧ n9 = (10 - x5.toInt).toNat ∧ 0 ≤ le.toInt := hI
  have h : KS (dC, dI) A [(o8, .inr (8, [.ref a8_0, .ref a8_1, .ref a8_2, .ref a8_3, .ref a8_4, .ref a8_5, .int v8_6, .ref a8_7, .ref a8_8, .ref a8_9, .ref a8_10, .ref a8_11, .int v8_12, .ref a8_13, .ref a8_14, .ref a8_15, .ref a8_16, .ref a8_17, .ref a8_18, .ref a8_19, .ref a8_20, .ref a8_21, .ref a8_22, .ref a8_23, .ref a8_24, .int v8_25, .int v8_26, .ref a8_27, .ref a8_28, .ref a8_29, .ref a8_30, .ref a8_31, .int v8_32, .int v8_33, .int v8_34, .int v8_35, .ref a8_36, .ref a8_37, .int v8_38, .int v8_39, .int v8_40, .ref a8_41, .ref a8_42, .int v8_43])), (a8_11, .inl (c8_11, 12, .inl f8_11)), (a8_15, .inl (c8_15, 120, .inl f8_15))] [(c8_11, .int), (c8_15, .int)] s H locs := h
  have hl : lv_has ls 6 [(0, .ref o8), (1, .int p0), (2, .int p1), (3, .int p2), (4, .int le), (5, .int x5)] := hl
  obtain ⟨⟨hk1, hk2⟩, hk3, hk4⟩ := hI
  refine lv_iload hx hb dX8_actOf_6 (lv_at hl 5 rfl) ?_
  refine lv_aload_n hx hb dX8_actOf_8 rfl (lv_at hl 0 rfl) ?_
  refine k_get (v := .ref a8_11) E h (fun w h => List.mem_cons_of_mem _ (List.mem_append_right _ h)) 0 rfl rfl 11 (by decide) (List.mem_of_getElem? (i := 1) rfl) rfl dX8_actOf_9 ?_
  refine lv_iload_n hx hb dX8_actOf_12 rfl (lv_at hl 1 rfl) ?_
  refine k_iald (v := f8_11 p0.toNatClampNeg) E h 1 0 rfl rfl (vp_in_iff.mpr (by omega)) rfl dX8_actOf_13 ?_
  refine lv_icmp_ge (tgt := 58) hx hb dX8_actOf_14 (by decide) (fun c_1 => ?_) (fun c_1 => ?_)
  · skip
    have i_1 : (f8_11 p0.toNatClampNeg).toInt ≤ x5.toInt := (fa_le _ _).mp c_1
    refine lv_iconst (v := -1) hx hb dX8_actOf_58 (by decide) ?_
    have hP9 := h.2.1.sub [0, 1, 2] rfl
    have hD9 := h.2.2.1.sub (ws' := [(o8, .inr (8, [.ref a8_0, .ref a8_1, .ref a8_2, .ref a8_3, .ref a8_4, .ref a8_5, .int v8_6, .ref a8_7, .ref a8_8, .ref a8_9, .ref a8_10, .ref a8_11, .int v8_12, .ref a8_13, .ref a8_14, .ref a8_15, .ref a8_16, .ref a8_17, .ref a8_18, .ref a8_19, .ref a8_20, .ref a8_21, .ref a8_22, .ref a8_23, .ref a8_24, .int v8_25, .int v8_26, .ref a8_27, .ref a8_28, .ref a8_29, .ref a8_30, .ref a8_31, .int v8_32, .int v8_33, .int v8_34, .int v8_35, .ref a8_36, .ref a8_37, .int v8_38, .int v8_39, .int v8_40, .ref a8_41, .ref a8_42, .int v8_43])), (a8_11, .inl (c8_11, 12, .inl f8_11)), (a8_15, .inl (c8_15, 120, .inl f8_15))]) [0, 1, 2] (by decide) rfl
    exact W.iret (v := (-1)) hx hb hr (fun t ht hW => ⟨⟨(-1), (), rfl, (Or.inl (by decide)), (by rw [ht]; exact hP9), hD9⟩, h.2.2.2.1.F ht⟩) h.2.2.2.1.2.2 dX8_actOf_59 hlocks
  · skip
    have i_1 : ¬ (f8_11 p0.toNatClampNeg).toInt ≤ x5.toInt := fun h9 => c_1 ((fa_le _ _).mpr h9)
    refine lv_aload_n hx hb dX8_actOf_17 rfl (lv_at hl 0 rfl) ?_
    refine k_get (v := .ref a8_15) E h (fun w h => List.mem_cons_of_mem _ (List.mem_append_right _ h)) 0 rfl rfl 15 (by decide) (List.mem_of_getElem? (i := 2) rfl) rfl dX8_actOf_18 ?_
    refine lv_bipush (v := 10) hx hb dX8_actOf_21 (by decide) ?_
    refine lv_iload_n hx hb dX8_actOf_23 rfl (lv_at hl 1 rfl) ?_
    refine lv_imul hx hb dX8_actOf_24 ?_
    refine lv_iload hx hb dX8_actOf_25 (lv_at hl 5 rfl) ?_
    refine lv_iadd hx hb dX8_actOf_27 ?_
    have e8 : (10 * p0 + x5).toInt = 10 * p0.toInt + x5.toInt := kslot3 hp (by omega) (by omega)
    refine k_iald (v := f8_15 ((10 * p0) + x5).toNatClampNeg) E h 2 1 rfl rfl (vp_in_iff.mpr (by omega)) rfl dX8_actOf_28 ?_
    refine lv_iload_n hx hb dX8_actOf_29 rfl (lv_at hl 2 rfl) ?_
    refine lv_icmp_eq (tgt := 36) hx hb dX8_actOf_30 (by decide) (fun c_2 => ?_) (fun c_2 => ?_)
    · skip
      have i_2 : (f8_15 ((10 * p0) + x5).toNatClampNeg).toInt = p1.toInt := (fa_eq _ _).mp c_2
      refine lv_iload hx hb dX8_actOf_36 (lv_at hl 4 rfl) ?_
      refine lv_if_ne (tgt := 49) hx hb dX8_actOf_38 (by decide) (fun c_3 => ?_) (fun c_3 => ?_)
      · skip
        have i_3 : ¬ le.toInt = 0 := fun h9 => c_3 ((fa_eq _ _).mpr h9)
        obtain ⟨y_4, ey_4⟩ : ∃ y : Int32, y = le + (-1) := ⟨_, rfl⟩
        have e_5 : y_4.toInt = le.toInt - 1 := by rw [ey_4]; exact kdec (by omega)
        refine lv_iinc (v := y_4) (lv' := [(4, .int y_4), (0, .ref o8), (1, .int p0), (2, .int p1), (3, .int p2), (5, .int x5)]) hx hb dX8_actOf_49 hl (k := 4) rfl (by rw [ey_4]; exact congrArg (fun z => le + z) (show Int32.ofInt (-1) = (-1 : Int32) by decide)) (by decide) rfl (fun ls hl => ?_)
        refine lv_iinc (v := x5 + 1) (lv' := [(5, .int (x5 + 1)), (4, .int y_4), (0, .ref o8), (1, .int p0), (2, .int p1), (3, .int p2)]) hx hb dX8_actOf_52 hl (k := 5) rfl rfl (by decide) rfl (fun ls hl => ?_)
        refine lv_goto (tgt := 6) hx hb dX8_actOf_55 (by decide) ?_
        have e9 : (x5 + 1).toInt = x5.toInt + 1 := by rw [Int32.toInt_add]; exact fb_bmod (z := x5.toInt + 1) (by omega) (by omega)
        exact ih (10 - (x5 + 1).toInt).toNat (y_4, (x5 + 1)) _ _ _ (by omega) ⟨by show 0 ≤ (x5 + 1).toInt ∧ (x5 + 1).toInt ≤ 10; omega, rfl, by show 0 ≤ y_4.toInt; omega⟩ h (lv_sub hl [2, 3, 4, 5, 1, 0] rfl)
      · skip
        have i_3 : le.toInt = 0 := (fa_eq _ _).mp c_3
        refine lv_bipush (v := 10) hx hb dX8_actOf_41 (by decide) ?_
        refine lv_iload_n hx hb dX8_actOf_43 rfl (lv_at hl 1 rfl) ?_
        refine lv_imul hx hb dX8_actOf_44 ?_
        refine lv_iload hx hb dX8_actOf_45 (lv_at hl 5 rfl) ?_
        refine lv_iadd hx hb dX8_actOf_47 ?_
        have e8 : (10 * p0 + x5).toInt = 10 * p0.toInt + x5.toInt := kslot3 hp (by omega) (by omega)
        have hP9 := h.2.1.sub [0, 1, 2] rfl
        have hD9 := h.2.2.1.sub (ws' := [(o8, .inr (8, [.ref a8_0, .ref a8_1, .ref a8_2, .ref a8_3, .ref a8_4, .ref a8_5, .int v8_6, .ref a8_7, .ref a8_8, .ref a8_9, .ref a8_10, .ref a8_11, .int v8_12, .ref a8_13, .ref a8_14, .ref a8_15, .ref a8_16, .ref a8_17, .ref a8_18, .ref a8_19, .ref a8_20, .ref a8_21, .ref a8_22, .ref a8_23, .ref a8_24, .int v8_25, .int v8_26, .ref a8_27, .ref a8_28, .ref a8_29, .ref a8_30, .ref a8_31, .int v8_32, .int v8_33, .int v8_34, .int v8_35, .ref a8_36, .ref a8_37, .int v8_38, .int v8_39, .int v8_40, .ref a8_41, .ref a8_42, .int v8_43])), (a8_11, .inl (c8_11, 12, .inl f8_11)), (a8_15, .inl (c8_15, 120, .inl f8_15))]) [0, 1, 2] (by decide) rfl
        exact W.iret (v := (10 * p0) + x5) hx hb hr (fun t ht hW => ⟨⟨(10 * p0) + x5, (), rfl, (Or.inr (by omega)), (by rw [ht]; exact hP9), hD9⟩, h.2.2.2.1.F ht⟩) h.2.2.2.1.2.2 dX8_actOf_48 hlocks
    · skip
      have i_2 : ¬ (f8_15 ((10 * p0) + x5).toNatClampNeg).toInt = p1.toInt := fun h9 => c_2 ((fa_eq _ _).mpr h9)
      refine lv_goto (tgt := 52) hx hb dX8_actOf_33 (by decide) ?_
      refine lv_iinc (v := x5 + 1) (lv' := [(5, .int (x5 + 1)), (0, .ref o8), (1, .int p0), (2, .int p1), (3, .int p2), (4, .int le)]) hx hb dX8_actOf_52 hl (k := 5) rfl rfl (by decide) rfl (fun ls hl => ?_)
      refine lv_goto (tgt := 6) hx hb dX8_actOf_55 (by decide) ?_
      have e9 : (x5 + 1).toInt = x5.toInt + 1 := by rw [Int32.toInt_add]; exact fb_bmod (z := x5.toInt + 1) (by omega) (by omega)
      exact ih (10 - (x5 + 1).toInt).toNat (le, (x5 + 1)) _ _ _ (by omega) ⟨by show 0 ≤ (x5 + 1).toInt ∧ (x5 + 1).toInt ≤ 10; omega, rfl, by show 0 ≤ le.toInt; omega⟩ h (lv_sub hl [1, 2, 3, 4, 5, 0] rfl)
