set_option maxHeartbeats 4000000 in
set_option maxRecDepth 100000 in
theorem c_X2_goBack (l : Launch) (dC : Nat → ClassId) (dI : Nat → Nat → Nat) (sz : Nat) (o2 : Nat) (a2_0 : Nat) (a2_1 : Nat) (a2_2 : Nat) (a2_3 : Nat) (v2_4 : Int32) (c2_0 : ClassId) (f2_0 : Nat → Int32) (c2_1 : ClassId) (f2_1 : Nat → Int64) (c2_2 : ClassId) (f2_2 : Nat → Int32) (c2_3 : ClassId) (f2_3 : Nat → Int64) (hIw : IW f2_0) (hN : IN f2_1) (hO : IP f2_2) (hM : IO f2_3) (hol : 0 ≤ v2_4.toInt ∧ v2_4.toInt ≤ 30) : Met l yX2_goBack wsX2_goBack ({ frames := 0, cells := 0, slots := 0, locals := 0 } : Room) (va_Pc [.ref o2] (KPre (dC, dI) [(o2, .inr (2, [.ref a2_0, .ref a2_1, .ref a2_2, .ref a2_3, .int v2_4])), (a2_0, .inl (c2_0, 8, .inl f2_0)), (a2_1, .inl (c2_1, 74, .inr (.inl f2_1))), (a2_2, .inl (c2_2, 30, .inl f2_2)), (a2_3, .inl (c2_3, 30, .inr (.inl f2_3)))] [(c2_0, .int), (c2_1, .long), (c2_2, .int), (c2_3, .long)] sz (fun _ => True))) (va_Qv (fun (u : (Nat → Int64)) => IN u) (KPost (dC, dI) (va_A [(o2, .inr (2, [.ref a2_0, .ref a2_1, .ref a2_2, .ref a2_3, .int v2_4])), (a2_0, .inl (c2_0, 8, .inl f2_0)), (a2_1, .inl (c2_1, 74, .inr (.inl f2_1))), (a2_2, .inl (c2_2, 30, .inl f2_2)), (a2_3, .inl (c2_3, 30, .inr (.inl f2_3)))] sz) (fun (u : (Nat → Int64)) => [(o2, .inr (2, [.ref a2_0, .ref a2_1, .ref a2_2, .ref a2_3, .int 0])), (a2_0, .inl (c2_0, 8, .inl f2_0)), (a2_1, .inl (c2_1, 74, .inr (.inl u))), (a2_2, .inl (c2_2, 30, .inl f2_2)), (a2_3, .inl (c2_3, 30, .inr (.inl f2_3)))])) (va_A [(o2, .inr (2, [.ref a2_0, .ref a2_1, .ref a2_2, .ref a2_3, .int v2_4])), (a2_0, .inl (c2_0, 8, .inl f2_0)), (a2_1, .inl (c2_1, 74, .inr (.inl f2_1))), (a2_2, .inl (c2_2, 30, .inl f2_2)), (a2_3, .inl (c2_3, 30, .inr (.inl f2_3)))] sz)) 0 0 (va_A [(o2, .inr (2, [.ref a2_0, .ref a2_1, .ref a2_2, .ref a2_3, .int v2_4])), (a2_0, .inl (c2_0, 8, .inl f2_0)), (a2_1, .inl (c2_1, 74, .inr (.inl f2_1))), (a2_2, .inl (c2_2, 30, .inl f2_2)), (a2_3, .inl (c2_3, 30, .inr (.inl f2_3)))] sz) := by
  refine kMet (y := yX2_goBack) (wsM := wsX2_goBack) (cc := cX2_goBack) (maxL := 2) (ret := none) (rm := ({ frames := 0, cells := 0, slots := 0, locals := 0 } : Room)) (mc := 0) (ms := 0) (av := [.ref o2]) (D := (dC, dI)) (wc := [(o2, .inr (2, [.ref a2_0, .ref a2_1, .ref a2_2, .ref a2_3, .int v2_4])), (a2_0, .inl (c2_0, 8, .inl f2_0)), (a2_1, .inl (c2_1, 74, .inr (.inl f2_1))), (a2_2, .inl (c2_2, 30, .inl f2_2)), (a2_3, .inl (c2_3, 30, .inr (.inl f2_3)))]) (tc := [(c2_0, .int), (c2_1, .long), (c2_2, .int), (c2_3, .long)]) (sz := sz) (X := fun _ => True) (Qc := fun A => va_Qv (fun (u : (Nat → Int64)) => IN u) (KPost (dC, dI) A (fun (u : (Nat → Int64)) => [(o2, .inr (2, [.ref a2_0, .ref a2_1, .ref a2_2, .ref a2_3, .int 0])), (a2_0, .inl (c2_0, 8, .inl f2_0)), (a2_1, .inl (c2_1, 74, .inr (.inl u))), (a2_2, .inl (c2_2, 30, .inl f2_2)), (a2_3, .inl (c2_3, 30, .inr (.inl f2_3)))])) A) (by decide) rfl (Nat.le_of_ble_eq_true rfl) ?_
  intro p e s m below meth c A ls E hr hlocks hnm hsz hAe hX h hl
  have hx := E.1
  have hb := E.2.1
  have hl : lv_has ls 2 [(0, .ref o2)] := hl
  refine lv_aload_n hx hb dX2_goBack_0 rfl (lv_at hl 0 rfl) ?_
  refine k_get (v := .int v2_4) E h (fun w h => List.mem_cons_of_mem _ (List.mem_append_right _ h)) 0 rfl rfl 4 (Nat.le_of_ble_eq_true rfl) (List.mem_of_getElem? (i := 1) rfl) rfl dX2_goBack_1 ?_
  refine lv_iconst (v := 1) hx hb dX2_goBack_4 kic_1 ?_
  refine lv_isub hx hb dX2_goBack_5 ?_
  have e_1 : (v2_4 - (1 : Int32)).toInt = v2_4.toInt - 1 := by rw [Int32.toInt_sub]; exact fb_bmod (z := v2_4.toInt - 1) (by omega) (by omega)
  refine lv_istore_n (lv' := [(1, .int (v2_4 - 1)), (0, .ref o2)]) hx hb dX2_goBack_6 rfl hl (Nat.le_of_ble_eq_true rfl) rfl (fun ls hl => ?_)
  refine k_loop (σ := Int32 × (Nat → Int64)) (fun x9 => [(o2, .inr (2, [.ref a2_0, .ref a2_1, .ref a2_2, .ref a2_3, .int v2_4])), (a2_0, .inl (c2_0, 8, .inl f2_0)), (a2_1, .inl (c2_1, 74, .inr (.inl x9.2))), (a2_2, .inl (c2_2, 30, .inl f2_2)), (a2_3, .inl (c2_3, 30, .inr (.inl f2_3)))]) (fun x9 => [(0, .ref o2), (1, .int x9.1)]) (fun n9 x9 => (-1 ≤ x9.1.toInt ∧ x9.1.toInt < 30) ∧ n9 = (x9.1.toInt + 1).toNat ∧ IN x9.2) ?_ ((v2_4 - 1).toInt + 1).toNat ((v2_4 - 1), f2_1) ⟨⟨by show -1 ≤ (v2_4 - 1).toInt; omega, by show (v2_4 - 1).toInt < 30; omega⟩, rfl, hN⟩ h (lv_sub hl [1, 0] rfl)
  intro n9 x9 H locs ls hI h hl ih
  obtain ⟨x1, g⟩ := x9
  have hI : (-1 ≤ x1.toInt ∧ x1.toInt < 30) ∧ n9 = (x1.toInt + 1).toNat ∧ IN g := hI
  have h : KS (dC, dI) A [(o2, .inr (2, [.ref a2_0, .ref a2_1, .ref a2_2, .ref a2_3, .int v2_4])), (a2_0, .inl (c2_0, 8, .inl f2_0)), (a2_1, .inl (c2_1, 74, .inr (.inl g))), (a2_2, .inl (c2_2, 30, .inl f2_2)), (a2_3, .inl (c2_3, 30, .inr (.inl f2_3)))] [(c2_0, .int), (c2_1, .long), (c2_2, .int), (c2_3, .long)] s H locs := h
  have hl : lv_has ls 2 [(0, .ref o2), (1, .int x1)] := hl
  obtain ⟨⟨hi1, hi2⟩, hi3, hi4⟩ := hI
  refine lv_iload_n hx hb dX2_goBack_7 rfl (lv_at hl 1 rfl) ?_
  refine lv_if_lt (tgt := 34) hx hb dX2_goBack_8 rfl (fun c_2 => ?_) (fun c_2 => ?_)
  · skip
    have i_2 : x1.toInt < 0 := (fa_lt _ _).mp c_2
    refine lv_aload_n hx hb dX2_goBack_34 rfl (lv_at hl 0 rfl) ?_
    refine lv_iconst (v := 0) hx hb dX2_goBack_35 kic_0 ?_
    refine k_put (v := .int 0) (ty := .int) (ws' := [(o2, .inr (2, [.ref a2_0, .ref a2_1, .ref a2_2, .ref a2_3, .int 0])), (a2_0, .inl (c2_0, 8, .inl f2_0)), (a2_1, .inl (c2_1, 74, .inr (.inl g))), (a2_2, .inl (c2_2, 30, .inl f2_2)), (a2_3, .inl (c2_3, 30, .inr (.inl f2_3)))]) E h (fun w h => List.mem_cons_of_mem _ (List.mem_append_right _ h)) tyX2_ok nmX2 0 rfl rfl 4 (by decide) (List.mem_of_getElem? (i := 1) rfl) rfl (by decide +kernel) rfl rfl (Nat.le_of_ble_eq_true rfl) rfl dX2_goBack_36 (fun H locs h => ?_)
    have hP9 := h.2.1.sub [0, 1, 2, 3, 4] rfl
    have hD9 := h.2.2.1.sub (ws' := [(o2, .inr (2, [.ref a2_0, .ref a2_1, .ref a2_2, .ref a2_3, .int 0])), (a2_0, .inl (c2_0, 8, .inl f2_0)), (a2_1, .inl (c2_1, 74, .inr (.inl g))), (a2_2, .inl (c2_2, 30, .inl f2_2)), (a2_3, .inl (c2_3, 30, .inr (.inl f2_3)))]) [0, 1, 2, 3, 4] (by decide) rfl
    exact W.vret hx hb hr (fun t ht hW => ⟨⟨g, rfl, hi4, (by rw [ht]; exact hP9), hD9⟩, h.2.2.2.1.F ht⟩) h.2.2.2.1.2.2 dX2_goBack_39 hlocks
  · skip
    have i_2 : ¬ x1.toInt < 0 := fun h9 => c_2 ((fa_lt _ _).mpr h9)
    have hq9 := IP_at hO (x := x1) (by omega) (by omega)
    refine lv_aload_n hx hb dX2_goBack_11 rfl (lv_at hl 0 rfl) ?_
    refine k_get (v := .ref a2_1) E h (fun w h => List.mem_cons_of_mem _ (List.mem_append_right _ h)) 0 rfl rfl 1 (Nat.le_of_ble_eq_true rfl) (List.mem_of_getElem? (i := 2) rfl) rfl dX2_goBack_12 ?_
    refine lv_aload_n hx hb dX2_goBack_15 rfl (lv_at hl 0 rfl) ?_
    refine k_get (v := .ref a2_2) E h (fun w h => List.mem_cons_of_mem _ (List.mem_append_right _ h)) 0 rfl rfl 2 (Nat.le_of_ble_eq_true rfl) (List.mem_of_getElem? (i := 3) rfl) rfl dX2_goBack_16 ?_
    refine lv_iload_n hx hb dX2_goBack_19 rfl (lv_at hl 1 rfl) ?_
    refine k_iald (v := f2_2 x1.toNatClampNeg) E h 3 2 rfl rfl (vp_in_iff.mpr (by omega)) rfl dX2_goBack_20 ?_
    refine lv_aload_n hx hb dX2_goBack_21 rfl (lv_at hl 0 rfl) ?_
    refine k_get (v := .ref a2_3) E h (fun w h => List.mem_cons_of_mem _ (List.mem_append_right _ h)) 0 rfl rfl 3 (Nat.le_of_ble_eq_true rfl) (List.mem_of_getElem? (i := 4) rfl) rfl dX2_goBack_22 ?_
    refine lv_iload_n hx hb dX2_goBack_25 rfl (lv_at hl 1 rfl) ?_
    refine k_lald (v := f2_3 x1.toNatClampNeg) E h 4 3 rfl rfl (vp_in_iff.mpr (by omega)) rfl dX2_goBack_26 ?_
    refine k_last (j := (f2_2 x1.toNatClampNeg).toNatClampNeg) (ws' := [(o2, .inr (2, [.ref a2_0, .ref a2_1, .ref a2_2, .ref a2_3, .int v2_4])), (a2_0, .inl (c2_0, 8, .inl f2_0)), (a2_1, .inl (c2_1, 74, .inr (.inl (vp_updL g ((f2_2 x1.toNatClampNeg).toNatClampNeg) (f2_3 x1.toNatClampNeg))))), (a2_2, .inl (c2_2, 30, .inl f2_2)), (a2_3, .inl (c2_3, 30, .inr (.inl f2_3)))]) E h 2 1 rfl rfl (vp_in_iff.mpr (by omega)) rfl rfl dX2_goBack_27 (fun H locs h => ?_)
    refine W.eq (g2 := F0 m 28 ls []) rfl ?_
    obtain ⟨y_3, ey_3⟩ : ∃ y : Int32, y = x1 + (-1) := ⟨_, rfl⟩
    have e_4 : y_3.toInt = x1.toInt - 1 := by rw [ey_3]; exact kdec (by omega)
    refine lv_iinc (v := y_3) (lv' := [(1, .int y_3), (0, .ref o2)]) hx hb dX2_goBack_28 hl (k := 1) rfl (by rw [ey_3]; exact congrArg (fun z => x1 + z) (show Int32.ofInt (-1) = (-1 : Int32) by decide)) (by decide) rfl (fun ls hl => ?_)
    refine lv_goto (tgt := 7) hx hb dX2_goBack_31 rfl ?_
    exact ih (y_3.toInt + 1).toNat (y_3, vp_updL g ((f2_2 x1.toNatClampNeg).toNatClampNeg) (f2_3 x1.toNatClampNeg)) _ _ _ (by omega) ⟨⟨by show -1 ≤ y_3.toInt; omega, by show y_3.toInt < 30; omega⟩, rfl, IN_upd hi4 (IO_at hM (by omega) (by omega))⟩ h (lv_sub hl [1, 0] rfl)
