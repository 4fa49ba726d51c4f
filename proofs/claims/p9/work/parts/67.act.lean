def IK (f : Nat → Int32) : Prop := ∀ j, j < 120 → 0 ≤ (f j).toInt ∧ (f j).toInt ≤ 10
theorem IK_at {f : Nat → Int32} {x : Int32} (h : IK f) (h0 : 0 ≤ x.toInt ∧ x.toInt < 120) : 0 ≤ (f x.toNatClampNeg).toInt ∧ (f x.toNatClampNeg).toInt ≤ 10 := h _ (by unfold Int32.toNatClampNeg; omega)
theorem IR.kinds {k d x y : Nat → Int32} (h : IR k d x y) : IK k := fun j hj => (h j hj).1
set_option maxHeartbeats 4000000 in
set_option maxRecDepth 100000 in
theorem c_X5_partOf (l : Launch) (dC : Nat → ClassId) (dI : Nat → Nat → Nat) (sz : Nat) (o5 : Nat) (a5_0 : Nat) (a5_1 : Nat) (a5_2 : Nat) (a5_3 : Nat) (a5_4 : Nat) (a5_5 : Nat) (a5_6 : Nat) (c5_1 : ClassId) (f5_1 : Nat → Int32) (p0 : Int32) (hK : IK f5_1) (hp : 0 ≤ p0.toInt ∧ p0.toInt < 120) : Met l yX5_partOf wsX5_partOf ({ frames := 0, cells := 0, slots := 0, locals := 0 } : Room) (va_Pc [.ref o5, .int p0] (KPre (dC, dI) [(o5, .inr (5, [.ref a5_0, .ref a5_1, .ref a5_2, .ref a5_3, .ref a5_4, .ref a5_5, .ref a5_6])), (a5_1, .inl (c5_1, 120, .inl f5_1))] [(c5_1, .int)] sz (fun U => KAll (va_A [(o5, .inr (5, [.ref a5_0, .ref a5_1, .ref a5_2, .ref a5_3, .ref a5_4, .ref a5_5, .ref a5_6])), (a5_1, .inl (c5_1, 120, .inl f5_1))] sz) U))) (va_Qi (fun (r : Int32) (u : Unit) => r = kTabP (f5_1 p0.toNatClampNeg).toNatClampNeg) (KPost (dC, dI) (va_A [(o5, .inr (5, [.ref a5_0, .ref a5_1, .ref a5_2, .ref a5_3, .ref a5_4, .ref a5_5, .ref a5_6])), (a5_1, .inl (c5_1, 120, .inl f5_1))] sz) (fun (u : Unit) => [(o5, .inr (5, [.ref a5_0, .ref a5_1, .ref a5_2, .ref a5_3, .ref a5_4, .ref a5_5, .ref a5_6])), (a5_1, .inl (c5_1, 120, .inl f5_1))])) (va_A [(o5, .inr (5, [.ref a5_0, .ref a5_1, .ref a5_2, .ref a5_3, .ref a5_4, .ref a5_5, .ref a5_6])), (a5_1, .inl (c5_1, 120, .inl f5_1))] sz)) 0 0 (va_A [(o5, .inr (5, [.ref a5_0, .ref a5_1, .ref a5_2, .ref a5_3, .ref a5_4, .ref a5_5, .ref a5_6])), (a5_1, .inl (c5_1, 120, .inl f5_1))] sz) := by
  refine kMet (y := yX5_partOf) (wsM := wsX5_partOf) (cc := cX5_partOf) (maxL := 2) (ret := (some .int)) (rm := ({ frames := 0, cells := 0, slots := 0, locals := 0 } : Room)) (mc := 0) (ms := 0) (av := [.ref o5, .int p0]) (D := (dC, dI)) (wc := [(o5, .inr (5, [.ref a5_0, .ref a5_1, .ref a5_2, .ref a5_3, .ref a5_4, .ref a5_5, .ref a5_6])), (a5_1, .inl (c5_1, 120, .inl f5_1))]) (tc := [(c5_1, .int)]) (sz := sz) (X := fun U => KAll (va_A [(o5, .inr (5, [.ref a5_0, .ref a5_1, .ref a5_2, .ref a5_3, .ref a5_4, .ref a5_5, .ref a5_6])), (a5_1, .inl (c5_1, 120, .inl f5_1))] sz) U) (Qc := fun A => va_Qi (fun (r : Int32) (u : Unit) => r = kTabP (f5_1 p0.toNatClampNeg).toNatClampNeg) (KPost (dC, dI) A (fun (u : Unit) => [(o5, .inr (5, [.ref a5_0, .ref a5_1, .ref a5_2, .ref a5_3, .ref a5_4, .ref a5_5, .ref a5_6])), (a5_1, .inl (c5_1, 120, .inl f5_1))])) A) (by decide) rfl (Nat.le_of_ble_eq_true rfl) ?_
  intro p e s m below meth c A ls E hr hlocks hnm hsz hAe hX h hl
  have hx := E.1
  have hb := E.2.1
  have hl : lv_has ls 2 [(0, .ref o5), (1, .int p0)] := hl
  have hX : KAll A s := by rw [← hAe]; exact hX
  obtain ⟨⟨tD, hZD, hTD⟩, ⟨tX, hZX, hTX⟩, ⟨tY, hZY, hTY⟩, ⟨tP, hZP, hTP⟩, ⟨tL, hZL, hTL⟩, ⟨tM, hZM, hTM⟩, hN0_134, hN0_60, hN0_96, hN1_83, hN1_87, hN3_49, hN3_52, hN4_44, hN4_69, hN5_33, hN6_102, hN6_67, hF37, hF40, hF50, hF53⟩ := id hX
  have hk9 := IK_at hK hp
  refine va_getsN (v := .ref tP) hx hb hZP h.2.2.2.1 E.2.2.2.1 (va_Nw.use rfl hF53) (fun _ h9 => h9) dX5_partOf_0 ?_
  refine lv_aload_n hx hb dX5_partOf_3 rfl (lv_at hl 0 rfl) ?_
  refine k_get (v := .ref a5_1) E h (fun w h => List.mem_cons_of_mem _ (List.mem_append_right _ h)) 0 rfl rfl 1 (by decide) (List.mem_of_getElem? (i := 1) rfl) rfl dX5_partOf_4 ?_
  refine lv_iload_n hx hb dX5_partOf_7 rfl (lv_at hl 1 rfl) ?_
  refine k_iald (v := f5_1 p0.toNatClampNeg) E h 1 0 rfl rfl (vp_in_iff.mpr (by omega)) rfl dX5_partOf_8 ?_
  refine va_ti (v := .int (kTabP (f5_1 p0.toNatClampNeg).toNatClampNeg)) hx hb hTP h.2.2.2.1 (vp_in_iff.mpr (by omega)) rfl dX5_partOf_9 ?_
  have hP9 := h.2.1.sub [0, 1] rfl
  have hD9 := h.2.2.1.sub (ws' := [(o5, .inr (5, [.ref a5_0, .ref a5_1, .ref a5_2, .ref a5_3, .ref a5_4, .ref a5_5, .ref a5_6])), (a5_1, .inl (c5_1, 120, .inl f5_1))]) [0, 1] (by decide) rfl
  exact W.iret (v := kTabP (f5_1 p0.toNatClampNeg).toNatClampNeg) hx hb hr (fun t ht hW => ⟨⟨kTabP (f5_1 p0.toNatClampNeg).toNatClampNeg, (), rfl, rfl, (by rw [ht]; exact hP9), hD9⟩, h.2.2.2.1.F ht⟩) h.2.2.2.1.2.2 dX5_partOf_10 hlocks
set_option maxHeartbeats 4000000 in
set_option maxRecDepth 100000 in
theorem c_X5_canTrap (l : Launch) (dC : Nat → ClassId) (dI : Nat → Nat → Nat) (sz : Nat) (o5 : Nat) (a5_0 : Nat) (a5_1 : Nat) (a5_2 : Nat) (a5_3 : Nat) (a5_4 : Nat) (a5_5 : Nat) (a5_6 : Nat) (c5_1 : ClassId) (f5_1 : Nat → Int32) (p0 : Int32) (hp : 0 ≤ p0.toInt ∧ p0.toInt < 120) : Met l yX5_canTrap wsX5_canTrap ({ frames := 0, cells := 0, slots := 0, locals := 0 } : Room) (va_Pc [.ref o5, .int p0] (KPre (dC, dI) [(o5, .inr (5, [.ref a5_0, .ref a5_1, .ref a5_2, .ref a5_3, .ref a5_4, .ref a5_5, .ref a5_6])), (a5_1, .inl (c5_1, 120, .inl f5_1))] [(c5_1, .int)] sz (fun _ => True))) (va_Qi (fun (r : Int32) (u : Unit) => r = if ((f5_1 p0.toNatClampNeg).toInt = 7 ∨ (f5_1 p0.toNatClampNeg).toInt = 8 ∨ (f5_1 p0.toNatClampNeg).toInt = 10) then 1 else 0) (KPost (dC, dI) (va_A [(o5, .inr (5, [.ref a5_0, .ref a5_1, .ref a5_2, .ref a5_3, .ref a5_4, .ref a5_5, .ref a5_6])), (a5_1, .inl (c5_1, 120, .inl f5_1))] sz) (fun (u : Unit) => [(o5, .inr (5, [.ref a5_0, .ref a5_1, .ref a5_2, .ref a5_3, .ref a5_4, .ref a5_5, .ref a5_6])), (a5_1, .inl (c5_1, 120, .inl f5_1))])) (va_A [(o5, .inr (5, [.ref a5_0, .ref a5_1, .ref a5_2, .ref a5_3, .ref a5_4, .ref a5_5, .ref a5_6])), (a5_1, .inl (c5_1, 120, .inl f5_1))] sz)) 0 0 (va_A [(o5, .inr (5, [.ref a5_0, .ref a5_1, .ref a5_2, .ref a5_3, .ref a5_4, .ref a5_5, .ref a5_6])), (a5_1, .inl (c5_1, 120, .inl f5_1))] sz) := by
  refine kMet (y := yX5_canTrap) (wsM := wsX5_canTrap) (cc := cX5_canTrap) (maxL := 3) (ret := (some .boolean)) (rm := ({ frames := 0, cells := 0, slots := 0, locals := 0 } : Room)) (mc := 0) (ms := 0) (av := [.ref o5, .int p0]) (D := (dC, dI)) (wc := [(o5, .inr (5, [.ref a5_0, .ref a5_1, .ref a5_2, .ref a5_3, .ref a5_4, .ref a5_5, .ref a5_6])), (a5_1, .inl (c5_1, 120, .inl f5_1))]) (tc := [(c5_1, .int)]) (sz := sz) (X := fun _ => True) (Qc := fun A => va_Qi (fun (r : Int32) (u : Unit) => r = if ((f5_1 p0.toNatClampNeg).toInt = 7 ∨ (f5_1 p0.toNatClampNeg).toInt = 8 ∨ (f5_1 p0.toNatClampNeg).toInt = 10) then 1 else 0) (KPost (dC, dI) A (fun (u : Unit) => [(o5, .inr (5, [.ref a5_0, .ref a5_1, .ref a5_2, .ref a5_3, .ref a5_4, .ref a5_5, .ref a5_6])), (a5_1, .inl (c5_1, 120, .inl f5_1))])) A) (by decide) rfl (Nat.le_of_ble_eq_true rfl) ?_
  intro p e s m below meth c A ls E hr hlocks hnm hsz hAe hX h hl
  have hx := E.1
  have hb := E.2.1
  have hl : lv_has ls 3 [(0, .ref o5), (1, .int p0)] := hl
  refine lv_aload_n hx hb dX5_canTrap_0 rfl (lv_at hl 0 rfl) ?_
  refine k_get (v := .ref a5_1) E h (fun w h => List.mem_cons_of_mem _ (List.mem_append_right _ h)) 0 rfl rfl 1 (by decide) (List.mem_of_getElem? (i := 1) rfl) rfl dX5_canTrap_1 ?_
  refine lv_iload_n hx hb dX5_canTrap_4 rfl (lv_at hl 1 rfl) ?_
  refine k_iald (v := f5_1 p0.toNatClampNeg) E h 1 0 rfl rfl (vp_in_iff.mpr (by omega)) rfl dX5_canTrap_5 ?_
  refine lv_istore_n (lv' := [(2, .int (f5_1 p0.toNatClampNeg)), (0, .ref o5), (1, .int p0)]) hx hb dX5_canTrap_6 rfl hl (by decide) rfl (fun ls hl => ?_)
  refine lv_iload_n hx hb dX5_canTrap_7 rfl (lv_at hl 0 rfl) ?_
  refine lv_bipush (v := 7) hx hb dX5_canTrap_8 (by decide) ?_
  refine lv_icmp_eq (tgt := 25) hx hb dX5_canTrap_10 (by decide) (fun c_1 => ?_) (fun c_1 => ?_)
  · skip
    have i_1 : (f5_1 p0.toNatClampNeg).toInt = 7 := (fa_eq _ _).mp c_1
    refine lv_iconst (v := 1) hx hb dX5_canTrap_25 (by decide) ?_
    refine lv_goto (tgt := 30) hx hb dX5_canTrap_26 (by decide) ?_
    have hP9 := h.2.1.sub [0, 1] rfl
    have hD9 := h.2.2.1.sub (ws' := [(o5, .inr (5, [.ref a5_0, .ref a5_1, .ref a5_2, .ref a5_3, .ref a5_4, .ref a5_5, .ref a5_6])), (a5_1, .inl (c5_1, 120, .inl f5_1))]) [0, 1] (by decide) rfl
    exact W.zret (v := 1) hx hb hr (by decide) (fun t ht hW => ⟨⟨1, (), rfl, (by (first | rw [] | skip); (repeat' split) <;> first | rfl | contradiction | omega), (by rw [ht]; exact hP9), hD9⟩, h.2.2.2.1.F ht⟩) h.2.2.2.1.2.2 dX5_canTrap_30 hlocks
  · skip
    have i_1 : ¬ (f5_1 p0.toNatClampNeg).toInt = 7 := fun h9 => c_1 ((fa_eq _ _).mpr h9)
    refine lv_iload_n hx hb dX5_canTrap_13 rfl (lv_at hl 0 rfl) ?_
    refine lv_bipush (v := 8) hx hb dX5_canTrap_14 (by decide) ?_
    refine lv_icmp_eq (tgt := 25) hx hb dX5_canTrap_16 (by decide) (fun c_2 => ?_) (fun c_2 => ?_)
    · skip
      have i_2 : (f5_1 p0.toNatClampNeg).toInt = 8 := (fa_eq _ _).mp c_2
      refine lv_iconst (v := 1) hx hb dX5_canTrap_25 (by decide) ?_
      refine lv_goto (tgt := 30) hx hb dX5_canTrap_26 (by decide) ?_
      have hP9 := h.2.1.sub [0, 1] rfl
      have hD9 := h.2.2.1.sub (ws' := [(o5, .inr (5, [.ref a5_0, .ref a5_1, .ref a5_2, .ref a5_3, .ref a5_4, .ref a5_5, .ref a5_6])), (a5_1, .inl (c5_1, 120, .inl f5_1))]) [0, 1] (by decide) rfl
      exact W.zret (v := 1) hx hb hr (by decide) (fun t ht hW => ⟨⟨1, (), rfl, (by (first | rw [] | skip); (repeat' split) <;> first | rfl | contradiction | omega), (by rw [ht]; exact hP9), hD9⟩, h.2.2.2.1.F ht⟩) h.2.2.2.1.2.2 dX5_canTrap_30 hlocks
    · skip
      have i_2 : ¬ (f5_1 p0.toNatClampNeg).toInt = 8 := fun h9 => c_2 ((fa_eq _ _).mpr h9)
      refine lv_iload_n hx hb dX5_canTrap_19 rfl (lv_at hl 0 rfl) ?_
      refine lv_bipush (v := 10) hx hb dX5_canTrap_20 (by decide) ?_
      refine lv_icmp_ne (tgt := 29) hx hb dX5_canTrap_22 (by decide) (fun c_3 => ?_) (fun c_3 => ?_)
      · skip
        have i_3 : ¬ (f5_1 p0.toNatClampNeg).toInt = 10 := fun h9 => c_3 ((fa_eq _ _).mpr h9)
        refine lv_iconst (v := 0) hx hb dX5_canTrap_29 (by decide) ?_
        have hP9 := h.2.1.sub [0, 1] rfl
        have hD9 := h.2.2.1.sub (ws' := [(o5, .inr (5, [.ref a5_0, .ref a5_1, .ref a5_2, .ref a5_3, .ref a5_4, .ref a5_5, .ref a5_6])), (a5_1, .inl (c5_1, 120, .inl f5_1))]) [0, 1] (by decide) rfl
        exact W.zret (v := 0) hx hb hr (by decide) (fun t ht hW => ⟨⟨0, (), rfl, (by (first | rw [] | skip); (repeat' split) <;> first | rfl | contradiction | omega), (by rw [ht]; exact hP9), hD9⟩, h.2.2.2.1.F ht⟩) h.2.2.2.1.2.2 dX5_canTrap_30 hlocks
      · skip
        have i_3 : (f5_1 p0.toNatClampNeg).toInt = 10 := (fa_eq _ _).mp c_3
        refine lv_iconst (v := 1) hx hb dX5_canTrap_25 (by decide) ?_
        refine lv_goto (tgt := 30) hx hb dX5_canTrap_26 (by decide) ?_
        have hP9 := h.2.1.sub [0, 1] rfl
        have hD9 := h.2.2.1.sub (ws' := [(o5, .inr (5, [.ref a5_0, .ref a5_1, .ref a5_2, .ref a5_3, .ref a5_4, .ref a5_5, .ref a5_6])), (a5_1, .inl (c5_1, 120, .inl f5_1))]) [0, 1] (by decide) rfl
        exact W.zret (v := 1) hx hb hr (by decide) (fun t ht hW => ⟨⟨1, (), rfl, (by (first | rw [] | skip); (repeat' split) <;> first | rfl | contradiction | omega), (by rw [ht]; exact hP9), hD9⟩, h.2.2.2.1.F ht⟩) h.2.2.2.1.2.2 dX5_canTrap_30 hlocks
set_option maxHeartbeats 4000000 in
set_option maxRecDepth 100000 in
theorem c_X5_same (l : Launch) (dC : Nat → ClassId) (dI : Nat → Nat → Nat) (sz : Nat) (o5 : Nat) (a5_0 : Nat) (a5_1 : Nat) (a5_2 : Nat) (a5_3 : Nat) (a5_4 : Nat) (a5_5 : Nat) (a5_6 : Nat) (c5_1 : ClassId) (f5_1 : Nat → Int32) (c5_2 : ClassId) (f5_2 : Nat → Int32) (c5_3 : ClassId) (f5_3 : Nat → Int32) (c5_4 : ClassId) (f5_4 : Nat → Int32) (p0 : Int32) (p1 : Int32) (hp : (0 ≤ p0.toInt ∧ p0.toInt < 120) ∧ (0 ≤ p1.toInt ∧ p1.toInt < 120)) : Met l yX5_same wsX5_same ({ frames := 0, cells := 0, slots := 0, locals := 0 } : Room) (va_Pc [.ref o5, .int p0, .int p1] (KPre (dC, dI) [(o5, .inr (5, [.ref a5_0, .ref a5_1, .ref a5_2, .ref a5_3, .ref a5_4, .ref a5_5, .ref a5_6])), (a5_1, .inl (c5_1, 120, .inl f5_1)), (a5_2, .inl (c5_2, 120, .inl f5_2)), (a5_3, .inl (c5_3, 120, .inl f5_3)), (a5_4, .inl (c5_4, 120, .inl f5_4))] [(c5_1, .int), (c5_2, .int), (c5_3, .int), (c5_4, .int)] sz (fun _ => True))) (va_Qi (fun (r : Int32) (u : Unit) => True) (KPost (dC, dI) (va_A [(o5, .inr (5, [.ref a5_0, .ref a5_1, .ref a5_2, .ref a5_3, .ref a5_4, .ref a5_5, .ref a5_6])), (a5_1, .inl (c5_1, 120, .inl f5_1)), (a5_2, .inl (c5_2, 120, .inl f5_2)), (a5_3, .inl (c5_3, 120, .inl f5_3)), (a5_4, .inl (c5_4, 120, .inl f5_4))] sz) (fun (u : Unit) => [(o5, .inr (5, [.ref a5_0, .ref a5_1, .ref a5_2, .ref a5_3, .ref a5_4, .ref a5_5, .ref a5_6])), (a5_1, .inl (c5_1, 120, .inl f5_1)), (a5_2, .inl (c5_2, 120, .inl f5_2)), (a5_3, .inl (c5_3, 120, .inl f5_3)), (a5_4, .inl (c5_4, 120, .inl f5_4))])) (va_A [(o5, .inr (5, [.ref a5_0, .ref a5_1, .ref a5_2, .ref a5_3, .ref a5_4, .ref a5_5, .ref a5_6])), (a5_1, .inl (c5_1, 120, .inl f5_1)), (a5_2, .inl (c5_2, 120, .inl f5_2)), (a5_3, .inl (c5_3, 120, .inl f5_3)), (a5_4, .inl (c5_4, 120, .inl f5_4))] sz)) 0 0 (va_A [(o5, .inr (5, [.ref a5_0, .ref a5_1, .ref a5_2, .ref a5_3, .ref a5_4, .ref a5_5, .ref a5_6])), (a5_1, .inl (c5_1, 120, .inl f5_1)), (a5_2, .inl (c5_2, 120, .inl f5_2)), (a5_3, .inl (c5_3, 120, .inl f5_3)), (a5_4, .inl (c5_4, 120, .inl f5_4))] sz) := by
  refine kMet (y := yX5_same) (wsM := wsX5_same) (cc := cX5_same) (maxL := 3) (ret := (some .boolean)) (rm := ({ frames := 0, cells := 0, slots := 0, locals := 0 } : Room)) (mc := 0) (ms := 0) (av := [.ref o5, .int p0, .int p1]) (D := (dC, dI)) (wc := [(o5, .inr (5, [.ref a5_0, .ref a5_1, .ref a5_2, .ref a5_3, .ref a5_4, .ref a5_5, .ref a5_6])), (a5_1, .inl (c5_1, 120, .inl f5_1)), (a5_2, .inl (c5_2, 120, .inl f5_2)), (a5_3, .inl (c5_3, 120, .inl f5_3)), (a5_4, .inl (c5_4, 120, .inl f5_4))]) (tc := [(c5_1, .int), (c5_2, .int), (c5_3, .int), (c5_4, .int)]) (sz := sz) (X := fun _ => True) (Qc := fun A => va_Qi (fun (r : Int32) (u : Unit) => True) (KPost (dC, dI) A (fun (u : Unit) => [(o5, .inr (5, [.ref a5_0, .ref a5_1, .ref a5_2, .ref a5_3, .ref a5_4, .ref a5_5, .ref a5_6])), (a5_1, .inl (c5_1, 120, .inl f5_1)), (a5_2, .inl (c5_2, 120, .inl f5_2)), (a5_3, .inl (c5_3, 120, .inl f5_3)), (a5_4, .inl (c5_4, 120, .inl f5_4))])) A) (by decide) rfl (Nat.le_of_ble_eq_true rfl) ?_
  intro p e s m below meth c A ls E hr hlocks hnm hsz hAe hX h hl
  have hx := E.1
  have hb := E.2.1
  have hl : lv_has ls 3 [(0, .ref o5), (1, .int p0), (2, .int p1)] := hl
  refine lv_aload_n hx hb dX5_same_0 rfl (lv_at hl 0 rfl) ?_
  refine k_get (v := .ref a5_1) E h (fun w h => List.mem_cons_of_mem _ (List.mem_append_right _ h)) 0 rfl rfl 1 (by decide) (List.mem_of_getElem? (i := 1) rfl) rfl dX5_same_1 ?_
  refine lv_iload_n hx hb dX5_same_4 rfl (lv_at hl 1 rfl) ?_
  refine k_iald (v := f5_1 p0.toNatClampNeg) E h 1 0 rfl rfl (vp_in_iff.mpr (by omega)) rfl dX5_same_5 ?_
  refine lv_aload_n hx hb dX5_same_6 rfl (lv_at hl 0 rfl) ?_
  refine k_get (v := .ref a5_1) E h (fun w h => List.mem_cons_of_mem _ (List.mem_append_right _ h)) 0 rfl rfl 1 (by decide) (List.mem_of_getElem? (i := 1) rfl) rfl dX5_same_7 ?_
  refine lv_iload_n hx hb dX5_same_10 rfl (lv_at hl 2 rfl) ?_
  refine k_iald (v := f5_1 p1.toNatClampNeg) E h 1 0 rfl rfl (vp_in_iff.mpr (by omega)) rfl dX5_same_11 ?_
  refine lv_icmp_ne (tgt := 64) hx hb dX5_same_12 (by decide) (fun c_1 => ?_) (fun c_1 => ?_)
  · skip
    have i_1 : ¬ (f5_1 p0.toNatClampNeg).toInt = (f5_1 p1.toNatClampNeg).toInt := fun h9 => c_1 ((fa_eq _ _).mpr h9)
    refine lv_iconst (v := 0) hx hb dX5_same_64 (by decide) ?_
    have hP9 := h.2.1.sub [0, 1, 2, 3, 4] rfl
    have hD9 := h.2.2.1.sub (ws' := [(o5, .inr (5, [.ref a5_0, .ref a5_1, .ref a5_2, .ref a5_3, .ref a5_4, .ref a5_5, .ref a5_6])), (a5_1, .inl (c5_1, 120, .inl f5_1)), (a5_2, .inl (c5_2, 120, .inl f5_2)), (a5_3, .inl (c5_3, 120, .inl f5_3)), (a5_4, .inl (c5_4, 120, .inl f5_4))]) [0, 1, 2, 3, 4] (by decide) rfl
    exact W.zret (v := 0) hx hb hr (by decide) (fun t ht hW => ⟨⟨0, (), rfl, trivial, (by rw [ht]; exact hP9), hD9⟩, h.2.2.2.1.F ht⟩) h.2.2.2.1.2.2 dX5_same_65 hlocks
  · skip
    have i_1 : (f5_1 p0.toNatClampNeg).toInt = (f5_1 p1.toNatClampNeg).toInt := (fa_eq _ _).mp c_1
    refine lv_aload_n hx hb dX5_same_15 rfl (lv_at hl 0 rfl) ?_
    refine k_get (v := .ref a5_2) E h (fun w h => List.mem_cons_of_mem _ (List.mem_append_right _ h)) 0 rfl rfl 2 (by decide) (List.mem_of_getElem? (i := 2) rfl) rfl dX5_same_16 ?_
    refine lv_iload_n hx hb dX5_same_19 rfl (lv_at hl 1 rfl) ?_
    refine k_iald (v := f5_2 p0.toNatClampNeg) E h 2 1 rfl rfl (vp_in_iff.mpr (by omega)) rfl dX5_same_20 ?_
    refine lv_aload_n hx hb dX5_same_21 rfl (lv_at hl 0 rfl) ?_
    refine k_get (v := .ref a5_2) E h (fun w h => List.mem_cons_of_mem _ (List.mem_append_right _ h)) 0 rfl rfl 2 (by decide) (List.mem_of_getElem? (i := 2) rfl) rfl dX5_same_22 ?_
    refine lv_iload_n hx hb dX5_same_25 rfl (lv_at hl 2 rfl) ?_
    refine k_iald (v := f5_2 p1.toNatClampNeg) E h 2 1 rfl rfl (vp_in_iff.mpr (by omega)) rfl dX5_same_26 ?_
    refine lv_icmp_ne (tgt := 64) hx hb dX5_same_27 (by decide) (fun c_2 => ?_) (fun c_2 => ?_)
    · skip
      have i_2 : ¬ (f5_2 p0.toNatClampNeg).toInt = (f5_2 p1.toNatClampNeg).toInt := fun h9 => c_2 ((fa_eq _ _).mpr h9)
      refine lv_iconst (v := 0) hx hb dX5_same_64 (by decide) ?_
      have hP9 := h.2.1.sub [0, 1, 2, 3, 4] rfl
      have hD9 := h.2.2.1.sub (ws' := [(o5, .inr (5, [.ref a5_0, .ref a5_1, .ref a5_2, .ref a5_3, .ref a5_4, .ref a5_5, .ref a5_6])), (a5_1, .inl (c5_1, 120, .inl f5_1)), (a5_2, .inl (c5_2, 120, .inl f5_2)), (a5_3, .inl (c5_3, 120, .inl f5_3)), (a5_4, .inl (c5_4, 120, .inl f5_4))]) [0, 1, 2, 3, 4] (by decide) rfl
      exact W.zret (v := 0) hx hb hr (by decide) (fun t ht hW => ⟨⟨0, (), rfl, trivial, (by rw [ht]; exact hP9), hD9⟩, h.2.2.2.1.F ht⟩) h.2.2.2.1.2.2 dX5_same_65 hlocks
    · skip
      have i_2 : (f5_2 p0.toNatClampNeg).toInt = (f5_2 p1.toNatClampNeg).toInt := (fa_eq _ _).mp c_2
      refine lv_aload_n hx hb dX5_same_30 rfl (lv_at hl 0 rfl) ?_
      refine k_get (v := .ref a5_3) E h (fun w h => List.mem_cons_of_mem _ (List.mem_append_right _ h)) 0 rfl rfl 3 (by decide) (List.mem_of_getElem? (i := 3) rfl) rfl dX5_same_31 ?_
      refine lv_iload_n hx hb dX5_same_34 rfl (lv_at hl 1 rfl) ?_
      refine k_iald (v := f5_3 p0.toNatClampNeg) E h 3 2 rfl rfl (vp_in_iff.mpr (by omega)) rfl dX5_same_35 ?_
      refine lv_aload_n hx hb dX5_same_36 rfl (lv_at hl 0 rfl) ?_
      refine k_get (v := .ref a5_3) E h (fun w h => List.mem_cons_of_mem _ (List.mem_append_right _ h)) 0 rfl rfl 3 (by decide) (List.mem_of_getElem? (i := 3) rfl) rfl dX5_same_37 ?_
      refine lv_iload_n hx hb dX5_same_40 rfl (lv_at hl 2 rfl) ?_
      refine k_iald (v := f5_3 p1.toNatClampNeg) E h 3 2 rfl rfl (vp_in_iff.mpr (by omega)) rfl dX5_same_41 ?_
      refine lv_icmp_ne (tgt := 64) hx hb dX5_same_42 (by decide) (fun c_3 => ?_) (fun c_3 => ?_)
      · skip
        have i_3 : ¬ (f5_3 p0.toNatClampNeg).toInt = (f5_3 p1.toNatClampNeg).toInt := fun h9 => c_3 ((fa_eq _ _).mpr h9)
        refine lv_iconst (v := 0) hx hb dX5_same_64 (by decide) ?_
        have hP9 := h.2.1.sub [0, 1, 2, 3, 4] rfl
        have hD9 := h.2.2.1.sub (ws' := [(o5, .inr (5, [.ref a5_0, .ref a5_1, .ref a5_2, .ref a5_3, .ref a5_4, .ref a5_5, .ref a5_6])), (a5_1, .inl (c5_1, 120, .inl f5_1)), (a5_2, .inl (c5_2, 120, .inl f5_2)), (a5_3, .inl (c5_3, 120, .inl f5_3)), (a5_4, .inl (c5_4, 120, .inl f5_4))]) [0, 1, 2, 3, 4] (by decide) rfl
        exact W.zret (v := 0) hx hb hr (by decide) (fun t ht hW => ⟨⟨0, (), rfl, trivial, (by rw [ht]; exact hP9), hD9⟩, h.2.2.2.1.F ht⟩) h.2.2.2.1.2.2 dX5_same_65 hlocks
      · skip
        have i_3 : (f5_3 p0.toNatClampNeg).toInt = (f5_3 p1.toNatClampNeg).toInt := (fa_eq _ _).mp c_3
        refine lv_aload_n hx hb dX5_same_45 rfl (lv_at hl 0 rfl) ?_
        refine k_get (v := .ref a5_4) E h (fun w h => List.mem_cons_of_mem _ (List.mem_append_right _ h)) 0 rfl rfl 4 (by decide) (List.mem_of_getElem? (i := 4) rfl) rfl dX5_same_46 ?_
        refine lv_iload_n hx hb dX5_same_49 rfl (lv_at hl 1 rfl) ?_
        refine k_iald (v := f5_4 p0.toNatClampNeg) E h 4 3 rfl rfl (vp_in_iff.mpr (by omega)) rfl dX5_same_50 ?_
        refine lv_aload_n hx hb dX5_same_51 rfl (lv_at hl 0 rfl) ?_
        refine k_get (v := .ref a5_4) E h (fun w h => List.mem_cons_of_mem _ (List.mem_append_right _ h)) 0 rfl rfl 4 (by decide) (List.mem_of_getElem? (i := 4) rfl) rfl dX5_same_52 ?_
        refine lv_iload_n hx hb dX5_same_55 rfl (lv_at hl 2 rfl) ?_
        refine k_iald (v := f5_4 p1.toNatClampNeg) E h 4 3 rfl rfl (vp_in_iff.mpr (by omega)) rfl dX5_same_56 ?_
        refine lv_icmp_ne (tgt := 64) hx hb dX5_same_57 (by decide) (fun c_4 => ?_) (fun c_4 => ?_)
        · skip
          have i_4 : ¬ (f5_4 p0.toNatClampNeg).toInt = (f5_4 p1.toNatClampNeg).toInt := fun h9 => c_4 ((fa_eq _ _).mpr h9)
          refine lv_iconst (v := 0) hx hb dX5_same_64 (by decide) ?_
          have hP9 := h.2.1.sub [0, 1, 2, 3, 4] rfl
          have hD9 := h.2.2.1.sub (ws' := [(o5, .inr (5, [.ref a5_0, .ref a5_1, .ref a5_2, .ref a5_3, .ref a5_4, .ref a5_5, .ref a5_6])), (a5_1, .inl (c5_1, 120, .inl f5_1)), (a5_2, .inl (c5_2, 120, .inl f5_2)), (a5_3, .inl (c5_3, 120, .inl f5_3)), (a5_4, .inl (c5_4, 120, .inl f5_4))]) [0, 1, 2, 3, 4] (by decide) rfl
          exact W.zret (v := 0) hx hb hr (by decide) (fun t ht hW => ⟨⟨0, (), rfl, trivial, (by rw [ht]; exact hP9), hD9⟩, h.2.2.2.1.F ht⟩) h.2.2.2.1.2.2 dX5_same_65 hlocks
        · skip
          have i_4 : (f5_4 p0.toNatClampNeg).toInt = (f5_4 p1.toNatClampNeg).toInt := (fa_eq _ _).mp c_4
          refine lv_iconst (v := 1) hx hb dX5_same_60 (by decide) ?_
          refine lv_goto (tgt := 65) hx hb dX5_same_61 (by decide) ?_
          have hP9 := h.2.1.sub [0, 1, 2, 3, 4] rfl
          have hD9 := h.2.2.1.sub (ws' := [(o5, .inr (5, [.ref a5_0, .ref a5_1, .ref a5_2, .ref a5_3, .ref a5_4, .ref a5_5, .ref a5_6])), (a5_1, .inl (c5_1, 120, .inl f5_1)), (a5_2, .inl (c5_2, 120, .inl f5_2)), (a5_3, .inl (c5_3, 120, .inl f5_3)), (a5_4, .inl (c5_4, 120, .inl f5_4))]) [0, 1, 2, 3, 4] (by decide) rfl
          exact W.zret (v := 1) hx hb hr (by decide) (fun t ht hW => ⟨⟨1, (), rfl, trivial, (by rw [ht]; exact hP9), hD9⟩, h.2.2.2.1.F ht⟩) h.2.2.2.1.2.2 dX5_same_65 hlocks
set_option maxHeartbeats 4000000 in
set_option maxRecDepth 100000 in
theorem c_X5_need (l : Launch) (dC : Nat → ClassId) (dI : Nat → Nat → Nat) (sz : Nat) (o5 : Nat) (a5_0 : Nat) (a5_1 : Nat) (a5_2 : Nat) (a5_3 : Nat) (a5_4 : Nat) (a5_5 : Nat) (a5_6 : Nat) (c5_1 : ClassId) (f5_1 : Nat → Int32) (c5_5 : ClassId) (f5_5 : Nat → Int32) (c5_6 : ClassId) (f5_6 : Nat → Int32) (p0 : Int32) (p1 : Int32) (hp : (0 ≤ p0.toInt ∧ p0.toInt < 120) ∧ (0 ≤ p1.toInt ∧ p1.toInt < 120)) : Met l yX5_need wsX5_need ({ frames := 1, cells := 0, slots := 0, locals := 22 } : Room) (va_Pc [.ref o5, .int p0, .int p1] (KPre (dC, dI) [(o5, .inr (5, [.ref a5_0, .ref a5_1, .ref a5_2, .ref a5_3, .ref a5_4, .ref a5_5, .ref a5_6])), (a5_1, .inl (c5_1, 120, .inl f5_1)), (a5_5, .inl (c5_5, 120, .inl f5_5)), (a5_6, .inl (c5_6, 120, .inl f5_6))] [(c5_1, .int), (c5_5, .int), (c5_6, .int)] sz (fun _ => True))) (va_Qi (fun (r : Int32) (u : Unit) => True) (KPost (dC, dI) (va_A [(o5, .inr (5, [.ref a5_0, .ref a5_1, .ref a5_2, .ref a5_3, .ref a5_4, .ref a5_5, .ref a5_6])), (a5_1, .inl (c5_1, 120, .inl f5_1)), (a5_5, .inl (c5_5, 120, .inl f5_5)), (a5_6, .inl (c5_6, 120, .inl f5_6))] sz) (fun (u : Unit) => [(o5, .inr (5, [.ref a5_0, .ref a5_1, .ref a5_2, .ref a5_3, .ref a5_4, .ref a5_5, .ref a5_6])), (a5_1, .inl (c5_1, 120, .inl f5_1)), (a5_5, .inl (c5_5, 120, .inl f5_5)), (a5_6, .inl (c5_6, 120, .inl f5_6))])) (va_A [(o5, .inr (5, [.ref a5_0, .ref a5_1, .ref a5_2, .ref a5_3, .ref a5_4, .ref a5_5, .ref a5_6])), (a5_1, .inl (c5_1, 120, .inl f5_1)), (a5_5, .inl (c5_5, 120, .inl f5_5)), (a5_6, .inl (c5_6, 120, .inl f5_6))] sz)) 0 0 (va_A [(o5, .inr (5, [.ref a5_0, .ref a5_1, .ref a5_2, .ref a5_3, .ref a5_4, .ref a5_5, .ref a5_6])), (a5_1, .inl (c5_1, 120, .inl f5_1)), (a5_5, .inl (c5_5, 120, .inl f5_5)), (a5_6, .inl (c5_6, 120, .inl f5_6))] sz) := by
  refine kMet (y := yX5_need) (wsM := wsX5_need) (cc := cX5_need) (maxL := 3) (ret := (some .int)) (rm := ({ frames := 1, cells := 0, slots := 0, locals := 22 } : Room)) (mc := 0) (ms := 0) (av := [.ref o5, .int p0, .int p1]) (D := (dC, dI)) (wc := [(o5, .inr (5, [.ref a5_0, .ref a5_1, .ref a5_2, .ref a5_3, .ref a5_4, .ref a5_5, .ref a5_6])), (a5_1, .inl (c5_1, 120, .inl f5_1)), (a5_5, .inl (c5_5, 120, .inl f5_5)), (a5_6, .inl (c5_6, 120, .inl f5_6))]) (tc := [(c5_1, .int), (c5_5, .int), (c5_6, .int)]) (sz := sz) (X := fun _ => True) (Qc := fun A => va_Qi (fun (r : Int32) (u : Unit) => True) (KPost (dC, dI) A (fun (u : Unit) => [(o5, .inr (5, [.ref a5_0, .ref a5_1, .ref a5_2, .ref a5_3, .ref a5_4, .ref a5_5, .ref a5_6])), (a5_1, .inl (c5_1, 120, .inl f5_1)), (a5_5, .inl (c5_5, 120, .inl f5_5)), (a5_6, .inl (c5_6, 120, .inl f5_6))])) A) (by decide) rfl (Nat.le_of_ble_eq_true rfl) ?_
  intro p e s m below meth c A ls E hr hlocks hnm hsz hAe hX h hl
  have hx := E.1
  have hb := E.2.1
  have hl : lv_has ls 3 [(0, .ref o5), (1, .int p0), (2, .int p1)] := hl
  refine lv_aload_n hx hb dX5_need_0 rfl (lv_at hl 0 rfl) ?_
  refine k_get (v := .ref a5_6) E h (fun w h => List.mem_cons_of_mem _ (List.mem_append_right _ h)) 0 rfl rfl 6 (by decide) (List.mem_of_getElem? (i := 1) rfl) rfl dX5_need_1 ?_
  refine lv_iload_n hx hb dX5_need_4 rfl (lv_at hl 1 rfl) ?_
  refine k_iald (v := f5_6 p0.toNatClampNeg) E h 3 2 rfl rfl (vp_in_iff.mpr (by omega)) rfl dX5_need_5 ?_
  refine lv_aload_n hx hb dX5_need_6 rfl (lv_at hl 0 rfl) ?_
  refine k_get (v := .ref a5_5) E h (fun w h => List.mem_cons_of_mem _ (List.mem_append_right _ h)) 0 rfl rfl 5 (by decide) (List.mem_of_getElem? (i := 2) rfl) rfl dX5_need_7 ?_
  refine lv_iload_n hx hb dX5_need_10 rfl (lv_at hl 2 rfl) ?_
  refine k_iald (v := f5_5 p1.toNatClampNeg) E h 2 1 rfl rfl (vp_in_iff.mpr (by omega)) rfl dX5_need_11 ?_
  refine lv_aload_n hx hb dX5_need_12 rfl (lv_at hl 0 rfl) ?_
  refine k_get (v := .ref a5_6) E h (fun w h => List.mem_cons_of_mem _ (List.mem_append_right _ h)) 0 rfl rfl 6 (by decide) (List.mem_of_getElem? (i := 1) rfl) rfl dX5_need_13 ?_
  refine lv_iload_n hx hb dX5_need_16 rfl (lv_at hl 2 rfl) ?_
  refine W.eq (g2 := F0 m 17 ls [.int p1, .ref a5_6, .int (f5_5 p1.toNatClampNeg), .int (f5_6 p0.toNatClampNeg)]) rfl ?_
  refine k_iald (v := f5_6 p1.toNatClampNeg) E h 3 2 rfl rfl (vp_in_iff.mpr (by omega)) rfl dX5_need_17 ?_
  refine lv_ior hx hb dX5_need_18 ?_
  refine lv_iand hx hb dX5_need_19 ?_
  refine lv_if_ne (tgt := 34) hx hb dX5_need_20 (by decide) (fun c_1 => ?_) (fun c_1 => ?_)
  · skip
    have i_1 : ¬ ((f5_6 p0.toNatClampNeg) &&& ((f5_5 p1.toNatClampNeg) ||| (f5_6 p1.toNatClampNeg))).toInt = 0 := fun h9 => c_1 ((fa_eq _ _).mpr h9)
    refine lv_iconst (v := 2) hx hb dX5_need_34 (by decide) ?_
    have hP9 := h.2.1.sub [0, 1, 2, 3] rfl
    have hD9 := h.2.2.1.sub (ws' := [(o5, .inr (5, [.ref a5_0, .ref a5_1, .ref a5_2, .ref a5_3, .ref a5_4, .ref a5_5, .ref a5_6])), (a5_1, .inl (c5_1, 120, .inl f5_1)), (a5_5, .inl (c5_5, 120, .inl f5_5)), (a5_6, .inl (c5_6, 120, .inl f5_6))]) [0, 1, 2, 3] (by decide) rfl
    exact W.iret (v := 2) hx hb hr (fun t ht hW => ⟨⟨2, (), rfl, trivial, (by rw [ht]; exact hP9), hD9⟩, h.2.2.2.1.F ht⟩) h.2.2.2.1.2.2 dX5_need_35 hlocks
  · skip
    have i_1 : ((f5_6 p0.toNatClampNeg) &&& ((f5_5 p1.toNatClampNeg) ||| (f5_6 p1.toNatClampNeg))).toInt = 0 := (fa_eq _ _).mp c_1
    refine lv_aload_n hx hb dX5_need_23 rfl (lv_at hl 0 rfl) ?_
    refine k_get (v := .ref a5_1) E h (fun w h => List.mem_cons_of_mem _ (List.mem_append_right _ h)) 0 rfl rfl 1 (by decide) (List.mem_of_getElem? (i := 3) rfl) rfl dX5_need_24 ?_
    refine lv_iload_n hx hb dX5_need_27 rfl (lv_at hl 1 rfl) ?_
    refine k_iald (v := f5_1 p0.toNatClampNeg) E h 1 0 rfl rfl (vp_in_iff.mpr (by omega)) rfl dX5_need_28 ?_
    refine lv_bipush (v := 9) hx hb dX5_need_29 (by decide) ?_
    refine lv_icmp_ne (tgt := 36) hx hb dX5_need_31 (by decide) (fun c_2 => ?_) (fun c_2 => ?_)
    · skip
      have i_2 : ¬ (f5_1 p0.toNatClampNeg).toInt = 9 := fun h9 => c_2 ((fa_eq _ _).mpr h9)
      refine lv_aload_n hx hb dX5_need_36 rfl (lv_at hl 0 rfl) ?_
      refine lv_iload_n hx hb dX5_need_37 rfl (lv_at hl 1 rfl) ?_
      refine kc_i (wc := [(o5, .inr (5, [.ref a5_0, .ref a5_1, .ref a5_2, .ref a5_3, .ref a5_4, .ref a5_5, .ref a5_6])), (a5_1, .inl (c5_1, 120, .inl f5_1))]) (wr := [(a5_5, .inl (c5_5, 120, .inl f5_5)), (a5_6, .inl (c5_6, 120, .inl f5_6))]) h (va_runV (As := [.int p0]) (rest := []) E (c_X5_canTrap l dC dI _ (o5 := o5) (a5_0 := a5_0) (a5_1 := a5_1) (a5_2 := a5_2) (a5_3 := a5_3) (a5_4 := a5_4) (a5_5 := a5_5) (a5_6 := a5_6) (c5_1 := c5_1) (f5_1 := f5_1) (p0 := p0)  (hp := (by first | decide | omega))) (cwV 1 E.2.2.2.2 gX5_need_X5_canTrap rfl rfl rfl (by decide +kernel) ⟨Nat.le_of_ble_eq_true rfl, Nat.le_of_ble_eq_true rfl⟩) (kPreV (q0 := 0) (ci := 5) h KX_true (fun _ _ _ => trivial) [0, 1] [0] (by decide) rfl rfl rfl rfl) rfl rfl hl.1 rfl (lv_room (Nat.le_of_ble_eq_true rfl)) dX5_need_38 ⟨Nat.le_of_ble_eq_true rfl, Nat.le_of_ble_eq_true rfl⟩) [0, 1] [2, 3] rfl rfl (by decide) (by decide) (fun r_3 u_3 H locs hw_3 h => ?_)
      have h : KS (dC, dI) A [(a5_5, .inl (c5_5, 120, .inl f5_5)), (a5_6, .inl (c5_6, 120, .inl f5_6)), (o5, .inr (5, [.ref a5_0, .ref a5_1, .ref a5_2, .ref a5_3, .ref a5_4, .ref a5_5, .ref a5_6])), (a5_1, .inl (c5_1, 120, .inl f5_1))] [(c5_1, .int), (c5_5, .int), (c5_6, .int)] s H locs := h
      have hw_3 : r_3 = if ((f5_1 p0.toNatClampNeg).toInt = 7 ∨ (f5_1 p0.toNatClampNeg).toInt = 8 ∨ (f5_1 p0.toNatClampNeg).toInt = 10) then 1 else 0 := by first | exact hw_3 | (simp only [Int32.toInt_toInt64] at hw_3; exact hw_3)
      refine W.eq (g2 := F0 m 41 ls [.int r_3]) rfl ?_
      refine lv_if_eq (tgt := 63) hx hb dX5_need_41 (by decide) (fun c_4 => ?_) (fun c_4 => ?_)
      · skip
        have b_4 := kb0 hw_3 c_4
        refine lv_aload_n hx hb dX5_need_63 rfl (lv_at hl 0 rfl) ?_
        refine k_get (v := .ref a5_5) E h (fun w h => List.mem_cons_of_mem _ (List.mem_append_right _ h)) 2 rfl rfl 5 (by decide) (List.mem_of_getElem? (i := 2) rfl) rfl dX5_need_64 ?_
        refine lv_iload_n hx hb dX5_need_67 rfl (lv_at hl 1 rfl) ?_
        refine k_iald (v := f5_5 p0.toNatClampNeg) E h 0 1 rfl rfl (vp_in_iff.mpr (by omega)) rfl dX5_need_68 ?_
        refine lv_aload_n hx hb dX5_need_69 rfl (lv_at hl 0 rfl) ?_
        refine k_get (v := .ref a5_6) E h (fun w h => List.mem_cons_of_mem _ (List.mem_append_right _ h)) 2 rfl rfl 6 (by decide) (List.mem_of_getElem? (i := 1) rfl) rfl dX5_need_70 ?_
        refine lv_iload_n hx hb dX5_need_73 rfl (lv_at hl 2 rfl) ?_
        refine k_iald (v := f5_6 p1.toNatClampNeg) E h 1 2 rfl rfl (vp_in_iff.mpr (by omega)) rfl dX5_need_74 ?_
        refine lv_iand hx hb dX5_need_75 ?_
        refine lv_if_ne (tgt := 90) hx hb dX5_need_76 (by decide) (fun c_5 => ?_) (fun c_5 => ?_)
        · skip
          have i_5 : ¬ ((f5_5 p0.toNatClampNeg) &&& (f5_6 p1.toNatClampNeg)).toInt = 0 := fun h9 => c_5 ((fa_eq _ _).mpr h9)
          refine lv_iconst (v := 1) hx hb dX5_need_90 (by decide) ?_
          have hP9 := h.2.1.sub [2, 3, 0, 1] rfl
          have hD9 := h.2.2.1.sub (ws' := [(o5, .inr (5, [.ref a5_0, .ref a5_1, .ref a5_2, .ref a5_3, .ref a5_4, .ref a5_5, .ref a5_6])), (a5_1, .inl (c5_1, 120, .inl f5_1)), (a5_5, .inl (c5_5, 120, .inl f5_5)), (a5_6, .inl (c5_6, 120, .inl f5_6))]) [2, 3, 0, 1] (by decide) rfl
          exact W.iret (v := 1) hx hb hr (fun t ht hW => ⟨⟨1, (), rfl, trivial, (by rw [ht]; exact hP9), hD9⟩, h.2.2.2.1.F ht⟩) h.2.2.2.1.2.2 dX5_need_91 hlocks
        · skip
          have i_5 : ((f5_5 p0.toNatClampNeg) &&& (f5_6 p1.toNatClampNeg)).toInt = 0 := (fa_eq _ _).mp c_5
          refine lv_aload_n hx hb dX5_need_79 rfl (lv_at hl 0 rfl) ?_
          refine k_get (v := .ref a5_1) E h (fun w h => List.mem_cons_of_mem _ (List.mem_append_right _ h)) 2 rfl rfl 1 (by decide) (List.mem_of_getElem? (i := 3) rfl) rfl dX5_need_80 ?_
          refine lv_iload_n hx hb dX5_need_83 rfl (lv_at hl 2 rfl) ?_
          refine k_iald (v := f5_1 p1.toNatClampNeg) E h 3 0 rfl rfl (vp_in_iff.mpr (by omega)) rfl dX5_need_84 ?_
          refine lv_bipush (v := 9) hx hb dX5_need_85 (by decide) ?_
          refine lv_icmp_ne (tgt := 92) hx hb dX5_need_87 (by decide) (fun c_6 => ?_) (fun c_6 => ?_)
          · skip
            have i_6 : ¬ (f5_1 p1.toNatClampNeg).toInt = 9 := fun h9 => c_6 ((fa_eq _ _).mpr h9)
            refine lv_iconst (v := 0) hx hb dX5_need_92 (by decide) ?_
            have hP9 := h.2.1.sub [2, 3, 0, 1] rfl
            have hD9 := h.2.2.1.sub (ws' := [(o5, .inr (5, [.ref a5_0, .ref a5_1, .ref a5_2, .ref a5_3, .ref a5_4, .ref a5_5, .ref a5_6])), (a5_1, .inl (c5_1, 120, .inl f5_1)), (a5_5, .inl (c5_5, 120, .inl f5_5)), (a5_6, .inl (c5_6, 120, .inl f5_6))]) [2, 3, 0, 1] (by decide) rfl
            exact W.iret (v := 0) hx hb hr (fun t ht hW => ⟨⟨0, (), rfl, trivial, (by rw [ht]; exact hP9), hD9⟩, h.2.2.2.1.F ht⟩) h.2.2.2.1.2.2 dX5_need_93 hlocks
          · skip
            have i_6 : (f5_1 p1.toNatClampNeg).toInt = 9 := (fa_eq _ _).mp c_6
            refine lv_iconst (v := 1) hx hb dX5_need_90 (by decide) ?_
            have hP9 := h.2.1.sub [2, 3, 0, 1] rfl
            have hD9 := h.2.2.1.sub (ws' := [(o5, .inr (5, [.ref a5_0, .ref a5_1, .ref a5_2, .ref a5_3, .ref a5_4, .ref a5_5, .ref a5_6])), (a5_1, .inl (c5_1, 120, .inl f5_1)), (a5_5, .inl (c5_5, 120, .inl f5_5)), (a5_6, .inl (c5_6, 120, .inl f5_6))]) [2, 3, 0, 1] (by decide) rfl
            exact W.iret (v := 1) hx hb hr (fun t ht hW => ⟨⟨1, (), rfl, trivial, (by rw [ht]; exact hP9), hD9⟩, h.2.2.2.1.F ht⟩) h.2.2.2.1.2.2 dX5_need_91 hlocks
      · skip
        have b_4 := kb1 hw_3 c_4
        refine lv_aload_n hx hb dX5_need_44 rfl (lv_at hl 0 rfl) ?_
        refine k_get (v := .ref a5_6) E h (fun w h => List.mem_cons_of_mem _ (List.mem_append_right _ h)) 2 rfl rfl 6 (by decide) (List.mem_of_getElem? (i := 1) rfl) rfl dX5_need_45 ?_
        refine lv_iload_n hx hb dX5_need_48 rfl (lv_at hl 2 rfl) ?_
        refine k_iald (v := f5_6 p1.toNatClampNeg) E h 1 2 rfl rfl (vp_in_iff.mpr (by omega)) rfl dX5_need_49 ?_
        refine lv_if_ne (tgt := 61) hx hb dX5_need_50 (by decide) (fun c_7 => ?_) (fun c_7 => ?_)
        · skip
          have i_7 : ¬ (f5_6 p1.toNatClampNeg).toInt = 0 := fun h9 => c_7 ((fa_eq _ _).mpr h9)
          refine lv_iconst (v := 2) hx hb dX5_need_61 (by decide) ?_
          have hP9 := h.2.1.sub [2, 3, 0, 1] rfl
          have hD9 := h.2.2.1.sub (ws' := [(o5, .inr (5, [.ref a5_0, .ref a5_1, .ref a5_2, .ref a5_3, .ref a5_4, .ref a5_5, .ref a5_6])), (a5_1, .inl (c5_1, 120, .inl f5_1)), (a5_5, .inl (c5_5, 120, .inl f5_5)), (a5_6, .inl (c5_6, 120, .inl f5_6))]) [2, 3, 0, 1] (by decide) rfl
          exact W.iret (v := 2) hx hb hr (fun t ht hW => ⟨⟨2, (), rfl, trivial, (by rw [ht]; exact hP9), hD9⟩, h.2.2.2.1.F ht⟩) h.2.2.2.1.2.2 dX5_need_62 hlocks
        · skip
          have i_7 : (f5_6 p1.toNatClampNeg).toInt = 0 := (fa_eq _ _).mp c_7
          refine lv_aload_n hx hb dX5_need_53 rfl (lv_at hl 0 rfl) ?_
          refine lv_iload_n hx hb dX5_need_54 rfl (lv_at hl 2 rfl) ?_
          refine kc_i (wc := [(o5, .inr (5, [.ref a5_0, .ref a5_1, .ref a5_2, .ref a5_3, .ref a5_4, .ref a5_5, .ref a5_6])), (a5_1, .inl (c5_1, 120, .inl f5_1))]) (wr := [(a5_5, .inl (c5_5, 120, .inl f5_5)), (a5_6, .inl (c5_6, 120, .inl f5_6))]) h (va_runV (As := [.int p1]) (rest := []) E (c_X5_canTrap l dC dI _ (o5 := o5) (a5_0 := a5_0) (a5_1 := a5_1) (a5_2 := a5_2) (a5_3 := a5_3) (a5_4 := a5_4) (a5_5 := a5_5) (a5_6 := a5_6) (c5_1 := c5_1) (f5_1 := f5_1) (p0 := p1)  (hp := (by first | decide | omega))) (cwV 1 E.2.2.2.2 gX5_need_X5_canTrap rfl rfl rfl (by decide +kernel) ⟨Nat.le_of_ble_eq_true rfl, Nat.le_of_ble_eq_true rfl⟩) (kPreV (q0 := 2) (ci := 5) h KX_true (fun _ _ _ => trivial) [2, 3] [0] (by decide) rfl rfl rfl rfl) rfl rfl hl.1 rfl (lv_room (Nat.le_of_ble_eq_true rfl)) dX5_need_55 ⟨Nat.le_of_ble_eq_true rfl, Nat.le_of_ble_eq_true rfl⟩) [2, 3] [0, 1] rfl rfl (by decide) (by decide) (fun r_8 u_8 H locs hw_8 h => ?_)
          have h : KS (dC, dI) A [(a5_5, .inl (c5_5, 120, .inl f5_5)), (a5_6, .inl (c5_6, 120, .inl f5_6)), (o5, .inr (5, [.ref a5_0, .ref a5_1, .ref a5_2, .ref a5_3, .ref a5_4, .ref a5_5, .ref a5_6])), (a5_1, .inl (c5_1, 120, .inl f5_1))] [(c5_1, .int), (c5_5, .int), (c5_6, .int)] s H locs := h
          have hw_8 : r_8 = if ((f5_1 p1.toNatClampNeg).toInt = 7 ∨ (f5_1 p1.toNatClampNeg).toInt = 8 ∨ (f5_1 p1.toNatClampNeg).toInt = 10) then 1 else 0 := by first | exact hw_8 | (simp only [Int32.toInt_toInt64] at hw_8; exact hw_8)
          refine W.eq (g2 := F0 m 58 ls [.int r_8]) rfl ?_
          refine lv_if_eq (tgt := 63) hx hb dX5_need_58 (by decide) (fun c_9 => ?_) (fun c_9 => ?_)
          · skip
            have b_9 := kb0 hw_8 c_9
            refine lv_aload_n hx hb dX5_need_63 rfl (lv_at hl 0 rfl) ?_
            refine k_get (v := .ref a5_5) E h (fun w h => List.mem_cons_of_mem _ (List.mem_append_right _ h)) 2 rfl rfl 5 (by decide) (List.mem_of_getElem? (i := 2) rfl) rfl dX5_need_64 ?_
            refine lv_iload_n hx hb dX5_need_67 rfl (lv_at hl 1 rfl) ?_
            refine k_iald (v := f5_5 p0.toNatClampNeg) E h 0 1 rfl rfl (vp_in_iff.mpr (by omega)) rfl dX5_need_68 ?_
            refine lv_aload_n hx hb dX5_need_69 rfl (lv_at hl 0 rfl) ?_
            refine k_get (v := .ref a5_6) E h (fun w h => List.mem_cons_of_mem _ (List.mem_append_right _ h)) 2 rfl rfl 6 (by decide) (List.mem_of_getElem? (i := 1) rfl) rfl dX5_need_70 ?_
            refine lv_iload_n hx hb dX5_need_73 rfl (lv_at hl 2 rfl) ?_
            refine k_iald (v := f5_6 p1.toNatClampNeg) E h 1 2 rfl rfl (vp_in_iff.mpr (by omega)) rfl dX5_need_74 ?_
            refine lv_iand hx hb dX5_need_75 ?_
            refine lv_if_ne (tgt := 90) hx hb dX5_need_76 (by decide) (fun c_10 => ?_) (fun c_10 => ?_)
            · skip
              have i_10 : ¬ ((f5_5 p0.toNatClampNeg) &&& (f5_6 p1.toNatClampNeg)).toInt = 0 := fun h9 => c_10 ((fa_eq _ _).mpr h9)
              refine lv_iconst (v := 1) hx hb dX5_need_90 (by decide) ?_
              have hP9 := h.2.1.sub [2, 3, 0, 1] rfl
              have hD9 := h.2.2.1.sub (ws' := [(o5, .inr (5, [.ref a5_0, .ref a5_1, .ref a5_2, .ref a5_3, .ref a5_4, .ref a5_5, .ref a5_6])), (a5_1, .inl (c5_1, 120, .inl f5_1)), (a5_5, .inl (c5_5, 120, .inl f5_5)), (a5_6, .inl (c5_6, 120, .inl f5_6))]) [2, 3, 0, 1] (by decide) rfl
              exact W.iret (v := 1) hx hb hr (fun t ht hW => ⟨⟨1, (), rfl, trivial, (by rw [ht]; exact hP9), hD9⟩, h.2.2.2.1.F ht⟩) h.2.2.2.1.2.2 dX5_need_91 hlocks
            · skip
              have i_10 : ((f5_5 p0.toNatClampNeg) &&& (f5_6 p1.toNatClampNeg)).toInt = 0 := (fa_eq _ _).mp c_10
              refine lv_aload_n hx hb dX5_need_79 rfl (lv_at hl 0 rfl) ?_
              refine k_get (v := .ref a5_1) E h (fun w h => List.mem_cons_of_mem _ (List.mem_append_right _ h)) 2 rfl rfl 1 (by decide) (List.mem_of_getElem? (i := 3) rfl) rfl dX5_need_80 ?_
              refine lv_iload_n hx hb dX5_need_83 rfl (lv_at hl 2 rfl) ?_
              refine k_iald (v := f5_1 p1.toNatClampNeg) E h 3 0 rfl rfl (vp_in_iff.mpr (by omega)) rfl dX5_need_84 ?_
              refine lv_bipush (v := 9) hx hb dX5_need_85 (by decide) ?_
              refine lv_icmp_ne (tgt := 92) hx hb dX5_need_87 (by decide) (fun c_11 => ?_) (fun c_11 => ?_)
              · skip
                have i_11 : ¬ (f5_1 p1.toNatClampNeg).toInt = 9 := fun h9 => c_11 ((fa_eq _ _).mpr h9)
                refine lv_iconst (v := 0) hx hb dX5_need_92 (by decide) ?_
                have hP9 := h.2.1.sub [2, 3, 0, 1] rfl
                have hD9 := h.2.2.1.sub (ws' := [(o5, .inr (5, [.ref a5_0, .ref a5_1, .ref a5_2, .ref a5_3, .ref a5_4, .ref a5_5, .ref a5_6])), (a5_1, .inl (c5_1, 120, .inl f5_1)), (a5_5, .inl (c5_5, 120, .inl f5_5)), (a5_6, .inl (c5_6, 120, .inl f5_6))]) [2, 3, 0, 1] (by decide) rfl
                exact W.iret (v := 0) hx hb hr (fun t ht hW => ⟨⟨0, (), rfl, trivial, (by rw [ht]; exact hP9), hD9⟩, h.2.2.2.1.F ht⟩) h.2.2.2.1.2.2 dX5_need_93 hlocks
              · skip
                have i_11 : (f5_1 p1.toNatClampNeg).toInt = 9 := (fa_eq _ _).mp c_11
                refine lv_iconst (v := 1) hx hb dX5_need_90 (by decide) ?_
                have hP9 := h.2.1.sub [2, 3, 0, 1] rfl
                have hD9 := h.2.2.1.sub (ws' := [(o5, .inr (5, [.ref a5_0, .ref a5_1, .ref a5_2, .ref a5_3, .ref a5_4, .ref a5_5, .ref a5_6])), (a5_1, .inl (c5_1, 120, .inl f5_1)), (a5_5, .inl (c5_5, 120, .inl f5_5)), (a5_6, .inl (c5_6, 120, .inl f5_6))]) [2, 3, 0, 1] (by decide) rfl
                exact W.iret (v := 1) hx hb hr (fun t ht hW => ⟨⟨1, (), rfl, trivial, (by rw [ht]; exact hP9), hD9⟩, h.2.2.2.1.F ht⟩) h.2.2.2.1.2.2 dX5_need_91 hlocks
          · skip
            have b_9 := kb1 hw_8 c_9
            refine lv_iconst (v := 2) hx hb dX5_need_61 (by decide) ?_
            have hP9 := h.2.1.sub [2, 3, 0, 1] rfl
            have hD9 := h.2.2.1.sub (ws' := [(o5, .inr (5, [.ref a5_0, .ref a5_1, .ref a5_2, .ref a5_3, .ref a5_4, .ref a5_5, .ref a5_6])), (a5_1, .inl (c5_1, 120, .inl f5_1)), (a5_5, .inl (c5_5, 120, .inl f5_5)), (a5_6, .inl (c5_6, 120, .inl f5_6))]) [2, 3, 0, 1] (by decide) rfl
            exact W.iret (v := 2) hx hb hr (fun t ht hW => ⟨⟨2, (), rfl, trivial, (by rw [ht]; exact hP9), hD9⟩, h.2.2.2.1.F ht⟩) h.2.2.2.1.2.2 dX5_need_62 hlocks
    · skip
      have i_2 : (f5_1 p0.toNatClampNeg).toInt = 9 := (fa_eq _ _).mp c_2
      refine lv_iconst (v := 2) hx hb dX5_need_34 (by decide) ?_
      have hP9 := h.2.1.sub [0, 1, 2, 3] rfl
      have hD9 := h.2.2.1.sub (ws' := [(o5, .inr (5, [.ref a5_0, .ref a5_1, .ref a5_2, .ref a5_3, .ref a5_4, .ref a5_5, .ref a5_6])), (a5_1, .inl (c5_1, 120, .inl f5_1)), (a5_5, .inl (c5_5, 120, .inl f5_5)), (a5_6, .inl (c5_6, 120, .inl f5_6))]) [0, 1, 2, 3] (by decide) rfl
      exact W.iret (v := 2) hx hb hr (fun t ht hW => ⟨⟨2, (), rfl, trivial, (by rw [ht]; exact hP9), hD9⟩, h.2.2.2.1.F ht⟩) h.2.2.2.1.2.2 dX5_need_35 hlocks
set_option maxHeartbeats 4000000 in
set_option maxRecDepth 100000 in
theorem c_X7_act (l : Launch) (dC : Nat → ClassId) (dI : Nat → Nat → Nat) (sz : Nat) (o7 : Nat) (o2 : Nat) (o5 : Nat) (o3 : Nat) (o4 : Nat) (o1 : Nat) (o0 : Nat) (a7_6 : Nat) (a7_7 : Nat) (v7_8 : Int32) (v7_9 : Int32) (v7_10 : Int32) (a7_11 : Nat) (v7_12 : Int32) (a7_13 : Nat) (v7_14 : Int32) (a7_15 : Nat) (c7_15 : ClassId) (f7_15 : Nat → Int32) (a5_0 : Nat) (a5_1 : Nat) (a5_2 : Nat) (a5_3 : Nat) (a5_4 : Nat) (a5_5 : Nat) (a5_6 : Nat) (c5_0 : ClassId) (f5_0 : Nat → Int32) (c5_1 : ClassId) (f5_1 : Nat → Int32) (c5_2 : ClassId) (f5_2 : Nat → Int32) (c5_3 : ClassId) (f5_3 : Nat → Int32) (c5_4 : ClassId) (f5_4 : Nat → Int32) (c5_5 : ClassId) (f5_5 : Nat → Int32) (c5_6 : ClassId) (f5_6 : Nat → Int32) (a3_0 : Nat) (a3_1 : Nat) (a3_2 : Nat) (a3_3 : Nat) (v3_4 : Int32) (o6 : Nat) (c3_0 : ClassId) (f3_0 : Nat → Int32) (v4_0 : Int32) (v4_1 : Int32) (a4_2 : Nat) (a4_3 : Nat) (a4_4 : Nat) (a4_5 : Nat) (a4_6 : Nat) (p0 : Int32) (p1 : Int32) (p2 : Int32) (p3 : Int32) (p4 : Int32) (hR : IR f5_1 f5_2 f5_3 f5_4) (hL5 : IL f5_0) : Met l yX7_act wsX7_act ({ frames := 2, cells := 0, slots := 0, locals := 49 } : Room) (va_Pc [.ref o7, .int p0, .int p1, .int p2, .int p3, .int p4] (KPre (dC, dI) [(o7, .inr (7, [.ref o2, .ref o5, .ref o3, .ref o4, .ref o1, .ref o0, .ref a7_6, .ref a7_7, .int v7_8, .int v7_9, .int v7_10, .ref a7_11, .int v7_12, .ref a7_13, .int v7_14, .ref a7_15])), (a7_15, .inl (c7_15, 8, .inl f7_15)), (o5, .inr (5, [.ref a5_0, .ref a5_1, .ref a5_2, .ref a5_3, .ref a5_4, .ref a5_5, .ref a5_6])), (a5_0, .inl (c5_0, 12, .inl f5_0)), (a5_1, .inl (c5_1, 120, .inl f5_1)), (a5_2, .inl (c5_2, 120, .inl f5_2)), (a5_3, .inl (c5_3, 120, .inl f5_3)), (a5_4, .inl (c5_4, 120, .inl f5_4)), (a5_5, .inl (c5_5, 120, .inl f5_5)), (a5_6, .inl (c5_6, 120, .inl f5_6)), (o3, .inr (3, [.ref a3_0, .ref a3_1, .ref a3_2, .ref a3_3, .int v3_4, .ref o5, .ref o6])), (a3_0, .inl (c3_0, 12, .inl f3_0)), (o4, .inr (4, [.int v4_0, .int v4_1, .ref a4_2, .ref a4_3, .ref a4_4, .ref a4_5, .ref a4_6, .ref o5, .ref o3]))] [(c7_15, .int), (c5_0, .int), (c5_1, .int), (c5_2, .int), (c5_3, .int), (c5_4, .int), (c5_5, .int), (c5_6, .int), (c3_0, .boolean)] sz (fun U => KAll (va_A [(o7, .inr (7, [.ref o2, .ref o5, .ref o3, .ref o4, .ref o1, .ref o0, .ref a7_6, .ref a7_7, .int v7_8, .int v7_9, .int v7_10, .ref a7_11, .int v7_12, .ref a7_13, .int v7_14, .ref a7_15])), (a7_15, .inl (c7_15, 8, .inl f7_15)), (o5, .inr (5, [.ref a5_0, .ref a5_1, .ref a5_2, .ref a5_3, .ref a5_4, .ref a5_5, .ref a5_6])), (a5_0, .inl (c5_0, 12, .inl f5_0)), (a5_1, .inl (c5_1, 120, .inl f5_1)), (a5_2, .inl (c5_2, 120, .inl f5_2)), (a5_3, .inl (c5_3, 120, .inl f5_3)), (a5_4, .inl (c5_4, 120, .inl f5_4)), (a5_5, .inl (c5_5, 120, .inl f5_5)), (a5_6, .inl (c5_6, 120, .inl f5_6)), (o3, .inr (3, [.ref a3_0, .ref a3_1, .ref a3_2, .ref a3_3, .int v3_4, .ref o5, .ref o6])), (a3_0, .inl (c3_0, 12, .inl f3_0)), (o4, .inr (4, [.int v4_0, .int v4_1, .ref a4_2, .ref a4_3, .ref a4_4, .ref a4_5, .ref a4_6, .ref o5, .ref o3]))] sz) U))) (va_Qi (fun (r : Int32) (u : (Nat → Int32) × (Nat → Int32) × (Nat → Int32) × (Nat → Int32) × (Nat → Int32) × (Nat → Int32) × (Nat → Int32) × (Nat → Int32) × (Nat → Int32) × Int32) => r = (if (0 ≤ p0.toInt ∧ p0.toInt < 12) then (if kActOK p1 p2 p3 p4 = true then (if (f5_0 p0.toNatClampNeg).toInt < 10 then f5_0 p0.toNatClampNeg + 1 else -7) else -6) else -3) ∧ u.2.1 = (if ((0 ≤ p0.toInt ∧ p0.toInt < 12) ∧ (kActOK p1 p2 p3 p4 = true ∧ (f5_0 p0.toNatClampNeg).toInt < 10)) then upd f5_0 p0.toNatClampNeg (f5_0 p0.toNatClampNeg + 1) else f5_0) ∧ IR u.2.2.1 u.2.2.2.1 u.2.2.2.2.1 u.2.2.2.2.2.1) (KPost (dC, dI) (va_A [(o7, .inr (7, [.ref o2, .ref o5, .ref o3, .ref o4, .ref o1, .ref o0, .ref a7_6, .ref a7_7, .int v7_8, .int v7_9, .int v7_10, .ref a7_11, .int v7_12, .ref a7_13, .int v7_14, .ref a7_15])), (a7_15, .inl (c7_15, 8, .inl f7_15)), (o5, .inr (5, [.ref a5_0, .ref a5_1, .ref a5_2, .ref a5_3, .ref a5_4, .ref a5_5, .ref a5_6])), (a5_0, .inl (c5_0, 12, .inl f5_0)), (a5_1, .inl (c5_1, 120, .inl f5_1)), (a5_2, .inl (c5_2, 120, .inl f5_2)), (a5_3, .inl (c5_3, 120, .inl f5_3)), (a5_4, .inl (c5_4, 120, .inl f5_4)), (a5_5, .inl (c5_5, 120, .inl f5_5)), (a5_6, .inl (c5_6, 120, .inl f5_6)), (o3, .inr (3, [.ref a3_0, .ref a3_1, .ref a3_2, .ref a3_3, .int v3_4, .ref o5, .ref o6])), (a3_0, .inl (c3_0, 12, .inl f3_0)), (o4, .inr (4, [.int v4_0, .int v4_1, .ref a4_2, .ref a4_3, .ref a4_4, .ref a4_5, .ref a4_6, .ref o5, .ref o3]))] sz) (fun (u : (Nat → Int32) × (Nat → Int32) × (Nat → Int32) × (Nat → Int32) × (Nat → Int32) × (Nat → Int32) × (Nat → Int32) × (Nat → Int32) × (Nat → Int32) × Int32) => [(o7, .inr (7, [.ref o2, .ref o5, .ref o3, .ref o4, .ref o1, .ref o0, .ref a7_6, .ref a7_7, .int v7_8, .int v7_9, .int v7_10, .ref a7_11, .int v7_12, .ref a7_13, .int v7_14, .ref a7_15])), (a7_15, .inl (c7_15, 8, .inl u.1)), (o5, .inr (5, [.ref a5_0, .ref a5_1, .ref a5_2, .ref a5_3, .ref a5_4, .ref a5_5, .ref a5_6])), (a5_0, .inl (c5_0, 12, .inl u.2.1)), (a5_1, .inl (c5_1, 120, .inl u.2.2.1)), (a5_2, .inl (c5_2, 120, .inl u.2.2.2.1)), (a5_3, .inl (c5_3, 120, .inl u.2.2.2.2.1)), (a5_4, .inl (c5_4, 120, .inl u.2.2.2.2.2.1)), (a5_5, .inl (c5_5, 120, .inl u.2.2.2.2.2.2.1)), (a5_6, .inl (c5_6, 120, .inl u.2.2.2.2.2.2.2.1)), (o3, .inr (3, [.ref a3_0, .ref a3_1, .ref a3_2, .ref a3_3, .int v3_4, .ref o5, .ref o6])), (a3_0, .inl (c3_0, 12, .inl u.2.2.2.2.2.2.2.2.1)), (o4, .inr (4, [.int u.2.2.2.2.2.2.2.2.2, .int v4_1, .ref a4_2, .ref a4_3, .ref a4_4, .ref a4_5, .ref a4_6, .ref o5, .ref o3]))])) (va_A [(o7, .inr (7, [.ref o2, .ref o5, .ref o3, .ref o4, .ref o1, .ref o0, .ref a7_6, .ref a7_7, .int v7_8, .int v7_9, .int v7_10, .ref a7_11, .int v7_12, .ref a7_13, .int v7_14, .ref a7_15])), (a7_15, .inl (c7_15, 8, .inl f7_15)), (o5, .inr (5, [.ref a5_0, .ref a5_1, .ref a5_2, .ref a5_3, .ref a5_4, .ref a5_5, .ref a5_6])), (a5_0, .inl (c5_0, 12, .inl f5_0)), (a5_1, .inl (c5_1, 120, .inl f5_1)), (a5_2, .inl (c5_2, 120, .inl f5_2)), (a5_3, .inl (c5_3, 120, .inl f5_3)), (a5_4, .inl (c5_4, 120, .inl f5_4)), (a5_5, .inl (c5_5, 120, .inl f5_5)), (a5_6, .inl (c5_6, 120, .inl f5_6)), (o3, .inr (3, [.ref a3_0, .ref a3_1, .ref a3_2, .ref a3_3, .int v3_4, .ref o5, .ref o6])), (a3_0, .inl (c3_0, 12, .inl f3_0)), (o4, .inr (4, [.int v4_0, .int v4_1, .ref a4_2, .ref a4_3, .ref a4_4, .ref a4_5, .ref a4_6, .ref o5, .ref o3]))] sz)) 0 0 (va_A [(o7, .inr (7, [.ref o2, .ref o5, .ref o3, .ref o4, .ref o1, .ref o0, .ref a7_6, .ref a7_7, .int v7_8, .int v7_9, .int v7_10, .ref a7_11, .int v7_12, .ref a7_13, .int v7_14, .ref a7_15])), (a7_15, .inl (c7_15, 8, .inl f7_15)), (o5, .inr (5, [.ref a5_0, .ref a5_1, .ref a5_2, .ref a5_3, .ref a5_4, .ref a5_5, .ref a5_6])), (a5_0, .inl (c5_0, 12, .inl f5_0)), (a5_1, .inl (c5_1, 120, .inl f5_1)), (a5_2, .inl (c5_2, 120, .inl f5_2)), (a5_3, .inl (c5_3, 120, .inl f5_3)), (a5_4, .inl (c5_4, 120, .inl f5_4)), (a5_5, .inl (c5_5, 120, .inl f5_5)), (a5_6, .inl (c5_6, 120, .inl f5_6)), (o3, .inr (3, [.ref a3_0, .ref a3_1, .ref a3_2, .ref a3_3, .int v3_4, .ref o5, .ref o6])), (a3_0, .inl (c3_0, 12, .inl f3_0)), (o4, .inr (4, [.int v4_0, .int v4_1, .ref a4_2, .ref a4_3, .ref a4_4, .ref a4_5, .ref a4_6, .ref o5, .ref o3]))] sz) := by
  refine kMet (y := yX7_act) (wsM := wsX7_act) (cc := cX7_act) (maxL := 6) (ret := (some .int)) (rm := ({ frames := 2, cells := 0, slots := 0, locals := 49 } : Room)) (mc := 0) (ms := 0) (av := [.ref o7, .int p0, .int p1, .int p2, .int p3, .int p4]) (D := (dC, dI)) (wc := [(o7, .inr (7, [.ref o2, .ref o5, .ref o3, .ref o4, .ref o1, .ref o0, .ref a7_6, .ref a7_7, .int v7_8, .int v7_9, .int v7_10, .ref a7_11, .int v7_12, .ref a7_13, .int v7_14, .ref a7_15])), (a7_15, .inl (c7_15, 8, .inl f7_15)), (o5, .inr (5, [.ref a5_0, .ref a5_1, .ref a5_2, .ref a5_3, .ref a5_4, .ref a5_5, .ref a5_6])), (a5_0, .inl (c5_0, 12, .inl f5_0)), (a5_1, .inl (c5_1, 120, .inl f5_1)), (a5_2, .inl (c5_2, 120, .inl f5_2)), (a5_3, .inl (c5_3, 120, .inl f5_3)), (a5_4, .inl (c5_4, 120, .inl f5_4)), (a5_5, .inl (c5_5, 120, .inl f5_5)), (a5_6, .inl (c5_6, 120, .inl f5_6)), (o3, .inr (3, [.ref a3_0, .ref a3_1, .ref a3_2, .ref a3_3, .int v3_4, .ref o5, .ref o6])), (a3_0, .inl (c3_0, 12, .inl f3_0)), (o4, .inr (4, [.int v4_0, .int v4_1, .ref a4_2, .ref a4_3, .ref a4_4, .ref a4_5, .ref a4_6, .ref o5, .ref o3]))]) (tc := [(c7_15, .int), (c5_0, .int), (c5_1, .int), (c5_2, .int), (c5_3, .int), (c5_4, .int), (c5_5, .int), (c5_6, .int), (c3_0, .boolean)]) (sz := sz) (X := fun U => KAll (va_A [(o7, .inr (7, [.ref o2, .ref o5, .ref o3, .ref o4, .ref o1, .ref o0, .ref a7_6, .ref a7_7, .int v7_8, .int v7_9, .int v7_10, .ref a7_11, .int v7_12, .ref a7_13, .int v7_14, .ref a7_15])), (a7_15, .inl (c7_15, 8, .inl f7_15)), (o5, .inr (5, [.ref a5_0, .ref a5_1, .ref a5_2, .ref a5_3, .ref a5_4, .ref a5_5, .ref a5_6])), (a5_0, .inl (c5_0, 12, .inl f5_0)), (a5_1, .inl (c5_1, 120, .inl f5_1)), (a5_2, .inl (c5_2, 120, .inl f5_2)), (a5_3, .inl (c5_3, 120, .inl f5_3)), (a5_4, .inl (c5_4, 120, .inl f5_4)), (a5_5, .inl (c5_5, 120, .inl f5_5)), (a5_6, .inl (c5_6, 120, .inl f5_6)), (o3, .inr (3, [.ref a3_0, .ref a3_1, .ref a3_2, .ref a3_3, .int v3_4, .ref o5, .ref o6])), (a3_0, .inl (c3_0, 12, .inl f3_0)), (o4, .inr (4, [.int v4_0, .int v4_1, .ref a4_2, .ref a4_3, .ref a4_4, .ref a4_5, .ref a4_6, .ref o5, .ref o3]))] sz) U) (Qc := fun A => va_Qi (fun (r : Int32) (u : (Nat → Int32) × (Nat → Int32) × (Nat → Int32) × (Nat → Int32) × (Nat → Int32) × (Nat → Int32) × (Nat → Int32) × (Nat → Int32) × (Nat → Int32) × Int32) => r = (if (0 ≤ p0.toInt ∧ p0.toInt < 12) then (if kActOK p1 p2 p3 p4 = true then (if (f5_0 p0.toNatClampNeg).toInt < 10 then f5_0 p0.toNatClampNeg + 1 else -7) else -6) else -3) ∧ u.2.1 = (if ((0 ≤ p0.toInt ∧ p0.toInt < 12) ∧ (kActOK p1 p2 p3 p4 = true ∧ (f5_0 p0.toNatClampNeg).toInt < 10)) then upd f5_0 p0.toNatClampNeg (f5_0 p0.toNatClampNeg + 1) else f5_0) ∧ IR u.2.2.1 u.2.2.2.1 u.2.2.2.2.1 u.2.2.2.2.2.1) (KPost (dC, dI) A (fun (u : (Nat → Int32) × (Nat → Int32) × (Nat → Int32) × (Nat → Int32) × (Nat → Int32) × (Nat → Int32) × (Nat → Int32) × (Nat → Int32) × (Nat → Int32) × Int32) => [(o7, .inr (7, [.ref o2, .ref o5, .ref o3, .ref o4, .ref o1, .ref o0, .ref a7_6, .ref a7_7, .int v7_8, .int v7_9, .int v7_10, .ref a7_11, .int v7_12, .ref a7_13, .int v7_14, .ref a7_15])), (a7_15, .inl (c7_15, 8, .inl u.1)), (o5, .inr (5, [.ref a5_0, .ref a5_1, .ref a5_2, .ref a5_3, .ref a5_4, .ref a5_5, .ref a5_6])), (a5_0, .inl (c5_0, 12, .inl u.2.1)), (a5_1, .inl (c5_1, 120, .inl u.2.2.1)), (a5_2, .inl (c5_2, 120, .inl u.2.2.2.1)), (a5_3, .inl (c5_3, 120, .inl u.2.2.2.2.1)), (a5_4, .inl (c5_4, 120, .inl u.2.2.2.2.2.1)), (a5_5, .inl (c5_5, 120, .inl u.2.2.2.2.2.2.1)), (a5_6, .inl (c5_6, 120, .inl u.2.2.2.2.2.2.2.1)), (o3, .inr (3, [.ref a3_0, .ref a3_1, .ref a3_2, .ref a3_3, .int v3_4, .ref o5, .ref o6])), (a3_0, .inl (c3_0, 12, .inl u.2.2.2.2.2.2.2.2.1)), (o4, .inr (4, [.int u.2.2.2.2.2.2.2.2.2, .int v4_1, .ref a4_2, .ref a4_3, .ref a4_4, .ref a4_5, .ref a4_6, .ref o5, .ref o3]))])) A) (by decide) rfl (Nat.le_of_ble_eq_true rfl) ?_
  intro p e s m below meth c A ls E hr hlocks hnm hsz hAe hX h hl
  have hx := E.1
  have hb := E.2.1
  have hl : lv_has ls 6 [(0, .ref o7), (1, .int p0), (2, .int p1), (3, .int p2), (4, .int p3), (5, .int p4)] := hl
  have hX : KAll A s := by rw [← hAe]; exact hX
  obtain ⟨⟨tD, hZD, hTD⟩, ⟨tX, hZX, hTX⟩, ⟨tY, hZY, hTY⟩, ⟨tP, hZP, hTP⟩, ⟨tL, hZL, hTL⟩, ⟨tM, hZM, hTM⟩, hN0_134, hN0_60, hN0_96, hN1_83, hN1_87, hN3_49, hN3_52, hN4_44, hN4_69, hN5_33, hN6_102, hN6_67, hF37, hF40, hF50, hF53⟩ := id hX
  refine lv_iload_n hx hb dX7_act_0 rfl (lv_at hl 1 rfl) ?_
  refine kc_i (wc := []) (wr := [(o7, .inr (7, [.ref o2, .ref o5, .ref o3, .ref o4, .ref o1, .ref o0, .ref a7_6, .ref a7_7, .int v7_8, .int v7_9, .int v7_10, .ref a7_11, .int v7_12, .ref a7_13, .int v7_14, .ref a7_15])), (a7_15, .inl (c7_15, 8, .inl f7_15)), (o5, .inr (5, [.ref a5_0, .ref a5_1, .ref a5_2, .ref a5_3, .ref a5_4, .ref a5_5, .ref a5_6])), (a5_0, .inl (c5_0, 12, .inl f5_0)), (a5_1, .inl (c5_1, 120, .inl f5_1)), (a5_2, .inl (c5_2, 120, .inl f5_2)), (a5_3, .inl (c5_3, 120, .inl f5_3)), (a5_4, .inl (c5_4, 120, .inl f5_4)), (a5_5, .inl (c5_5, 120, .inl f5_5)), (a5_6, .inl (c5_6, 120, .inl f5_6)), (o3, .inr (3, [.ref a3_0, .ref a3_1, .ref a3_2, .ref a3_3, .int v3_4, .ref o5, .ref o6])), (a3_0, .inl (c3_0, 12, .inl f3_0)), (o4, .inr (4, [.int v4_0, .int v4_1, .ref a4_2, .ref a4_3, .ref a4_4, .ref a4_5, .ref a4_6, .ref o5, .ref o3]))]) h (va_runS (As := [.int p0]) (rest := []) E (c_X7_isInstruction l dC dI _ (p0 := p0)  ) (va_cwS 1 E.2.2.2.2 gX7_act_X7_isInstruction rfl rfl rfl (by decide +kernel) ⟨Nat.le_of_ble_eq_true rfl, Nat.le_of_ble_eq_true rfl⟩) (kPreS h KX_true (fun _ _ _ => trivial) [] [] (by decide) rfl rfl) rfl rfl hl.1 rfl (lv_room (Nat.le_of_ble_eq_true rfl)) dX7_act_1 ⟨Nat.le_of_ble_eq_true rfl, Nat.le_of_ble_eq_true rfl⟩) [] [0, 1, 2, 3, 4, 5, 6, 7, 8, 9, 10, 11, 12] rfl rfl (by decide) (by decide) (fun r_1 u_1 H locs hw_1 h => ?_)
  have h : KS (dC, dI) A [(o7, .inr (7, [.ref o2, .ref o5, .ref o3, .ref o4, .ref o1, .ref o0, .ref a7_6, .ref a7_7, .int v7_8, .int v7_9, .int v7_10, .ref a7_11, .int v7_12, .ref a7_13, .int v7_14, .ref a7_15])), (a7_15, .inl (c7_15, 8, .inl f7_15)), (o5, .inr (5, [.ref a5_0, .ref a5_1, .ref a5_2, .ref a5_3, .ref a5_4, .ref a5_5, .ref a5_6])), (a5_0, .inl (c5_0, 12, .inl f5_0)), (a5_1, .inl (c5_1, 120, .inl f5_1)), (a5_2, .inl (c5_2, 120, .inl f5_2)), (a5_3, .inl (c5_3, 120, .inl f5_3)), (a5_4, .inl (c5_4, 120, .inl f5_4)), (a5_5, .inl (c5_5, 120, .inl f5_5)), (a5_6, .inl (c5_6, 120, .inl f5_6)), (o3, .inr (3, [.ref a3_0, .ref a3_1, .ref a3_2, .ref a3_3, .int v3_4, .ref o5, .ref o6])), (a3_0, .inl (c3_0, 12, .inl f3_0)), (o4, .inr (4, [.int v4_0, .int v4_1, .ref a4_2, .ref a4_3, .ref a4_4, .ref a4_5, .ref a4_6, .ref o5, .ref o3]))] [(c7_15, .int), (c5_0, .int), (c5_1, .int), (c5_2, .int), (c5_3, .int), (c5_4, .int), (c5_5, .int), (c5_6, .int), (c3_0, .boolean)] s H locs := h
  have hw_1 : r_1 = if 0 ≤ p0.toInt ∧ p0.toInt < 12 then 1 else 0 := by first | exact hw_1 | (simp only [Int32.toInt_toInt64] at hw_1; exact hw_1)
  refine W.eq (g2 := F0 m 4 ls [.int r_1]) rfl ?_
  refine lv_if_ne (tgt := 14) hx hb dX7_act_4 (by decide) (fun c_2 => ?_) (fun c_2 => ?_)
  · skip
    have b_2 := kb1 hw_1 c_2
    have hl5 := IL_at hL5 b_2
    refine lv_iload_n hx hb dX7_act_14 rfl (lv_at hl 2 rfl) ?_
    refine lv_iload_n hx hb dX7_act_15 rfl (lv_at hl 3 rfl) ?_
    refine lv_iload hx hb dX7_act_16 (lv_at hl 4 rfl) ?_
    refine lv_iload hx hb dX7_act_18 (lv_at hl 5 rfl) ?_
    refine kc_i (wc := []) (wr := [(o7, .inr (7, [.ref o2, .ref o5, .ref o3, .ref o4, .ref o1, .ref o0, .ref a7_6, .ref a7_7, .int v7_8, .int v7_9, .int v7_10, .ref a7_11, .int v7_12, .ref a7_13, .int v7_14, .ref a7_15])), (a7_15, .inl (c7_15, 8, .inl f7_15)), (o5, .inr (5, [.ref a5_0, .ref a5_1, .ref a5_2, .ref a5_3, .ref a5_4, .ref a5_5, .ref a5_6])), (a5_0, .inl (c5_0, 12, .inl f5_0)), (a5_1, .inl (c5_1, 120, .inl f5_1)), (a5_2, .inl (c5_2, 120, .inl f5_2)), (a5_3, .inl (c5_3, 120, .inl f5_3)), (a5_4, .inl (c5_4, 120, .inl f5_4)), (a5_5, .inl (c5_5, 120, .inl f5_5)), (a5_6, .inl (c5_6, 120, .inl f5_6)), (o3, .inr (3, [.ref a3_0, .ref a3_1, .ref a3_2, .ref a3_3, .int v3_4, .ref o5, .ref o6])), (a3_0, .inl (c3_0, 12, .inl f3_0)), (o4, .inr (4, [.int v4_0, .int v4_1, .ref a4_2, .ref a4_3, .ref a4_4, .ref a4_5, .ref a4_6, .ref o5, .ref o3]))]) h (va_runS (As := [.int p1, .int p2, .int p3, .int p4]) (rest := []) E (c_X7_isAct l dC dI _ (p0 := p1) (p1 := p2) (p2 := p3) (p3 := p4)  ) (va_cwS 4 E.2.2.2.2 gX7_act_X7_isAct rfl rfl rfl (by decide +kernel) ⟨Nat.le_of_ble_eq_true rfl, Nat.le_of_ble_eq_true rfl⟩) (kPreS h KAll.blind (KAll.call hX h [] rfl) [] [] (by decide) rfl rfl) rfl rfl hl.1 rfl (lv_room (Nat.le_of_ble_eq_true rfl)) dX7_act_20 ⟨Nat.le_of_ble_eq_true rfl, Nat.le_of_ble_eq_true rfl⟩) [] [0, 1, 2, 3, 4, 5, 6, 7, 8, 9, 10, 11, 12] rfl rfl (by decide) (by decide) (fun r_3 u_3 H locs hw_3 h => ?_)
    have h : KS (dC, dI) A [(o7, .inr (7, [.ref o2, .ref o5, .ref o3, .ref o4, .ref o1, .ref o0, .ref a7_6, .ref a7_7, .int v7_8, .int v7_9, .int v7_10, .ref a7_11, .int v7_12, .ref a7_13, .int v7_14, .ref a7_15])), (a7_15, .inl (c7_15, 8, .inl f7_15)), (o5, .inr (5, [.ref a5_0, .ref a5_1, .ref a5_2, .ref a5_3, .ref a5_4, .ref a5_5, .ref a5_6])), (a5_0, .inl (c5_0, 12, .inl f5_0)), (a5_1, .inl (c5_1, 120, .inl f5_1)), (a5_2, .inl (c5_2, 120, .inl f5_2)), (a5_3, .inl (c5_3, 120, .inl f5_3)), (a5_4, .inl (c5_4, 120, .inl f5_4)), (a5_5, .inl (c5_5, 120, .inl f5_5)), (a5_6, .inl (c5_6, 120, .inl f5_6)), (o3, .inr (3, [.ref a3_0, .ref a3_1, .ref a3_2, .ref a3_3, .int v3_4, .ref o5, .ref o6])), (a3_0, .inl (c3_0, 12, .inl f3_0)), (o4, .inr (4, [.int v4_0, .int v4_1, .ref a4_2, .ref a4_3, .ref a4_4, .ref a4_5, .ref a4_6, .ref o5, .ref o3]))] [(c7_15, .int), (c5_0, .int), (c5_1, .int), (c5_2, .int), (c5_3, .int), (c5_4, .int), (c5_5, .int), (c5_6, .int), (c3_0, .boolean)] s H locs := h
    have hw_3 : r_3 = if kActOK p1 p2 p3 p4 = true then 1 else 0 := by first | exact hw_3 | (simp only [Int32.toInt_toInt64] at hw_3; exact hw_3)
    refine W.eq (g2 := F0 m 23 ls [.int r_3]) rfl ?_
    refine lv_if_ne (tgt := 33) hx hb dX7_act_23 (by decide) (fun c_4 => ?_) (fun c_4 => ?_)
    · skip
      have b_4 := kb1 hw_3 c_4
      have hka : 0 ≤ p1.toInt ∧ p1.toInt < 11 := by have z := b_4; simp only [kActOK, decide_eq_true_eq] at z; omega
      have hok := b_4
      refine lv_aload_n hx hb dX7_act_33 rfl (lv_at hl 0 rfl) ?_
      refine k_get (v := .ref o5) E h (fun w h => List.mem_cons_of_mem _ (List.mem_append_left _ (List.mem_append_left _ (List.mem_append_left _ (List.mem_append_right _ h))))) 0 rfl rfl 1 (by decide) (List.mem_of_getElem? (i := 1) rfl) rfl dX7_act_34 ?_
      refine k_get (v := .ref a5_0) E h (fun w h => List.mem_cons_of_mem _ (List.mem_append_left _ (List.mem_append_left _ (List.mem_append_right _ h)))) 2 rfl rfl 0 (by decide) (List.mem_of_getElem? (i := 2) rfl) rfl dX7_act_37 ?_
      refine lv_iload_n hx hb dX7_act_40 rfl (lv_at hl 1 rfl) ?_
      refine k_iald (v := f5_0 p0.toNatClampNeg) E h 3 1 rfl rfl (vp_in_iff.mpr (by omega)) rfl dX7_act_41 ?_
      refine lv_bipush (v := 10) hx hb dX7_act_42 (by decide) ?_
      refine lv_icmp_lt (tgt := 54) hx hb dX7_act_44 (by decide) (fun c_5 => ?_) (fun c_5 => ?_)
      · skip
        have i_5 : (f5_0 p0.toNatClampNeg).toInt < 10 := (fa_lt _ _).mp c_5
        refine lv_aload_n hx hb dX7_act_54 rfl (lv_at hl 0 rfl) ?_
        refine k_get (v := .ref o5) E h (fun w h => List.mem_cons_of_mem _ (List.mem_append_left _ (List.mem_append_left _ (List.mem_append_left _ (List.mem_append_right _ h))))) 0 rfl rfl 1 (by decide) (List.mem_of_getElem? (i := 1) rfl) rfl dX7_act_55 ?_
        refine lv_iload_n hx hb dX7_act_58 rfl (lv_at hl 1 rfl) ?_
        refine lv_iload_n hx hb dX7_act_59 rfl (lv_at hl 2 rfl) ?_
        refine lv_iload_n hx hb dX7_act_60 rfl (lv_at hl 3 rfl) ?_
        refine lv_iload hx hb dX7_act_61 (lv_at hl 4 rfl) ?_
        refine lv_iload hx hb dX7_act_63 (lv_at hl 5 rfl) ?_
        refine kc_v (wc := [(o5, .inr (5, [.ref a5_0, .ref a5_1, .ref a5_2, .ref a5_3, .ref a5_4, .ref a5_5, .ref a5_6])), (a5_0, .inl (c5_0, 12, .inl f5_0)), (a5_1, .inl (c5_1, 120, .inl f5_1)), (a5_2, .inl (c5_2, 120, .inl f5_2)), (a5_3, .inl (c5_3, 120, .inl f5_3)), (a5_4, .inl (c5_4, 120, .inl f5_4)), (a5_5, .inl (c5_5, 120, .inl f5_5)), (a5_6, .inl (c5_6, 120, .inl f5_6))]) (wr := [(o7, .inr (7, [.ref o2, .ref o5, .ref o3, .ref o4, .ref o1, .ref o0, .ref a7_6, .ref a7_7, .int v7_8, .int v7_9, .int v7_10, .ref a7_11, .int v7_12, .ref a7_13, .int v7_14, .ref a7_15])), (a7_15, .inl (c7_15, 8, .inl f7_15)), (o3, .inr (3, [.ref a3_0, .ref a3_1, .ref a3_2, .ref a3_3, .int v3_4, .ref o5, .ref o6])), (a3_0, .inl (c3_0, 12, .inl f3_0)), (o4, .inr (4, [.int v4_0, .int v4_1, .ref a4_2, .ref a4_3, .ref a4_4, .ref a4_5, .ref a4_6, .ref o5, .ref o3]))]) h (va_runV (As := [.int p0, .int p1, .int p2, .int p3, .int p4]) (rest := []) E (c_X5_add l dC dI _ (o5 := o5) (a5_0 := a5_0) (a5_1 := a5_1) (a5_2 := a5_2) (a5_3 := a5_3) (a5_4 := a5_4) (a5_5 := a5_5) (a5_6 := a5_6) (c5_0 := c5_0) (f5_0 := f5_0) (c5_1 := c5_1) (f5_1 := f5_1) (c5_2 := c5_2) (f5_2 := f5_2) (c5_3 := c5_3) (f5_3 := f5_3) (c5_4 := c5_4) (f5_4 := f5_4) (c5_5 := c5_5) (f5_5 := f5_5) (c5_6 := c5_6) (f5_6 := f5_6) (p0 := p0) (p1 := p1) (p2 := p2) (p3 := p3) (p4 := p4)  (hR := hR) (hok := hok) (hp := (by first | decide | omega)) (hk := (by first | decide | omega)) (hv := (by first | decide | omega))) (cwV 5 E.2.2.2.2 gX7_act_X5_add rfl rfl rfl (by decide +kernel) ⟨Nat.le_of_ble_eq_true rfl, Nat.le_of_ble_eq_true rfl⟩) (kPreV (q0 := 2) (ci := 5) h KAll.blind (KAll.call hX h [2, 3, 4, 5, 6, 7, 8, 9] rfl) [2, 3, 4, 5, 6, 7, 8, 9] [1, 2, 3, 4, 5, 6, 7] (by decide) rfl rfl rfl rfl) rfl rfl hl.1 rfl (lv_room (Nat.le_of_ble_eq_true rfl)) dX7_act_65 ⟨Nat.le_of_ble_eq_true rfl, Nat.le_of_ble_eq_true rfl⟩) [2, 3, 4, 5, 6, 7, 8, 9] [0, 1, 10, 11, 12] rfl rfl (by decide) (by decide) (fun u_6 H locs hw_6 h => ?_)
        obtain ⟨z_7, z_8, z_9, z_10, z_11, z_12⟩ := u_6
        have h : KS (dC, dI) A [(o7, .inr (7, [.ref o2, .ref o5, .ref o3, .ref o4, .ref o1, .ref o0, .ref a7_6, .ref a7_7, .int v7_8, .int v7_9, .int v7_10, .ref a7_11, .int v7_12, .ref a7_13, .int v7_14, .ref a7_15])), (a7_15, .inl (c7_15, 8, .inl f7_15)), (o3, .inr (3, [.ref a3_0, .ref a3_1, .ref a3_2, .ref a3_3, .int v3_4, .ref o5, .ref o6])), (a3_0, .inl (c3_0, 12, .inl f3_0)), (o4, .inr (4, [.int v4_0, .int v4_1, .ref a4_2, .ref a4_3, .ref a4_4, .ref a4_5, .ref a4_6, .ref o5, .ref o3])), (o5, .inr (5, [.ref a5_0, .ref a5_1, .ref a5_2, .ref a5_3, .ref a5_4, .ref a5_5, .ref a5_6])), (a5_0, .inl (c5_0, 12, .inl (upd f5_0 p0.toNatClampNeg (f5_0 p0.toNatClampNeg + 1)))), (a5_1, .inl (c5_1, 120, .inl z_7)), (a5_2, .inl (c5_2, 120, .inl z_8)), (a5_3, .inl (c5_3, 120, .inl z_9)), (a5_4, .inl (c5_4, 120, .inl z_10)), (a5_5, .inl (c5_5, 120, .inl z_11)), (a5_6, .inl (c5_6, 120, .inl z_12))] [(c7_15, .int), (c5_0, .int), (c5_1, .int), (c5_2, .int), (c5_3, .int), (c5_4, .int), (c5_5, .int), (c5_6, .int), (c3_0, .boolean)] s H locs := h
        have hw_6 : IR z_7 z_8 z_9 z_10 := by first | exact hw_6 | (simp only [Int32.toInt_toInt64] at hw_6; exact hw_6)
        have hR := hw_6
        refine W.eq (g2 := F0 m 68 ls []) rfl ?_
        refine lv_aload_n hx hb dX7_act_68 rfl (lv_at hl 0 rfl) ?_
        refine lv_iload_n hx hb dX7_act_69 rfl (lv_at hl 1 rfl) ?_
        refine kc_v (wc := [(o7, .inr (7, [.ref o2, .ref o5, .ref o3, .ref o4, .ref o1, .ref o0, .ref a7_6, .ref a7_7, .int v7_8, .int v7_9, .int v7_10, .ref a7_11, .int v7_12, .ref a7_13, .int v7_14, .ref a7_15])), (o3, .inr (3, [.ref a3_0, .ref a3_1, .ref a3_2, .ref a3_3, .int v3_4, .ref o5, .ref o6])), (a3_0, .inl (c3_0, 12, .inl f3_0)), (o4, .inr (4, [.int v4_0, .int v4_1, .ref a4_2, .ref a4_3, .ref a4_4, .ref a4_5, .ref a4_6, .ref o5, .ref o3]))]) (wr := [(a7_15, .inl (c7_15, 8, .inl f7_15)), (o5, .inr (5, [.ref a5_0, .ref a5_1, .ref a5_2, .ref a5_3, .ref a5_4, .ref a5_5, .ref a5_6])), (a5_0, .inl (c5_0, 12, .inl (upd f5_0 p0.toNatClampNeg (f5_0 p0.toNatClampNeg + 1)))), (a5_1, .inl (c5_1, 120, .inl z_7)), (a5_2, .inl (c5_2, 120, .inl z_8)), (a5_3, .inl (c5_3, 120, .inl z_9)), (a5_4, .inl (c5_4, 120, .inl z_10)), (a5_5, .inl (c5_5, 120, .inl z_11)), (a5_6, .inl (c5_6, 120, .inl z_12))]) h (va_runV (As := [.int p0]) (rest := []) E (c_X7_takeAwayPackedOf l dC dI _ (o7 := o7) (o2 := o2) (o5 := o5) (o3 := o3) (o4 := o4) (o1 := o1) (o0 := o0) (a7_6 := a7_6) (a7_7 := a7_7) (v7_8 := v7_8) (v7_9 := v7_9) (v7_10 := v7_10) (a7_11 := a7_11) (v7_12 := v7_12) (a7_13 := a7_13) (v7_14 := v7_14) (a7_15 := a7_15) (a3_0 := a3_0) (a3_1 := a3_1) (a3_2 := a3_2) (a3_3 := a3_3) (v3_4 := v3_4) (o6 := o6) (c3_0 := c3_0) (f3_0 := f3_0) (v4_0 := v4_0) (v4_1 := v4_1) (a4_2 := a4_2) (a4_3 := a4_3) (a4_4 := a4_4) (a4_5 := a4_5) (a4_6 := a4_6) (p0 := p0)  (hp := (by first | decide | omega))) (cwV 1 E.2.2.2.2 gX7_act_X7_takeAwayPackedOf rfl rfl rfl (by decide +kernel) ⟨Nat.le_of_ble_eq_true rfl, Nat.le_of_ble_eq_true rfl⟩) (kPreV (q0 := 0) (ci := 7) h KX_true (fun _ _ _ => trivial) [0, 2, 3, 4] [8] (by decide) rfl rfl rfl rfl) rfl rfl hl.1 rfl (lv_room (Nat.le_of_ble_eq_true rfl)) dX7_act_70 ⟨Nat.le_of_ble_eq_true rfl, Nat.le_of_ble_eq_true rfl⟩) [0, 2, 3, 4] [1, 5, 6, 7, 8, 9, 10, 11, 12] rfl rfl (by decide) (by decide) (fun u_13 H locs hw_13 h => ?_)
        have h : KS (dC, dI) A [(a7_15, .inl (c7_15, 8, .inl f7_15)), (o5, .inr (5, [.ref a5_0, .ref a5_1, .ref a5_2, .ref a5_3, .ref a5_4, .ref a5_5, .ref a5_6])), (a5_0, .inl (c5_0, 12, .inl (upd f5_0 p0.toNatClampNeg (f5_0 p0.toNatClampNeg + 1)))), (a5_1, .inl (c5_1, 120, .inl z_7)), (a5_2, .inl (c5_2, 120, .inl z_8)), (a5_3, .inl (c5_3, 120, .inl z_9)), (a5_4, .inl (c5_4, 120, .inl z_10)), (a5_5, .inl (c5_5, 120, .inl z_11)), (a5_6, .inl (c5_6, 120, .inl z_12)), (o7, .inr (7, [.ref o2, .ref o5, .ref o3, .ref o4, .ref o1, .ref o0, .ref a7_6, .ref a7_7, .int v7_8, .int v7_9, .int v7_10, .ref a7_11, .int v7_12, .ref a7_13, .int v7_14, .ref a7_15])), (o3, .inr (3, [.ref a3_0, .ref a3_1, .ref a3_2, .ref a3_3, .int v3_4, .ref o5, .ref o6])), (a3_0, .inl (c3_0, 12, .inl (upd f3_0 p0.toNatClampNeg 0))), (o4, .inr (4, [.int 0, .int v4_1, .ref a4_2, .ref a4_3, .ref a4_4, .ref a4_5, .ref a4_6, .ref o5, .ref o3]))] [(c7_15, .int), (c5_0, .int), (c5_1, .int), (c5_2, .int), (c5_3, .int), (c5_4, .int), (c5_5, .int), (c5_6, .int), (c3_0, .boolean)] s H locs := h
        refine W.eq (g2 := F0 m 73 ls []) rfl ?_
        refine lv_aload_n hx hb dX7_act_73 rfl (lv_at hl 0 rfl) ?_
        refine k_get (v := .ref o5) E h (fun w h => List.mem_cons_of_mem _ (List.mem_append_left _ (List.mem_append_left _ (List.mem_append_left _ (List.mem_append_right _ h))))) 9 rfl rfl 1 (by decide) (List.mem_of_getElem? (i := 1) rfl) rfl dX7_act_74 ?_
        refine k_get (v := .ref a5_0) E h (fun w h => List.mem_cons_of_mem _ (List.mem_append_left _ (List.mem_append_left _ (List.mem_append_right _ h)))) 1 rfl rfl 0 (by decide) (List.mem_of_getElem? (i := 2) rfl) rfl dX7_act_77 ?_
        refine lv_iload_n hx hb dX7_act_80 rfl (lv_at hl 1 rfl) ?_
        refine k_iald (v := f5_0 p0.toNatClampNeg + 1) E h 2 1 rfl rfl (vp_in_iff.mpr (by omega)) pk_us dX7_act_81 ?_
        have hP9 := h.2.1.sub [9, 0, 1, 2, 3, 4, 5, 6, 7, 8, 10, 11, 12] rfl
        have hD9 := h.2.2.1.sub (ws' := [(o7, .inr (7, [.ref o2, .ref o5, .ref o3, .ref o4, .ref o1, .ref o0, .ref a7_6, .ref a7_7, .int v7_8, .int v7_9, .int v7_10, .ref a7_11, .int v7_12, .ref a7_13, .int v7_14, .ref a7_15])), (a7_15, .inl (c7_15, 8, .inl f7_15)), (o5, .inr (5, [.ref a5_0, .ref a5_1, .ref a5_2, .ref a5_3, .ref a5_4, .ref a5_5, .ref a5_6])), (a5_0, .inl (c5_0, 12, .inl (upd f5_0 p0.toNatClampNeg (f5_0 p0.toNatClampNeg + 1)))), (a5_1, .inl (c5_1, 120, .inl z_7)), (a5_2, .inl (c5_2, 120, .inl z_8)), (a5_3, .inl (c5_3, 120, .inl z_9)), (a5_4, .inl (c5_4, 120, .inl z_10)), (a5_5, .inl (c5_5, 120, .inl z_11)), (a5_6, .inl (c5_6, 120, .inl z_12)), (o3, .inr (3, [.ref a3_0, .ref a3_1, .ref a3_2, .ref a3_3, .int v3_4, .ref o5, .ref o6])), (a3_0, .inl (c3_0, 12, .inl (upd f3_0 p0.toNatClampNeg 0))), (o4, .inr (4, [.int 0, .int v4_1, .ref a4_2, .ref a4_3, .ref a4_4, .ref a4_5, .ref a4_6, .ref o5, .ref o3]))]) [9, 0, 1, 2, 3, 4, 5, 6, 7, 8, 10, 11, 12] (by decide) rfl
        exact W.iret (v := f5_0 p0.toNatClampNeg + 1) hx hb hr (fun t ht hW => ⟨⟨f5_0 p0.toNatClampNeg + 1, (f7_15, upd f5_0 p0.toNatClampNeg (f5_0 p0.toNatClampNeg + 1), z_7, z_8, z_9, z_10, z_11, z_12, upd f3_0 p0.toNatClampNeg 0, 0), rfl, ⟨(by (repeat' split) <;> first | rfl | contradiction | omega), (by first | exact (if_pos ⟨by omega, hok, by omega⟩).symm | exact (if_neg (fun z => by first | omega | exact absurd z.2.1 (by assumption))).symm), hR⟩, (by rw [ht]; exact hP9), hD9⟩, h.2.2.2.1.F ht⟩) h.2.2.2.1.2.2 dX7_act_82 hlocks
      · skip
        have i_5 : ¬ (f5_0 p0.toNatClampNeg).toInt < 10 := fun h9 => c_5 ((fa_lt _ _).mpr h9)
        refine lv_aload_n hx hb dX7_act_47 rfl (lv_at hl 0 rfl) ?_
        refine lv_bipush (v := -7) hx hb dX7_act_48 (by decide) ?_
        refine kc_i (wc := [(o7, .inr (7, [.ref o2, .ref o5, .ref o3, .ref o4, .ref o1, .ref o0, .ref a7_6, .ref a7_7, .int v7_8, .int v7_9, .int v7_10, .ref a7_11, .int v7_12, .ref a7_13, .int v7_14, .ref a7_15])), (a7_15, .inl (c7_15, 8, .inl f7_15))]) (wr := [(o5, .inr (5, [.ref a5_0, .ref a5_1, .ref a5_2, .ref a5_3, .ref a5_4, .ref a5_5, .ref a5_6])), (a5_0, .inl (c5_0, 12, .inl f5_0)), (a5_1, .inl (c5_1, 120, .inl f5_1)), (a5_2, .inl (c5_2, 120, .inl f5_2)), (a5_3, .inl (c5_3, 120, .inl f5_3)), (a5_4, .inl (c5_4, 120, .inl f5_4)), (a5_5, .inl (c5_5, 120, .inl f5_5)), (a5_6, .inl (c5_6, 120, .inl f5_6)), (o3, .inr (3, [.ref a3_0, .ref a3_1, .ref a3_2, .ref a3_3, .int v3_4, .ref o5, .ref o6])), (a3_0, .inl (c3_0, 12, .inl f3_0)), (o4, .inr (4, [.int v4_0, .int v4_1, .ref a4_2, .ref a4_3, .ref a4_4, .ref a4_5, .ref a4_6, .ref o5, .ref o3]))]) h (va_runV (As := [.int (-7)]) (rest := []) E (c_X7_refuse l dC dI _ (o7 := o7) (o2 := o2) (o5 := o5) (o3 := o3) (o4 := o4) (o1 := o1) (o0 := o0) (a7_6 := a7_6) (a7_7 := a7_7) (v7_8 := v7_8) (v7_9 := v7_9) (v7_10 := v7_10) (a7_11 := a7_11) (v7_12 := v7_12) (a7_13 := a7_13) (v7_14 := v7_14) (a7_15 := a7_15) (c7_15 := c7_15) (f7_15 := f7_15) (p0 := (-7))  (hp := (by first | decide | omega))) (cwV 1 E.2.2.2.2 gX7_act_X7_refuse rfl rfl rfl (by decide +kernel) ⟨Nat.le_of_ble_eq_true rfl, Nat.le_of_ble_eq_true rfl⟩) (kPreV (q0 := 0) (ci := 7) h KX_true (fun _ _ _ => trivial) [0, 1] [0] (by decide) rfl rfl rfl rfl) rfl rfl hl.1 rfl (lv_room (Nat.le_of_ble_eq_true rfl)) dX7_act_50 ⟨Nat.le_of_ble_eq_true rfl, Nat.le_of_ble_eq_true rfl⟩) [0, 1] [2, 3, 4, 5, 6, 7, 8, 9, 10, 11, 12] rfl rfl (by decide) (by decide) (fun r_14 u_14 H locs hw_14 h => ?_)
        have h : KS (dC, dI) A [(o5, .inr (5, [.ref a5_0, .ref a5_1, .ref a5_2, .ref a5_3, .ref a5_4, .ref a5_5, .ref a5_6])), (a5_0, .inl (c5_0, 12, .inl f5_0)), (a5_1, .inl (c5_1, 120, .inl f5_1)), (a5_2, .inl (c5_2, 120, .inl f5_2)), (a5_3, .inl (c5_3, 120, .inl f5_3)), (a5_4, .inl (c5_4, 120, .inl f5_4)), (a5_5, .inl (c5_5, 120, .inl f5_5)), (a5_6, .inl (c5_6, 120, .inl f5_6)), (o3, .inr (3, [.ref a3_0, .ref a3_1, .ref a3_2, .ref a3_3, .int v3_4, .ref o5, .ref o6])), (a3_0, .inl (c3_0, 12, .inl f3_0)), (o4, .inr (4, [.int v4_0, .int v4_1, .ref a4_2, .ref a4_3, .ref a4_4, .ref a4_5, .ref a4_6, .ref o5, .ref o3])), (o7, .inr (7, [.ref o2, .ref o5, .ref o3, .ref o4, .ref o1, .ref o0, .ref a7_6, .ref a7_7, .int v7_8, .int v7_9, .int v7_10, .ref a7_11, .int v7_12, .ref a7_13, .int v7_14, .ref a7_15])), (a7_15, .inl (c7_15, 8, .inl (upd f7_15 (-(-7 : Int32)).toNatClampNeg (f7_15 (-(-7 : Int32)).toNatClampNeg + 1))))] [(c7_15, .int), (c5_0, .int), (c5_1, .int), (c5_2, .int), (c5_3, .int), (c5_4, .int), (c5_5, .int), (c5_6, .int), (c3_0, .boolean)] s H locs := h
        have hw_14 : r_14 = (-7 : Int32) := by first | exact hw_14 | (simp only [Int32.toInt_toInt64] at hw_14; exact hw_14)
        refine k_topi (y := (-7)) (hw_14) ?_
        refine W.eq (g2 := F0 m 53 ls [.int (-7)]) rfl ?_
        have hP9 := h.2.1.sub [11, 12, 0, 1, 2, 3, 4, 5, 6, 7, 8, 9, 10] rfl
        have hD9 := h.2.2.1.sub (ws' := [(o7, .inr (7, [.ref o2, .ref o5, .ref o3, .ref o4, .ref o1, .ref o0, .ref a7_6, .ref a7_7, .int v7_8, .int v7_9, .int v7_10, .ref a7_11, .int v7_12, .ref a7_13, .int v7_14, .ref a7_15])), (a7_15, .inl (c7_15, 8, .inl (upd f7_15 (-(-7 : Int32)).toNatClampNeg (f7_15 (-(-7 : Int32)).toNatClampNeg + 1)))), (o5, .inr (5, [.ref a5_0, .ref a5_1, .ref a5_2, .ref a5_3, .ref a5_4, .ref a5_5, .ref a5_6])), (a5_0, .inl (c5_0, 12, .inl f5_0)), (a5_1, .inl (c5_1, 120, .inl f5_1)), (a5_2, .inl (c5_2, 120, .inl f5_2)), (a5_3, .inl (c5_3, 120, .inl f5_3)), (a5_4, .inl (c5_4, 120, .inl f5_4)), (a5_5, .inl (c5_5, 120, .inl f5_5)), (a5_6, .inl (c5_6, 120, .inl f5_6)), (o3, .inr (3, [.ref a3_0, .ref a3_1, .ref a3_2, .ref a3_3, .int v3_4, .ref o5, .ref o6])), (a3_0, .inl (c3_0, 12, .inl f3_0)), (o4, .inr (4, [.int v4_0, .int v4_1, .ref a4_2, .ref a4_3, .ref a4_4, .ref a4_5, .ref a4_6, .ref o5, .ref o3]))]) [11, 12, 0, 1, 2, 3, 4, 5, 6, 7, 8, 9, 10] (by decide) rfl
        exact W.iret (v := (-7)) hx hb hr (fun t ht hW => ⟨⟨(-7), (upd f7_15 (-(-7 : Int32)).toNatClampNeg (f7_15 (-(-7 : Int32)).toNatClampNeg + 1), f5_0, f5_1, f5_2, f5_3, f5_4, f5_5, f5_6, f3_0, v4_0), rfl, ⟨(by (repeat' split) <;> first | rfl | contradiction | omega), (by first | exact (if_pos ⟨by omega, hok, by omega⟩).symm | exact (if_neg (fun z => by first | omega | exact absurd z.2.1 (by assumption))).symm), hR⟩, (by rw [ht]; exact hP9), hD9⟩, h.2.2.2.1.F ht⟩) h.2.2.2.1.2.2 dX7_act_53 hlocks
    · skip
      have b_4 := kb0 hw_3 c_4
      refine lv_aload_n hx hb dX7_act_26 rfl (lv_at hl 0 rfl) ?_
      refine lv_bipush (v := -6) hx hb dX7_act_27 (by decide) ?_
      refine kc_i (wc := [(o7, .inr (7, [.ref o2, .ref o5, .ref o3, .ref o4, .ref o1, .ref o0, .ref a7_6, .ref a7_7, .int v7_8, .int v7_9, .int v7_10, .ref a7_11, .int v7_12, .ref a7_13, .int v7_14, .ref a7_15])), (a7_15, .inl (c7_15, 8, .inl f7_15))]) (wr := [(o5, .inr (5, [.ref a5_0, .ref a5_1, .ref a5_2, .ref a5_3, .ref a5_4, .ref a5_5, .ref a5_6])), (a5_0, .inl (c5_0, 12, .inl f5_0)), (a5_1, .inl (c5_1, 120, .inl f5_1)), (a5_2, .inl (c5_2, 120, .inl f5_2)), (a5_3, .inl (c5_3, 120, .inl f5_3)), (a5_4, .inl (c5_4, 120, .inl f5_4)), (a5_5, .inl (c5_5, 120, .inl f5_5)), (a5_6, .inl (c5_6, 120, .inl f5_6)), (o3, .inr (3, [.ref a3_0, .ref a3_1, .ref a3_2, .ref a3_3, .int v3_4, .ref o5, .ref o6])), (a3_0, .inl (c3_0, 12, .inl f3_0)), (o4, .inr (4, [.int v4_0, .int v4_1, .ref a4_2, .ref a4_3, .ref a4_4, .ref a4_5, .ref a4_6, .ref o5, .ref o3]))]) h (va_runV (As := [.int (-6)]) (rest := []) E (c_X7_refuse l dC dI _ (o7 := o7) (o2 := o2) (o5 := o5) (o3 := o3) (o4 := o4) (o1 := o1) (o0 := o0) (a7_6 := a7_6) (a7_7 := a7_7) (v7_8 := v7_8) (v7_9 := v7_9) (v7_10 := v7_10) (a7_11 := a7_11) (v7_12 := v7_12) (a7_13 := a7_13) (v7_14 := v7_14) (a7_15 := a7_15) (c7_15 := c7_15) (f7_15 := f7_15) (p0 := (-6))  (hp := (by first | decide | omega))) (cwV 1 E.2.2.2.2 gX7_act_X7_refuse rfl rfl rfl (by decide +kernel) ⟨Nat.le_of_ble_eq_true rfl, Nat.le_of_ble_eq_true rfl⟩) (kPreV (q0 := 0) (ci := 7) h KX_true (fun _ _ _ => trivial) [0, 1] [0] (by decide) rfl rfl rfl rfl) rfl rfl hl.1 rfl (lv_room (Nat.le_of_ble_eq_true rfl)) dX7_act_29 ⟨Nat.le_of_ble_eq_true rfl, Nat.le_of_ble_eq_true rfl⟩) [0, 1] [2, 3, 4, 5, 6, 7, 8, 9, 10, 11, 12] rfl rfl (by decide) (by decide) (fun r_15 u_15 H locs hw_15 h => ?_)
      have h : KS (dC, dI) A [(o5, .inr (5, [.ref a5_0, .ref a5_1, .ref a5_2, .ref a5_3, .ref a5_4, .ref a5_5, .ref a5_6])), (a5_0, .inl (c5_0, 12, .inl f5_0)), (a5_1, .inl (c5_1, 120, .inl f5_1)), (a5_2, .inl (c5_2, 120, .inl f5_2)), (a5_3, .inl (c5_3, 120, .inl f5_3)), (a5_4, .inl (c5_4, 120, .inl f5_4)), (a5_5, .inl (c5_5, 120, .inl f5_5)), (a5_6, .inl (c5_6, 120, .inl f5_6)), (o3, .inr (3, [.ref a3_0, .ref a3_1, .ref a3_2, .ref a3_3, .int v3_4, .ref o5, .ref o6])), (a3_0, .inl (c3_0, 12, .inl f3_0)), (o4, .inr (4, [.int v4_0, .int v4_1, .ref a4_2, .ref a4_3, .ref a4_4, .ref a4_5, .ref a4_6, .ref o5, .ref o3])), (o7, .inr (7, [.ref o2, .ref o5, .ref o3, .ref o4, .ref o1, .ref o0, .ref a7_6, .ref a7_7, .int v7_8, .int v7_9, .int v7_10, .ref a7_11, .int v7_12, .ref a7_13, .int v7_14, .ref a7_15])), (a7_15, .inl (c7_15, 8, .inl (upd f7_15 (-(-6 : Int32)).toNatClampNeg (f7_15 (-(-6 : Int32)).toNatClampNeg + 1))))] [(c7_15, .int), (c5_0, .int), (c5_1, .int), (c5_2, .int), (c5_3, .int), (c5_4, .int), (c5_5, .int), (c5_6, .int), (c3_0, .boolean)] s H locs := h
      have hw_15 : r_15 = (-6 : Int32) := by first | exact hw_15 | (simp only [Int32.toInt_toInt64] at hw_15; exact hw_15)
      refine k_topi (y := (-6)) (hw_15) ?_
      refine W.eq (g2 := F0 m 32 ls [.int (-6)]) rfl ?_
      have hP9 := h.2.1.sub [11, 12, 0, 1, 2, 3, 4, 5, 6, 7, 8, 9, 10] rfl
      have hD9 := h.2.2.1.sub (ws' := [(o7, .inr (7, [.ref o2, .ref o5, .ref o3, .ref o4, .ref o1, .ref o0, .ref a7_6, .ref a7_7, .int v7_8, .int v7_9, .int v7_10, .ref a7_11, .int v7_12, .ref a7_13, .int v7_14, .ref a7_15])), (a7_15, .inl (c7_15, 8, .inl (upd f7_15 (-(-6 : Int32)).toNatClampNeg (f7_15 (-(-6 : Int32)).toNatClampNeg + 1)))), (o5, .inr (5, [.ref a5_0, .ref a5_1, .ref a5_2, .ref a5_3, .ref a5_4, .ref a5_5, .ref a5_6])), (a5_0, .inl (c5_0, 12, .inl f5_0)), (a5_1, .inl (c5_1, 120, .inl f5_1)), (a5_2, .inl (c5_2, 120, .inl f5_2)), (a5_3, .inl (c5_3, 120, .inl f5_3)), (a5_4, .inl (c5_4, 120, .inl f5_4)), (a5_5, .inl (c5_5, 120, .inl f5_5)), (a5_6, .inl (c5_6, 120, .inl f5_6)), (o3, .inr (3, [.ref a3_0, .ref a3_1, .ref a3_2, .ref a3_3, .int v3_4, .ref o5, .ref o6])), (a3_0, .inl (c3_0, 12, .inl f3_0)), (o4, .inr (4, [.int v4_0, .int v4_1, .ref a4_2, .ref a4_3, .ref a4_4, .ref a4_5, .ref a4_6, .ref o5, .ref o3]))]) [11, 12, 0, 1, 2, 3, 4, 5, 6, 7, 8, 9, 10] (by decide) rfl
      exact W.iret (v := (-6)) hx hb hr (fun t ht hW => ⟨⟨(-6), (upd f7_15 (-(-6 : Int32)).toNatClampNeg (f7_15 (-(-6 : Int32)).toNatClampNeg + 1), f5_0, f5_1, f5_2, f5_3, f5_4, f5_5, f5_6, f3_0, v4_0), rfl, ⟨(by (repeat' split) <;> first | rfl | contradiction | omega), (by first | exact (if_pos ⟨by omega, hok, by omega⟩).symm | exact (if_neg (fun z => by first | omega | exact absurd z.2.1 (by assumption))).symm), hR⟩, (by rw [ht]; exact hP9), hD9⟩, h.2.2.2.1.F ht⟩) h.2.2.2.1.2.2 dX7_act_32 hlocks
  · skip
    have b_2 := kb0 hw_1 c_2
    refine lv_aload_n hx hb dX7_act_7 rfl (lv_at hl 0 rfl) ?_
    refine lv_bipush (v := -3) hx hb dX7_act_8 (by decide) ?_
    refine kc_i (wc := [(o7, .inr (7, [.ref o2, .ref o5, .ref o3, .ref o4, .ref o1, .ref o0, .ref a7_6, .ref a7_7, .int v7_8, .int v7_9, .int v7_10, .ref a7_11, .int v7_12, .ref a7_13, .int v7_14, .ref a7_15])), (a7_15, .inl (c7_15, 8, .inl f7_15))]) (wr := [(o5, .inr (5, [.ref a5_0, .ref a5_1, .ref a5_2, .ref a5_3, .ref a5_4, .ref a5_5, .ref a5_6])), (a5_0, .inl (c5_0, 12, .inl f5_0)), (a5_1, .inl (c5_1, 120, .inl f5_1)), (a5_2, .inl (c5_2, 120, .inl f5_2)), (a5_3, .inl (c5_3, 120, .inl f5_3)), (a5_4, .inl (c5_4, 120, .inl f5_4)), (a5_5, .inl (c5_5, 120, .inl f5_5)), (a5_6, .inl (c5_6, 120, .inl f5_6)), (o3, .inr (3, [.ref a3_0, .ref a3_1, .ref a3_2, .ref a3_3, .int v3_4, .ref o5, .ref o6])), (a3_0, .inl (c3_0, 12, .inl f3_0)), (o4, .inr (4, [.int v4_0, .int v4_1, .ref a4_2, .ref a4_3, .ref a4_4, .ref a4_5, .ref a4_6, .ref o5, .ref o3]))]) h (va_runV (As := [.int (-3)]) (rest := []) E (c_X7_refuse l dC dI _ (o7 := o7) (o2 := o2) (o5 := o5) (o3 := o3) (o4 := o4) (o1 := o1) (o0 := o0) (a7_6 := a7_6) (a7_7 := a7_7) (v7_8 := v7_8) (v7_9 := v7_9) (v7_10 := v7_10) (a7_11 := a7_11) (v7_12 := v7_12) (a7_13 := a7_13) (v7_14 := v7_14) (a7_15 := a7_15) (c7_15 := c7_15) (f7_15 := f7_15) (p0 := (-3))  (hp := (by first | decide | omega))) (cwV 1 E.2.2.2.2 gX7_act_X7_refuse rfl rfl rfl (by decide +kernel) ⟨Nat.le_of_ble_eq_true rfl, Nat.le_of_ble_eq_true rfl⟩) (kPreV (q0 := 0) (ci := 7) h KX_true (fun _ _ _ => trivial) [0, 1] [0] (by decide) rfl rfl rfl rfl) rfl rfl hl.1 rfl (lv_room (Nat.le_of_ble_eq_true rfl)) dX7_act_10 ⟨Nat.le_of_ble_eq_true rfl, Nat.le_of_ble_eq_true rfl⟩) [0, 1] [2, 3, 4, 5, 6, 7, 8, 9, 10, 11, 12] rfl rfl (by decide) (by decide) (fun r_16 u_16 H locs hw_16 h => ?_)
    have h : KS (dC, dI) A [(o5, .inr (5, [.ref a5_0, .ref a5_1, .ref a5_2, .ref a5_3, .ref a5_4, .ref a5_5, .ref a5_6])), (a5_0, .inl (c5_0, 12, .inl f5_0)), (a5_1, .inl (c5_1, 120, .inl f5_1)), (a5_2, .inl (c5_2, 120, .inl f5_2)), (a5_3, .inl (c5_3, 120, .inl f5_3)), (a5_4, .inl (c5_4, 120, .inl f5_4)), (a5_5, .inl (c5_5, 120, .inl f5_5)), (a5_6, .inl (c5_6, 120, .inl f5_6)), (o3, .inr (3, [.ref a3_0, .ref a3_1, .ref a3_2, .ref a3_3, .int v3_4, .ref o5, .ref o6])), (a3_0, .inl (c3_0, 12, .inl f3_0)), (o4, .inr (4, [.int v4_0, .int v4_1, .ref a4_2, .ref a4_3, .ref a4_4, .ref a4_5, .ref a4_6, .ref o5, .ref o3])), (o7, .inr (7, [.ref o2, .ref o5, .ref o3, .ref o4, .ref o1, .ref o0, .ref a7_6, .ref a7_7, .int v7_8, .int v7_9, .int v7_10, .ref a7_11, .int v7_12, .ref a7_13, .int v7_14, .ref a7_15])), (a7_15, .inl (c7_15, 8, .inl (upd f7_15 (-(-3 : Int32)).toNatClampNeg (f7_15 (-(-3 : Int32)).toNatClampNeg + 1))))] [(c7_15, .int), (c5_0, .int), (c5_1, .int), (c5_2, .int), (c5_3, .int), (c5_4, .int), (c5_5, .int), (c5_6, .int), (c3_0, .boolean)] s H locs := h
    have hw_16 : r_16 = (-3 : Int32) := by first | exact hw_16 | (simp only [Int32.toInt_toInt64] at hw_16; exact hw_16)
    refine k_topi (y := (-3)) (hw_16) ?_
    refine W.eq (g2 := F0 m 13 ls [.int (-3)]) rfl ?_
    have hP9 := h.2.1.sub [11, 12, 0, 1, 2, 3, 4, 5, 6, 7, 8, 9, 10] rfl
    have hD9 := h.2.2.1.sub (ws' := [(o7, .inr (7, [.ref o2, .ref o5, .ref o3, .ref o4, .ref o1, .ref o0, .ref a7_6, .ref a7_7, .int v7_8, .int v7_9, .int v7_10, .ref a7_11, .int v7_12, .ref a7_13, .int v7_14, .ref a7_15])), (a7_15, .inl (c7_15, 8, .inl (upd f7_15 (-(-3 : Int32)).toNatClampNeg (f7_15 (-(-3 : Int32)).toNatClampNeg + 1)))), (o5, .inr (5, [.ref a5_0, .ref a5_1, .ref a5_2, .ref a5_3, .ref a5_4, .ref a5_5, .ref a5_6])), (a5_0, .inl (c5_0, 12, .inl f5_0)), (a5_1, .inl (c5_1, 120, .inl f5_1)), (a5_2, .inl (c5_2, 120, .inl f5_2)), (a5_3, .inl (c5_3, 120, .inl f5_3)), (a5_4, .inl (c5_4, 120, .inl f5_4)), (a5_5, .inl (c5_5, 120, .inl f5_5)), (a5_6, .inl (c5_6, 120, .inl f5_6)), (o3, .inr (3, [.ref a3_0, .ref a3_1, .ref a3_2, .ref a3_3, .int v3_4, .ref o5, .ref o6])), (a3_0, .inl (c3_0, 12, .inl f3_0)), (o4, .inr (4, [.int v4_0, .int v4_1, .ref a4_2, .ref a4_3, .ref a4_4, .ref a4_5, .ref a4_6, .ref o5, .ref o3]))]) [11, 12, 0, 1, 2, 3, 4, 5, 6, 7, 8, 9, 10] (by decide) rfl
    exact W.iret (v := (-3)) hx hb hr (fun t ht hW => ⟨⟨(-3), (upd f7_15 (-(-3 : Int32)).toNatClampNeg (f7_15 (-(-3 : Int32)).toNatClampNeg + 1), f5_0, f5_1, f5_2, f5_3, f5_4, f5_5, f5_6, f3_0, v4_0), rfl, ⟨(by (repeat' split) <;> first | rfl | contradiction | omega), (by first | exact (if_pos ⟨by omega, hok, by omega⟩).symm | exact (if_neg (fun z => by first | omega | exact absurd z.2.1 (by assumption))).symm), hR⟩, (by rw [ht]; exact hP9), hD9⟩, h.2.2.2.1.F ht⟩) h.2.2.2.1.2.2 dX7_act_13 hlocks
set_option maxHeartbeats 4000000 in
set_option maxRecDepth 100000 in
theorem c_X7_look (l : Launch) (dC : Nat → ClassId) (dI : Nat → Nat → Nat) (sz : Nat) (o7 : Nat) (o2 : Nat) (o5 : Nat) (o3 : Nat) (o4 : Nat) (o1 : Nat) (o0 : Nat) (a7_6 : Nat) (a7_7 : Nat) (v7_8 : Int32) (v7_9 : Int32) (v7_10 : Int32) (a7_11 : Nat) (v7_12 : Int32) (a7_13 : Nat) (v7_14 : Int32) (a7_15 : Nat) (c7_15 : ClassId) (f7_15 : Nat → Int32) (a5_0 : Nat) (a5_1 : Nat) (a5_2 : Nat) (a5_3 : Nat) (a5_4 : Nat) (a5_5 : Nat) (a5_6 : Nat) (c5_0 : ClassId) (f5_0 : Nat → Int32) (c5_1 : ClassId) (f5_1 : Nat → Int32) (c5_2 : ClassId) (f5_2 : Nat → Int32) (c5_3 : ClassId) (f5_3 : Nat → Int32) (c5_4 : ClassId) (f5_4 : Nat → Int32) (p0 : Int32) (p1 : Int32) (p2 : Int32) (hL5 : IL f5_0) (hK : IK f5_1) : Met l yX7_look wsX7_look ({ frames := 2, cells := 0, slots := 0, locals := 42 } : Room) (va_Pc [.ref o7, .int p0, .int p1, .int p2] (KPre (dC, dI) [(o7, .inr (7, [.ref o2, .ref o5, .ref o3, .ref o4, .ref o1, .ref o0, .ref a7_6, .ref a7_7, .int v7_8, .int v7_9, .int v7_10, .ref a7_11, .int v7_12, .ref a7_13, .int v7_14, .ref a7_15])), (a7_15, .inl (c7_15, 8, .inl f7_15)), (o5, .inr (5, [.ref a5_0, .ref a5_1, .ref a5_2, .ref a5_3, .ref a5_4, .ref a5_5, .ref a5_6])), (a5_0, .inl (c5_0, 12, .inl f5_0)), (a5_1, .inl (c5_1, 120, .inl f5_1)), (a5_2, .inl (c5_2, 120, .inl f5_2)), (a5_3, .inl (c5_3, 120, .inl f5_3)), (a5_4, .inl (c5_4, 120, .inl f5_4))] [(c7_15, .int), (c5_0, .int), (c5_1, .int), (c5_2, .int), (c5_3, .int), (c5_4, .int)] sz (fun U => KAll (va_A [(o7, .inr (7, [.ref o2, .ref o5, .ref o3, .ref o4, .ref o1, .ref o0, .ref a7_6, .ref a7_7, .int v7_8, .int v7_9, .int v7_10, .ref a7_11, .int v7_12, .ref a7_13, .int v7_14, .ref a7_15])), (a7_15, .inl (c7_15, 8, .inl f7_15)), (o5, .inr (5, [.ref a5_0, .ref a5_1, .ref a5_2, .ref a5_3, .ref a5_4, .ref a5_5, .ref a5_6])), (a5_0, .inl (c5_0, 12, .inl f5_0)), (a5_1, .inl (c5_1, 120, .inl f5_1)), (a5_2, .inl (c5_2, 120, .inl f5_2)), (a5_3, .inl (c5_3, 120, .inl f5_3)), (a5_4, .inl (c5_4, 120, .inl f5_4))] sz) U))) (va_Qi (fun (r : Int32) (u : (Nat → Int32)) => r = if ((0 ≤ p0.toInt ∧ p0.toInt < 12) ∧ (0 ≤ p1.toInt ∧ p1.toInt < (f5_0 p0.toNatClampNeg).toInt)) then (if p2.toInt = 0 then f5_1 (p0 * 10 + p1).toNatClampNeg else if p2.toInt = 1 then f5_2 (p0 * 10 + p1).toNatClampNeg else if p2.toInt = 2 then f5_3 (p0 * 10 + p1).toNatClampNeg else if p2.toInt = 3 then f5_4 (p0 * 10 + p1).toNatClampNeg else if p2.toInt = 4 then kTabP (f5_1 (p0 * 10 + p1).toNatClampNeg).toNatClampNeg else if p2.toInt = 5 then (if ((f5_1 (p0 * 10 + p1).toNatClampNeg).toInt = 7 ∨ (f5_1 (p0 * 10 + p1).toNatClampNeg).toInt = 8 ∨ (f5_1 (p0 * 10 + p1).toNatClampNeg).toInt = 10) then 1 else 0) else -6) else -3) (KPost (dC, dI) (va_A [(o7, .inr (7, [.ref o2, .ref o5, .ref o3, .ref o4, .ref o1, .ref o0, .ref a7_6, .ref a7_7, .int v7_8, .int v7_9, .int v7_10, .ref a7_11, .int v7_12, .ref a7_13, .int v7_14, .ref a7_15])), (a7_15, .inl (c7_15, 8, .inl f7_15)), (o5, .inr (5, [.ref a5_0, .ref a5_1, .ref a5_2, .ref a5_3, .ref a5_4, .ref a5_5, .ref a5_6])), (a5_0, .inl (c5_0, 12, .inl f5_0)), (a5_1, .inl (c5_1, 120, .inl f5_1)), (a5_2, .inl (c5_2, 120, .inl f5_2)), (a5_3, .inl (c5_3, 120, .inl f5_3)), (a5_4, .inl (c5_4, 120, .inl f5_4))] sz) (fun (u : (Nat → Int32)) => [(o7, .inr (7, [.ref o2, .ref o5, .ref o3, .ref o4, .ref o1, .ref o0, .ref a7_6, .ref a7_7, .int v7_8, .int v7_9, .int v7_10, .ref a7_11, .int v7_12, .ref a7_13, .int v7_14, .ref a7_15])), (a7_15, .inl (c7_15, 8, .inl u)), (o5, .inr (5, [.ref a5_0, .ref a5_1, .ref a5_2, .ref a5_3, .ref a5_4, .ref a5_5, .ref a5_6])), (a5_0, .inl (c5_0, 12, .inl f5_0)), (a5_1, .inl (c5_1, 120, .inl f5_1)), (a5_2, .inl (c5_2, 120, .inl f5_2)), (a5_3, .inl (c5_3, 120, .inl f5_3)), (a5_4, .inl (c5_4, 120, .inl f5_4))])) (va_A [(o7, .inr (7, [.ref o2, .ref o5, .ref o3, .ref o4, .ref o1, .ref o0, .ref a7_6, .ref a7_7, .int v7_8, .int v7_9, .int v7_10, .ref a7_11, .int v7_12, .ref a7_13, .int v7_14, .ref a7_15])), (a7_15, .inl (c7_15, 8, .inl f7_15)), (o5, .inr (5, [.ref a5_0, .ref a5_1, .ref a5_2, .ref a5_3, .ref a5_4, .ref a5_5, .ref a5_6])), (a5_0, .inl (c5_0, 12, .inl f5_0)), (a5_1, .inl (c5_1, 120, .inl f5_1)), (a5_2, .inl (c5_2, 120, .inl f5_2)), (a5_3, .inl (c5_3, 120, .inl f5_3)), (a5_4, .inl (c5_4, 120, .inl f5_4))] sz)) 0 0 (va_A [(o7, .inr (7, [.ref o2, .ref o5, .ref o3, .ref o4, .ref o1, .ref o0, .ref a7_6, .ref a7_7, .int v7_8, .int v7_9, .int v7_10, .ref a7_11, .int v7_12, .ref a7_13, .int v7_14, .ref a7_15])), (a7_15, .inl (c7_15, 8, .inl f7_15)), (o5, .inr (5, [.ref a5_0, .ref a5_1, .ref a5_2, .ref a5_3, .ref a5_4, .ref a5_5, .ref a5_6])), (a5_0, .inl (c5_0, 12, .inl f5_0)), (a5_1, .inl (c5_1, 120, .inl f5_1)), (a5_2, .inl (c5_2, 120, .inl f5_2)), (a5_3, .inl (c5_3, 120, .inl f5_3)), (a5_4, .inl (c5_4, 120, .inl f5_4))] sz) := by
  refine kMet (y := yX7_look) (wsM := wsX7_look) (cc := cX7_look) (maxL := 5) (ret := (some .int)) (rm := ({ frames := 2, cells := 0, slots := 0, locals := 42 } : Room)) (mc := 0) (ms := 0) (av := [.ref o7, .int p0, .int p1, .int p2]) (D := (dC, dI)) (wc := [(o7, .inr (7, [.ref o2, .ref o5, .ref o3, .ref o4, .ref o1, .ref o0, .ref a7_6, .ref a7_7, .int v7_8, .int v7_9, .int v7_10, .ref a7_11, .int v7_12, .ref a7_13, .int v7_14, .ref a7_15])), (a7_15, .inl (c7_15, 8, .inl f7_15)), (o5, .inr (5, [.ref a5_0, .ref a5_1, .ref a5_2, .ref a5_3, .ref a5_4, .ref a5_5, .ref a5_6])), (a5_0, .inl (c5_0, 12, .inl f5_0)), (a5_1, .inl (c5_1, 120, .inl f5_1)), (a5_2, .inl (c5_2, 120, .inl f5_2)), (a5_3, .inl (c5_3, 120, .inl f5_3)), (a5_4, .inl (c5_4, 120, .inl f5_4))]) (tc := [(c7_15, .int), (c5_0, .int), (c5_1, .int), (c5_2, .int), (c5_3, .int), (c5_4, .int)]) (sz := sz) (X := fun U => KAll (va_A [(o7, .inr (7, [.ref o2, .ref o5, .ref o3, .ref o4, .ref o1, .ref o0, .ref a7_6, .ref a7_7, .int v7_8, .int v7_9, .int v7_10, .ref a7_11, .int v7_12, .ref a7_13, .int v7_14, .ref a7_15])), (a7_15, .inl (c7_15, 8, .inl f7_15)), (o5, .inr (5, [.ref a5_0, .ref a5_1, .ref a5_2, .ref a5_3, .ref a5_4, .ref a5_5, .ref a5_6])), (a5_0, .inl (c5_0, 12, .inl f5_0)), (a5_1, .inl (c5_1, 120, .inl f5_1)), (a5_2, .inl (c5_2, 120, .inl f5_2)), (a5_3, .inl (c5_3, 120, .inl f5_3)), (a5_4, .inl (c5_4, 120, .inl f5_4))] sz) U) (Qc := fun A => va_Qi (fun (r : Int32) (u : (Nat → Int32)) => r = if ((0 ≤ p0.toInt ∧ p0.toInt < 12) ∧ (0 ≤ p1.toInt ∧ p1.toInt < (f5_0 p0.toNatClampNeg).toInt)) then (if p2.toInt = 0 then f5_1 (p0 * 10 + p1).toNatClampNeg else if p2.toInt = 1 then f5_2 (p0 * 10 + p1).toNatClampNeg else if p2.toInt = 2 then f5_3 (p0 * 10 + p1).toNatClampNeg else if p2.toInt = 3 then f5_4 (p0 * 10 + p1).toNatClampNeg else if p2.toInt = 4 then kTabP (f5_1 (p0 * 10 + p1).toNatClampNeg).toNatClampNeg else if p2.toInt = 5 then (if ((f5_1 (p0 * 10 + p1).toNatClampNeg).toInt = 7 ∨ (f5_1 (p0 * 10 + p1).toNatClampNeg).toInt = 8 ∨ (f5_1 (p0 * 10 + p1).toNatClampNeg).toInt = 10) then 1 else 0) else -6) else -3) (KPost (dC, dI) A (fun (u : (Nat → Int32)) => [(o7, .inr (7, [.ref o2, .ref o5, .ref o3, .ref o4, .ref o1, .ref o0, .ref a7_6, .ref a7_7, .int v7_8, .int v7_9, .int v7_10, .ref a7_11, .int v7_12, .ref a7_13, .int v7_14, .ref a7_15])), (a7_15, .inl (c7_15, 8, .inl u)), (o5, .inr (5, [.ref a5_0, .ref a5_1, .ref a5_2, .ref a5_3, .ref a5_4, .ref a5_5, .ref a5_6])), (a5_0, .inl (c5_0, 12, .inl f5_0)), (a5_1, .inl (c5_1, 120, .inl f5_1)), (a5_2, .inl (c5_2, 120, .inl f5_2)), (a5_3, .inl (c5_3, 120, .inl f5_3)), (a5_4, .inl (c5_4, 120, .inl f5_4))])) A) (by decide) rfl (Nat.le_of_ble_eq_true rfl) ?_
  intro p e s m below meth c A ls E hr hlocks hnm hsz hAe hX h hl
  have hx := E.1
  have hb := E.2.1
  have hl : lv_has ls 5 [(0, .ref o7), (1, .int p0), (2, .int p1), (3, .int p2)] := hl
  have hX : KAll A s := by rw [← hAe]; exact hX
  obtain ⟨⟨tD, hZD, hTD⟩, ⟨tX, hZX, hTX⟩, ⟨tY, hZY, hTY⟩, ⟨tP, hZP, hTP⟩, ⟨tL, hZL, hTL⟩, ⟨tM, hZM, hTM⟩, hN0_134, hN0_60, hN0_96, hN1_83, hN1_87, hN3_49, hN3_52, hN4_44, hN4_69, hN5_33, hN6_102, hN6_67, hF37, hF40, hF50, hF53⟩ := id hX
  refine lv_aload_n hx hb dX7_look_0 rfl (lv_at hl 0 rfl) ?_
  refine lv_iload_n hx hb dX7_look_1 rfl (lv_at hl 1 rfl) ?_
  refine lv_iload_n hx hb dX7_look_2 rfl (lv_at hl 2 rfl) ?_
  refine kc_i (wc := [(o7, .inr (7, [.ref o2, .ref o5, .ref o3, .ref o4, .ref o1, .ref o0, .ref a7_6, .ref a7_7, .int v7_8, .int v7_9, .int v7_10, .ref a7_11, .int v7_12, .ref a7_13, .int v7_14, .ref a7_15])), (o5, .inr (5, [.ref a5_0, .ref a5_1, .ref a5_2, .ref a5_3, .ref a5_4, .ref a5_5, .ref a5_6])), (a5_0, .inl (c5_0, 12, .inl f5_0))]) (wr := [(a7_15, .inl (c7_15, 8, .inl f7_15)), (a5_1, .inl (c5_1, 120, .inl f5_1)), (a5_2, .inl (c5_2, 120, .inl f5_2)), (a5_3, .inl (c5_3, 120, .inl f5_3)), (a5_4, .inl (c5_4, 120, .inl f5_4))]) h (va_runV (As := [.int p0, .int p1]) (rest := []) E (c_X7_hasAct l dC dI _ (o7 := o7) (o2 := o2) (o5 := o5) (o3 := o3) (o4 := o4) (o1 := o1) (o0 := o0) (a7_6 := a7_6) (a7_7 := a7_7) (v7_8 := v7_8) (v7_9 := v7_9) (v7_10 := v7_10) (a7_11 := a7_11) (v7_12 := v7_12) (a7_13 := a7_13) (v7_14 := v7_14) (a7_15 := a7_15) (a5_0 := a5_0) (a5_1 := a5_1) (a5_2 := a5_2) (a5_3 := a5_3) (a5_4 := a5_4) (a5_5 := a5_5) (a5_6 := a5_6) (c5_0 := c5_0) (f5_0 := f5_0) (p0 := p0) (p1 := p1)  ) (cwV 2 E.2.2.2.2 gX7_look_X7_hasAct rfl rfl rfl (by decide +kernel) ⟨Nat.le_of_ble_eq_true rfl, Nat.le_of_ble_eq_true rfl⟩) (kPreV (q0 := 0) (ci := 7) h KX_true (fun _ _ _ => trivial) [0, 2, 3] [1] (by decide) rfl rfl rfl rfl) rfl rfl hl.1 rfl (lv_room (Nat.le_of_ble_eq_true rfl)) dX7_look_3 ⟨Nat.le_of_ble_eq_true rfl, Nat.le_of_ble_eq_true rfl⟩) [0, 2, 3] [1, 4, 5, 6, 7] rfl rfl (by decide) (by decide) (fun r_1 u_1 H locs hw_1 h => ?_)
  have h : KS (dC, dI) A [(a7_15, .inl (c7_15, 8, .inl f7_15)), (a5_1, .inl (c5_1, 120, .inl f5_1)), (a5_2, .inl (c5_2, 120, .inl f5_2)), (a5_3, .inl (c5_3, 120, .inl f5_3)), (a5_4, .inl (c5_4, 120, .inl f5_4)), (o7, .inr (7, [.ref o2, .ref o5, .ref o3, .ref o4, .ref o1, .ref o0, .ref a7_6, .ref a7_7, .int v7_8, .int v7_9, .int v7_10, .ref a7_11, .int v7_12, .ref a7_13, .int v7_14, .ref a7_15])), (o5, .inr (5, [.ref a5_0, .ref a5_1, .ref a5_2, .ref a5_3, .ref a5_4, .ref a5_5, .ref a5_6])), (a5_0, .inl (c5_0, 12, .inl f5_0))] [(c7_15, .int), (c5_0, .int), (c5_1, .int), (c5_2, .int), (c5_3, .int), (c5_4, .int)] s H locs := h
  have hw_1 : r_1 = if ((0 ≤ p0.toInt ∧ p0.toInt < 12) ∧ (0 ≤ p1.toInt ∧ p1.toInt < (f5_0 p0.toNatClampNeg).toInt)) then 1 else 0 := by first | exact hw_1 | (simp only [Int32.toInt_toInt64] at hw_1; exact hw_1)
  refine W.eq (g2 := F0 m 6 ls [.int r_1]) rfl ?_
  refine lv_if_ne (tgt := 16) hx hb dX7_look_6 (by decide) (fun c_2 => ?_) (fun c_2 => ?_)
  · skip
    have b_2 := kb1 hw_1 c_2
    have hZ := b_2
    have hl5 := IL_at hL5 hZ.1
    refine lv_iload_n hx hb dX7_look_16 rfl (lv_at hl 1 rfl) ?_
    refine lv_iload_n hx hb dX7_look_17 rfl (lv_at hl 2 rfl) ?_
    refine kc_i (wc := []) (wr := [(a7_15, .inl (c7_15, 8, .inl f7_15)), (a5_1, .inl (c5_1, 120, .inl f5_1)), (a5_2, .inl (c5_2, 120, .inl f5_2)), (a5_3, .inl (c5_3, 120, .inl f5_3)), (a5_4, .inl (c5_4, 120, .inl f5_4)), (o7, .inr (7, [.ref o2, .ref o5, .ref o3, .ref o4, .ref o1, .ref o0, .ref a7_6, .ref a7_7, .int v7_8, .int v7_9, .int v7_10, .ref a7_11, .int v7_12, .ref a7_13, .int v7_14, .ref a7_15])), (o5, .inr (5, [.ref a5_0, .ref a5_1, .ref a5_2, .ref a5_3, .ref a5_4, .ref a5_5, .ref a5_6])), (a5_0, .inl (c5_0, 12, .inl f5_0))]) h (va_runS (As := [.int p0, .int p1]) (rest := []) E (c_X7_slot l dC dI _ (p0 := p0) (p1 := p1)  ) (va_cwS 2 E.2.2.2.2 gX7_look_X7_slot rfl rfl rfl (by decide +kernel) ⟨Nat.le_of_ble_eq_true rfl, Nat.le_of_ble_eq_true rfl⟩) (kPreS h KX_true (fun _ _ _ => trivial) [] [] (by decide) rfl rfl) rfl rfl hl.1 rfl (lv_room (Nat.le_of_ble_eq_true rfl)) dX7_look_18 ⟨Nat.le_of_ble_eq_true rfl, Nat.le_of_ble_eq_true rfl⟩) [] [0, 1, 2, 3, 4, 5, 6, 7] rfl rfl (by decide) (by decide) (fun r_3 u_3 H locs hw_3 h => ?_)
    have h : KS (dC, dI) A [(a7_15, .inl (c7_15, 8, .inl f7_15)), (a5_1, .inl (c5_1, 120, .inl f5_1)), (a5_2, .inl (c5_2, 120, .inl f5_2)), (a5_3, .inl (c5_3, 120, .inl f5_3)), (a5_4, .inl (c5_4, 120, .inl f5_4)), (o7, .inr (7, [.ref o2, .ref o5, .ref o3, .ref o4, .ref o1, .ref o0, .ref a7_6, .ref a7_7, .int v7_8, .int v7_9, .int v7_10, .ref a7_11, .int v7_12, .ref a7_13, .int v7_14, .ref a7_15])), (o5, .inr (5, [.ref a5_0, .ref a5_1, .ref a5_2, .ref a5_3, .ref a5_4, .ref a5_5, .ref a5_6])), (a5_0, .inl (c5_0, 12, .inl f5_0))] [(c7_15, .int), (c5_0, .int), (c5_1, .int), (c5_2, .int), (c5_3, .int), (c5_4, .int)] s H locs := h
    have hw_3 : r_3 = p0 * 10 + p1 := by first | exact hw_3 | (simp only [Int32.toInt_toInt64] at hw_3; exact hw_3)
    refine k_topi (y := p0 * 10 + p1) (hw_3) ?_
    have e8 : (p0 * 10 + p1).toInt = p0.toInt * 10 + p1.toInt := kslot2 hZ.1 (by omega) (by omega)
    refine W.eq (g2 := F0 m 21 ls [.int (p0 * 10 + p1)]) rfl ?_
    refine lv_istore (lv' := [(4, .int (p0 * 10 + p1)), (0, .ref o7), (1, .int p0), (2, .int p1), (3, .int p2)]) hx hb dX7_look_21 hl (by decide) rfl (fun ls hl => ?_)
    refine lv_iload_n hx hb dX7_look_23 rfl (lv_at hl 4 rfl) ?_
    by_cases s_4 : p2 = 0
    · refine k_topi (y := 0) s_4 ?_
      have i_4 : p2.toInt = 0 := (fa_eq _ _).mp s_4
      refine lv_tableIn (off := 40) (tgt := 64) hx hb dX7_look_24 (by decide) (by decide) rfl (by decide) ?_
      refine lv_aload_n hx hb dX7_look_64 rfl (lv_at hl 1 rfl) ?_
      refine k_get (v := .ref o5) E h (fun w h => List.mem_cons_of_mem _ (List.mem_append_left _ (List.mem_append_right _ h))) 5 rfl rfl 1 (by decide) (List.mem_of_getElem? (i := 1) rfl) rfl dX7_look_65 ?_
      refine k_get (v := .ref a5_1) E h (fun w h => List.mem_cons_of_mem _ (List.mem_append_right _ h)) 6 rfl rfl 1 (by decide) (List.mem_of_getElem? (i := 2) rfl) rfl dX7_look_68 ?_
      refine lv_iload hx hb dX7_look_71 (lv_at hl 0 rfl) ?_
      refine k_iald (v := f5_1 (p0 * 10 + p1).toNatClampNeg) E h 1 2 rfl rfl (vp_in_iff.mpr (by omega)) rfl dX7_look_73 ?_
      have hP9 := h.2.1.sub [5, 0, 6, 7, 1, 2, 3, 4] rfl
      have hD9 := h.2.2.1.sub (ws' := [(o7, .inr (7, [.ref o2, .ref o5, .ref o3, .ref o4, .ref o1, .ref o0, .ref a7_6, .ref a7_7, .int v7_8, .int v7_9, .int v7_10, .ref a7_11, .int v7_12, .ref a7_13, .int v7_14, .ref a7_15])), (a7_15, .inl (c7_15, 8, .inl f7_15)), (o5, .inr (5, [.ref a5_0, .ref a5_1, .ref a5_2, .ref a5_3, .ref a5_4, .ref a5_5, .ref a5_6])), (a5_0, .inl (c5_0, 12, .inl f5_0)), (a5_1, .inl (c5_1, 120, .inl f5_1)), (a5_2, .inl (c5_2, 120, .inl f5_2)), (a5_3, .inl (c5_3, 120, .inl f5_3)), (a5_4, .inl (c5_4, 120, .inl f5_4))]) [5, 0, 6, 7, 1, 2, 3, 4] (by decide) rfl
      exact W.iret (v := f5_1 (p0 * 10 + p1).toNatClampNeg) hx hb hr (fun t ht hW => ⟨⟨f5_1 (p0 * 10 + p1).toNatClampNeg, f7_15, rfl, (by (first | rw [hw_3] | skip); (repeat' split) <;> first | rfl | contradiction | omega), (by rw [ht]; exact hP9), hD9⟩, h.2.2.2.1.F ht⟩) h.2.2.2.1.2.2 dX7_look_74 hlocks
    have i_4 : ¬ p2.toInt = 0 := fun h9 => s_4 ((fa_eq _ _).mpr h9)
    by_cases s_5 : p2 = 1
    · refine k_topi (y := 1) s_5 ?_
      have i_5 : p2.toInt = 1 := (fa_eq _ _).mp s_5
      refine lv_tableIn (off := 51) (tgt := 75) hx hb dX7_look_24 (by decide) (by decide) rfl (by decide) ?_
      refine lv_aload_n hx hb dX7_look_75 rfl (lv_at hl 1 rfl) ?_
      refine k_get (v := .ref o5) E h (fun w h => List.mem_cons_of_mem _ (List.mem_append_left _ (List.mem_append_right _ h))) 5 rfl rfl 1 (by decide) (List.mem_of_getElem? (i := 1) rfl) rfl dX7_look_76 ?_
      refine k_get (v := .ref a5_2) E h (fun w h => List.mem_cons_of_mem _ (List.mem_append_right _ h)) 6 rfl rfl 2 (by decide) (List.mem_of_getElem? (i := 3) rfl) rfl dX7_look_79 ?_
      refine lv_iload hx hb dX7_look_82 (lv_at hl 0 rfl) ?_
      refine k_iald (v := f5_2 (p0 * 10 + p1).toNatClampNeg) E h 2 3 rfl rfl (vp_in_iff.mpr (by omega)) rfl dX7_look_84 ?_
      have hP9 := h.2.1.sub [5, 0, 6, 7, 1, 2, 3, 4] rfl
      have hD9 := h.2.2.1.sub (ws' := [(o7, .inr (7, [.ref o2, .ref o5, .ref o3, .ref o4, .ref o1, .ref o0, .ref a7_6, .ref a7_7, .int v7_8, .int v7_9, .int v7_10, .ref a7_11, .int v7_12, .ref a7_13, .int v7_14, .ref a7_15])), (a7_15, .inl (c7_15, 8, .inl f7_15)), (o5, .inr (5, [.ref a5_0, .ref a5_1, .ref a5_2, .ref a5_3, .ref a5_4, .ref a5_5, .ref a5_6])), (a5_0, .inl (c5_0, 12, .inl f5_0)), (a5_1, .inl (c5_1, 120, .inl f5_1)), (a5_2, .inl (c5_2, 120, .inl f5_2)), (a5_3, .inl (c5_3, 120, .inl f5_3)), (a5_4, .inl (c5_4, 120, .inl f5_4))]) [5, 0, 6, 7, 1, 2, 3, 4] (by decide) rfl
      exact W.iret (v := f5_2 (p0 * 10 + p1).toNatClampNeg) hx hb hr (fun t ht hW => ⟨⟨f5_2 (p0 * 10 + p1).toNatClampNeg, f7_15, rfl, (by (first | rw [hw_3] | skip); (repeat' split) <;> first | rfl | contradiction | omega), (by rw [ht]; exact hP9), hD9⟩, h.2.2.2.1.F ht⟩) h.2.2.2.1.2.2 dX7_look_85 hlocks
    have i_5 : ¬ p2.toInt = 1 := fun h9 => s_5 ((fa_eq _ _).mpr h9)
    by_cases s_6 : p2 = 2
    · refine k_topi (y := 2) s_6 ?_
      have i_6 : p2.toInt = 2 := (fa_eq _ _).mp s_6
      refine lv_tableIn (off := 62) (tgt := 86) hx hb dX7_look_24 (by decide) (by decide) rfl (by decide) ?_
      refine lv_aload_n hx hb dX7_look_86 rfl (lv_at hl 1 rfl) ?_
      refine k_get (v := .ref o5) E h (fun w h => List.mem_cons_of_mem _ (List.mem_append_left _ (List.mem_append_right _ h))) 5 rfl rfl 1 (by decide) (List.mem_of_getElem? (i := 1) rfl) rfl dX7_look_87 ?_
      refine k_get (v := .ref a5_3) E h (fun w h => List.mem_cons_of_mem _ (List.mem_append_right _ h)) 6 rfl rfl 3 (by decide) (List.mem_of_getElem? (i := 4) rfl) rfl dX7_look_90 ?_
      refine lv_iload hx hb dX7_look_93 (lv_at hl 0 rfl) ?_
      refine k_iald (v := f5_3 (p0 * 10 + p1).toNatClampNeg) E h 3 4 rfl rfl (vp_in_iff.mpr (by omega)) rfl dX7_look_95 ?_
      have hP9 := h.2.1.sub [5, 0, 6, 7, 1, 2, 3, 4] rfl
      have hD9 := h.2.2.1.sub (ws' := [(o7, .inr (7, [.ref o2, .ref o5, .ref o3, .ref o4, .ref o1, .ref o0, .ref a7_6, .ref a7_7, .int v7_8, .int v7_9, .int v7_10, .ref a7_11, .int v7_12, .ref a7_13, .int v7_14, .ref a7_15])), (a7_15, .inl (c7_15, 8, .inl f7_15)), (o5, .inr (5, [.ref a5_0, .ref a5_1, .ref a5_2, .ref a5_3, .ref a5_4, .ref a5_5, .ref a5_6])), (a5_0, .inl (c5_0, 12, .inl f5_0)), (a5_1, .inl (c5_1, 120, .inl f5_1)), (a5_2, .inl (c5_2, 120, .inl f5_2)), (a5_3, .inl (c5_3, 120, .inl f5_3)), (a5_4, .inl (c5_4, 120, .inl f5_4))]) [5, 0, 6, 7, 1, 2, 3, 4] (by decide) rfl
      exact W.iret (v := f5_3 (p0 * 10 + p1).toNatClampNeg) hx hb hr (fun t ht hW => ⟨⟨f5_3 (p0 * 10 + p1).toNatClampNeg, f7_15, rfl, (by (first | rw [hw_3] | skip); (repeat' split) <;> first | rfl | contradiction | omega), (by rw [ht]; exact hP9), hD9⟩, h.2.2.2.1.F ht⟩) h.2.2.2.1.2.2 dX7_look_96 hlocks
    have i_6 : ¬ p2.toInt = 2 := fun h9 => s_6 ((fa_eq _ _).mpr h9)
    by_cases s_7 : p2 = 3
    · refine k_topi (y := 3) s_7 ?_
      have i_7 : p2.toInt = 3 := (fa_eq _ _).mp s_7
      refine lv_tableIn (off := 73) (tgt := 97) hx hb dX7_look_24 (by decide) (by decide) rfl (by decide) ?_
      refine lv_aload_n hx hb dX7_look_97 rfl (lv_at hl 1 rfl) ?_
      refine k_get (v := .ref o5) E h (fun w h => List.mem_cons_of_mem _ (List.mem_append_left _ (List.mem_append_right _ h))) 5 rfl rfl 1 (by decide) (List.mem_of_getElem? (i := 1) rfl) rfl dX7_look_98 ?_
      refine k_get (v := .ref a5_4) E h (fun w h => List.mem_cons_of_mem _ (List.mem_append_right _ h)) 6 rfl rfl 4 (by decide) (List.mem_of_getElem? (i := 5) rfl) rfl dX7_look_101 ?_
      refine lv_iload hx hb dX7_look_104 (lv_at hl 0 rfl) ?_
      refine k_iald (v := f5_4 (p0 * 10 + p1).toNatClampNeg) E h 4 5 rfl rfl (vp_in_iff.mpr (by omega)) rfl dX7_look_106 ?_
      have hP9 := h.2.1.sub [5, 0, 6, 7, 1, 2, 3, 4] rfl
      have hD9 := h.2.2.1.sub (ws' := [(o7, .inr (7, [.ref o2, .ref o5, .ref o3, .ref o4, .ref o1, .ref o0, .ref a7_6, .ref a7_7, .int v7_8, .int v7_9, .int v7_10, .ref a7_11, .int v7_12, .ref a7_13, .int v7_14, .ref a7_15])), (a7_15, .inl (c7_15, 8, .inl f7_15)), (o5, .inr (5, [.ref a5_0, .ref a5_1, .ref a5_2, .ref a5_3, .ref a5_4, .ref a5_5, .ref a5_6])), (a5_0, .inl (c5_0, 12, .inl f5_0)), (a5_1, .inl (c5_1, 120, .inl f5_1)), (a5_2, .inl (c5_2, 120, .inl f5_2)), (a5_3, .inl (c5_3, 120, .inl f5_3)), (a5_4, .inl (c5_4, 120, .inl f5_4))]) [5, 0, 6, 7, 1, 2, 3, 4] (by decide) rfl
      exact W.iret (v := f5_4 (p0 * 10 + p1).toNatClampNeg) hx hb hr (fun t ht hW => ⟨⟨f5_4 (p0 * 10 + p1).toNatClampNeg, f7_15, rfl, (by (first | rw [hw_3] | skip); (repeat' split) <;> first | rfl | contradiction | omega), (by rw [ht]; exact hP9), hD9⟩, h.2.2.2.1.F ht⟩) h.2.2.2.1.2.2 dX7_look_107 hlocks
    have i_7 : ¬ p2.toInt = 3 := fun h9 => s_7 ((fa_eq _ _).mpr h9)
    by_cases s_8 : p2 = 4
    · refine k_topi (y := 4) s_8 ?_
      have i_8 : p2.toInt = 4 := (fa_eq _ _).mp s_8
      refine lv_tableIn (off := 84) (tgt := 108) hx hb dX7_look_24 (by decide) (by decide) rfl (by decide) ?_
      refine lv_aload_n hx hb dX7_look_108 rfl (lv_at hl 1 rfl) ?_
      refine k_get (v := .ref o5) E h (fun w h => List.mem_cons_of_mem _ (List.mem_append_left _ (List.mem_append_right _ h))) 5 rfl rfl 1 (by decide) (List.mem_of_getElem? (i := 1) rfl) rfl dX7_look_109 ?_
      refine lv_iload hx hb dX7_look_112 (lv_at hl 0 rfl) ?_
      refine kc_i (wc := [(o5, .inr (5, [.ref a5_0, .ref a5_1, .ref a5_2, .ref a5_3, .ref a5_4, .ref a5_5, .ref a5_6])), (a5_1, .inl (c5_1, 120, .inl f5_1))]) (wr := [(a7_15, .inl (c7_15, 8, .inl f7_15)), (a5_2, .inl (c5_2, 120, .inl f5_2)), (a5_3, .inl (c5_3, 120, .inl f5_3)), (a5_4, .inl (c5_4, 120, .inl f5_4)), (o7, .inr (7, [.ref o2, .ref o5, .ref o3, .ref o4, .ref o1, .ref o0, .ref a7_6, .ref a7_7, .int v7_8, .int v7_9, .int v7_10, .ref a7_11, .int v7_12, .ref a7_13, .int v7_14, .ref a7_15])), (a5_0, .inl (c5_0, 12, .inl f5_0))]) h (va_runV (As := [.int (p0 * 10 + p1)]) (rest := []) E (c_X5_partOf l dC dI _ (o5 := o5) (a5_0 := a5_0) (a5_1 := a5_1) (a5_2 := a5_2) (a5_3 := a5_3) (a5_4 := a5_4) (a5_5 := a5_5) (a5_6 := a5_6) (c5_1 := c5_1) (f5_1 := f5_1) (p0 := p0 * 10 + p1)  (hK := hK) (hp := (by first | decide | omega))) (cwV 1 E.2.2.2.2 gX7_look_X5_partOf rfl rfl rfl (by decide +kernel) ⟨Nat.le_of_ble_eq_true rfl, Nat.le_of_ble_eq_true rfl⟩) (kPreV (q0 := 6) (ci := 5) h KAll.blind (KAll.call hX h [6, 1] rfl) [6, 1] [2] (by decide) rfl rfl rfl rfl) rfl rfl hl.1 rfl (lv_room (Nat.le_of_ble_eq_true rfl)) dX7_look_114 ⟨Nat.le_of_ble_eq_true rfl, Nat.le_of_ble_eq_true rfl⟩) [6, 1] [0, 2, 3, 4, 5, 7] rfl rfl (by decide) (by decide) (fun r_9 u_9 H locs hw_9 h => ?_)
      have h : KS (dC, dI) A [(a7_15, .inl (c7_15, 8, .inl f7_15)), (a5_2, .inl (c5_2, 120, .inl f5_2)), (a5_3, .inl (c5_3, 120, .inl f5_3)), (a5_4, .inl (c5_4, 120, .inl f5_4)), (o7, .inr (7, [.ref o2, .ref o5, .ref o3, .ref o4, .ref o1, .ref o0, .ref a7_6, .ref a7_7, .int v7_8, .int v7_9, .int v7_10, .ref a7_11, .int v7_12, .ref a7_13, .int v7_14, .ref a7_15])), (a5_0, .inl (c5_0, 12, .inl f5_0)), (o5, .inr (5, [.ref a5_0, .ref a5_1, .ref a5_2, .ref a5_3, .ref a5_4, .ref a5_5, .ref a5_6])), (a5_1, .inl (c5_1, 120, .inl f5_1))] [(c7_15, .int), (c5_0, .int), (c5_1, .int), (c5_2, .int), (c5_3, .int), (c5_4, .int)] s H locs := h
      have hw_9 : r_9 = kTabP (f5_1 (p0 * 10 + p1).toNatClampNeg).toNatClampNeg := by first | exact hw_9 | (simp only [Int32.toInt_toInt64] at hw_9; exact hw_9)
      refine W.eq (g2 := F0 m 117 ls [.int r_9]) rfl ?_
      have hP9 := h.2.1.sub [4, 0, 6, 5, 7, 1, 2, 3] rfl
      have hD9 := h.2.2.1.sub (ws' := [(o7, .inr (7, [.ref o2, .ref o5, .ref o3, .ref o4, .ref o1, .ref o0, .ref a7_6, .ref a7_7, .int v7_8, .int v7_9, .int v7_10, .ref a7_11, .int v7_12, .ref a7_13, .int v7_14, .ref a7_15])), (a7_15, .inl (c7_15, 8, .inl f7_15)), (o5, .inr (5, [.ref a5_0, .ref a5_1, .ref a5_2, .ref a5_3, .ref a5_4, .ref a5_5, .ref a5_6])), (a5_0, .inl (c5_0, 12, .inl f5_0)), (a5_1, .inl (c5_1, 120, .inl f5_1)), (a5_2, .inl (c5_2, 120, .inl f5_2)), (a5_3, .inl (c5_3, 120, .inl f5_3)), (a5_4, .inl (c5_4, 120, .inl f5_4))]) [4, 0, 6, 5, 7, 1, 2, 3] (by decide) rfl
      exact W.iret (v := r_9) hx hb hr (fun t ht hW => ⟨⟨r_9, f7_15, rfl, (by (first | rw [hw_9] | skip); (repeat' split) <;> first | rfl | contradiction | omega), (by rw [ht]; exact hP9), hD9⟩, h.2.2.2.1.F ht⟩) h.2.2.2.1.2.2 dX7_look_117 hlocks
    have i_8 : ¬ p2.toInt = 4 := fun h9 => s_8 ((fa_eq _ _).mpr h9)
    by_cases s_10 : p2 = 5
    · refine k_topi (y := 5) s_10 ?_
      have i_10 : p2.toInt = 5 := (fa_eq _ _).mp s_10
      refine lv_tableIn (off := 94) (tgt := 118) hx hb dX7_look_24 (by decide) (by decide) rfl (by decide) ?_
      refine lv_aload_n hx hb dX7_look_118 rfl (lv_at hl 1 rfl) ?_
      refine k_get (v := .ref o5) E h (fun w h => List.mem_cons_of_mem _ (List.mem_append_left _ (List.mem_append_right _ h))) 5 rfl rfl 1 (by decide) (List.mem_of_getElem? (i := 1) rfl) rfl dX7_look_119 ?_
      refine lv_iload hx hb dX7_look_122 (lv_at hl 0 rfl) ?_
      refine kc_i (wc := [(o5, .inr (5, [.ref a5_0, .ref a5_1, .ref a5_2, .ref a5_3, .ref a5_4, .ref a5_5, .ref a5_6])), (a5_1, .inl (c5_1, 120, .inl f5_1))]) (wr := [(a7_15, .inl (c7_15, 8, .inl f7_15)), (a5_2, .inl (c5_2, 120, .inl f5_2)), (a5_3, .inl (c5_3, 120, .inl f5_3)), (a5_4, .inl (c5_4, 120, .inl f5_4)), (o7, .inr (7, [.ref o2, .ref o5, .ref o3, .ref o4, .ref o1, .ref o0, .ref a7_6, .ref a7_7, .int v7_8, .int v7_9, .int v7_10, .ref a7_11, .int v7_12, .ref a7_13, .int v7_14, .ref a7_15])), (a5_0, .inl (c5_0, 12, .inl f5_0))]) h (va_runV (As := [.int (p0 * 10 + p1)]) (rest := []) E (c_X5_canTrap l dC dI _ (o5 := o5) (a5_0 := a5_0) (a5_1 := a5_1) (a5_2 := a5_2) (a5_3 := a5_3) (a5_4 := a5_4) (a5_5 := a5_5) (a5_6 := a5_6) (c5_1 := c5_1) (f5_1 := f5_1) (p0 := p0 * 10 + p1)  (hp := (by first | decide | omega))) (cwV 1 E.2.2.2.2 gX7_look_X5_canTrap rfl rfl rfl (by decide +kernel) ⟨Nat.le_of_ble_eq_true rfl, Nat.le_of_ble_eq_true rfl⟩) (kPreV (q0 := 6) (ci := 5) h KX_true (fun _ _ _ => trivial) [6, 1] [2] (by decide) rfl rfl rfl rfl) rfl rfl hl.1 rfl (lv_room (Nat.le_of_ble_eq_true rfl)) dX7_look_124 ⟨Nat.le_of_ble_eq_true rfl, Nat.le_of_ble_eq_true rfl⟩) [6, 1] [0, 2, 3, 4, 5, 7] rfl rfl (by decide) (by decide) (fun r_11 u_11 H locs hw_11 h => ?_)
      have h : KS (dC, dI) A [(a7_15, .inl (c7_15, 8, .inl f7_15)), (a5_2, .inl (c5_2, 120, .inl f5_2)), (a5_3, .inl (c5_3, 120, .inl f5_3)), (a5_4, .inl (c5_4, 120, .inl f5_4)), (o7, .inr (7, [.ref o2, .ref o5, .ref o3, .ref o4, .ref o1, .ref o0, .ref a7_6, .ref a7_7, .int v7_8, .int v7_9, .int v7_10, .ref a7_11, .int v7_12, .ref a7_13, .int v7_14, .ref a7_15])), (a5_0, .inl (c5_0, 12, .inl f5_0)), (o5, .inr (5, [.ref a5_0, .ref a5_1, .ref a5_2, .ref a5_3, .ref a5_4, .ref a5_5, .ref a5_6])), (a5_1, .inl (c5_1, 120, .inl f5_1))] [(c7_15, .int), (c5_0, .int), (c5_1, .int), (c5_2, .int), (c5_3, .int), (c5_4, .int)] s H locs := h
      have hw_11 : r_11 = if ((f5_1 (p0 * 10 + p1).toNatClampNeg).toInt = 7 ∨ (f5_1 (p0 * 10 + p1).toNatClampNeg).toInt = 8 ∨ (f5_1 (p0 * 10 + p1).toNatClampNeg).toInt = 10) then 1 else 0 := by first | exact hw_11 | (simp only [Int32.toInt_toInt64] at hw_11; exact hw_11)
      refine W.eq (g2 := F0 m 127 ls [.int r_11]) rfl ?_
      refine lv_if_eq (tgt := 134) hx hb dX7_look_127 (by decide) (fun c_12 => ?_) (fun c_12 => ?_)
      · skip
        have b_12 := kb0 hw_11 c_12
        refine lv_iconst (v := 0) hx hb dX7_look_134 (by decide) ?_
        have hP9 := h.2.1.sub [4, 0, 6, 5, 7, 1, 2, 3] rfl
        have hD9 := h.2.2.1.sub (ws' := [(o7, .inr (7, [.ref o2, .ref o5, .ref o3, .ref o4, .ref o1, .ref o0, .ref a7_6, .ref a7_7, .int v7_8, .int v7_9, .int v7_10, .ref a7_11, .int v7_12, .ref a7_13, .int v7_14, .ref a7_15])), (a7_15, .inl (c7_15, 8, .inl f7_15)), (o5, .inr (5, [.ref a5_0, .ref a5_1, .ref a5_2, .ref a5_3, .ref a5_4, .ref a5_5, .ref a5_6])), (a5_0, .inl (c5_0, 12, .inl f5_0)), (a5_1, .inl (c5_1, 120, .inl f5_1)), (a5_2, .inl (c5_2, 120, .inl f5_2)), (a5_3, .inl (c5_3, 120, .inl f5_3)), (a5_4, .inl (c5_4, 120, .inl f5_4))]) [4, 0, 6, 5, 7, 1, 2, 3] (by decide) rfl
        exact W.iret (v := 0) hx hb hr (fun t ht hW => ⟨⟨0, f7_15, rfl, (by (first | rw [hw_11] | skip); (repeat' split) <;> first | rfl | contradiction | omega), (by rw [ht]; exact hP9), hD9⟩, h.2.2.2.1.F ht⟩) h.2.2.2.1.2.2 dX7_look_135 hlocks
      · skip
        have b_12 := kb1 hw_11 c_12
        refine lv_iconst (v := 1) hx hb dX7_look_130 (by decide) ?_
        refine lv_goto (tgt := 135) hx hb dX7_look_131 (by decide) ?_
        have hP9 := h.2.1.sub [4, 0, 6, 5, 7, 1, 2, 3] rfl
        have hD9 := h.2.2.1.sub (ws' := [(o7, .inr (7, [.ref o2, .ref o5, .ref o3, .ref o4, .ref o1, .ref o0, .ref a7_6, .ref a7_7, .int v7_8, .int v7_9, .int v7_10, .ref a7_11, .int v7_12, .ref a7_13, .int v7_14, .ref a7_15])), (a7_15, .inl (c7_15, 8, .inl f7_15)), (o5, .inr (5, [.ref a5_0, .ref a5_1, .ref a5_2, .ref a5_3, .ref a5_4, .ref a5_5, .ref a5_6])), (a5_0, .inl (c5_0, 12, .inl f5_0)), (a5_1, .inl (c5_1, 120, .inl f5_1)), (a5_2, .inl (c5_2, 120, .inl f5_2)), (a5_3, .inl (c5_3, 120, .inl f5_3)), (a5_4, .inl (c5_4, 120, .inl f5_4))]) [4, 0, 6, 5, 7, 1, 2, 3] (by decide) rfl
        exact W.iret (v := 1) hx hb hr (fun t ht hW => ⟨⟨1, f7_15, rfl, (by (first | rw [hw_11] | skip); (repeat' split) <;> first | rfl | contradiction | omega), (by rw [ht]; exact hP9), hD9⟩, h.2.2.2.1.F ht⟩) h.2.2.2.1.2.2 dX7_look_135 hlocks
    have i_10 : ¬ p2.toInt = 5 := fun h9 => s_10 ((fa_eq _ _).mpr h9)
    refine lv_tableOut (tgt := 136) hx hb dX7_look_24 (by omega) (by decide) ?_
    refine lv_aload_n hx hb dX7_look_136 rfl (lv_at hl 1 rfl) ?_
    refine lv_bipush (v := -6) hx hb dX7_look_137 (by decide) ?_
    refine kc_i (wc := [(o7, .inr (7, [.ref o2, .ref o5, .ref o3, .ref o4, .ref o1, .ref o0, .ref a7_6, .ref a7_7, .int v7_8, .int v7_9, .int v7_10, .ref a7_11, .int v7_12, .ref a7_13, .int v7_14, .ref a7_15])), (a7_15, .inl (c7_15, 8, .inl f7_15))]) (wr := [(a5_1, .inl (c5_1, 120, .inl f5_1)), (a5_2, .inl (c5_2, 120, .inl f5_2)), (a5_3, .inl (c5_3, 120, .inl f5_3)), (a5_4, .inl (c5_4, 120, .inl f5_4)), (o5, .inr (5, [.ref a5_0, .ref a5_1, .ref a5_2, .ref a5_3, .ref a5_4, .ref a5_5, .ref a5_6])), (a5_0, .inl (c5_0, 12, .inl f5_0))]) h (va_runV (As := [.int (-6)]) (rest := []) E (c_X7_refuse l dC dI _ (o7 := o7) (o2 := o2) (o5 := o5) (o3 := o3) (o4 := o4) (o1 := o1) (o0 := o0) (a7_6 := a7_6) (a7_7 := a7_7) (v7_8 := v7_8) (v7_9 := v7_9) (v7_10 := v7_10) (a7_11 := a7_11) (v7_12 := v7_12) (a7_13 := a7_13) (v7_14 := v7_14) (a7_15 := a7_15) (c7_15 := c7_15) (f7_15 := f7_15) (p0 := (-6))  (hp := (by first | decide | omega))) (cwV 1 E.2.2.2.2 gX7_look_X7_refuse rfl rfl rfl (by decide +kernel) ⟨Nat.le_of_ble_eq_true rfl, Nat.le_of_ble_eq_true rfl⟩) (kPreV (q0 := 5) (ci := 7) h KX_true (fun _ _ _ => trivial) [5, 0] [0] (by decide) rfl rfl rfl rfl) rfl rfl hl.1 rfl (lv_room (Nat.le_of_ble_eq_true rfl)) dX7_look_139 ⟨Nat.le_of_ble_eq_true rfl, Nat.le_of_ble_eq_true rfl⟩) [5, 0] [1, 2, 3, 4, 6, 7] rfl rfl (by decide) (by decide) (fun r_13 u_13 H locs hw_13 h => ?_)
    have h : KS (dC, dI) A [(a5_1, .inl (c5_1, 120, .inl f5_1)), (a5_2, .inl (c5_2, 120, .inl f5_2)), (a5_3, .inl (c5_3, 120, .inl f5_3)), (a5_4, .inl (c5_4, 120, .inl f5_4)), (o5, .inr (5, [.ref a5_0, .ref a5_1, .ref a5_2, .ref a5_3, .ref a5_4, .ref a5_5, .ref a5_6])), (a5_0, .inl (c5_0, 12, .inl f5_0)), (o7, .inr (7, [.ref o2, .ref o5, .ref o3, .ref o4, .ref o1, .ref o0, .ref a7_6, .ref a7_7, .int v7_8, .int v7_9, .int v7_10, .ref a7_11, .int v7_12, .ref a7_13, .int v7_14, .ref a7_15])), (a7_15, .inl (c7_15, 8, .inl (upd f7_15 (-(-6 : Int32)).toNatClampNeg (f7_15 (-(-6 : Int32)).toNatClampNeg + 1))))] [(c7_15, .int), (c5_0, .int), (c5_1, .int), (c5_2, .int), (c5_3, .int), (c5_4, .int)] s H locs := h
    have hw_13 : r_13 = (-6 : Int32) := by first | exact hw_13 | (simp only [Int32.toInt_toInt64] at hw_13; exact hw_13)
    refine k_topi (y := (-6)) (hw_13) ?_
    refine W.eq (g2 := F0 m 142 ls [.int (-6)]) rfl ?_
    have hP9 := h.2.1.sub [6, 7, 4, 5, 0, 1, 2, 3] rfl
    have hD9 := h.2.2.1.sub (ws' := [(o7, .inr (7, [.ref o2, .ref o5, .ref o3, .ref o4, .ref o1, .ref o0, .ref a7_6, .ref a7_7, .int v7_8, .int v7_9, .int v7_10, .ref a7_11, .int v7_12, .ref a7_13, .int v7_14, .ref a7_15])), (a7_15, .inl (c7_15, 8, .inl (upd f7_15 (-(-6 : Int32)).toNatClampNeg (f7_15 (-(-6 : Int32)).toNatClampNeg + 1)))), (o5, .inr (5, [.ref a5_0, .ref a5_1, .ref a5_2, .ref a5_3, .ref a5_4, .ref a5_5, .ref a5_6])), (a5_0, .inl (c5_0, 12, .inl f5_0)), (a5_1, .inl (c5_1, 120, .inl f5_1)), (a5_2, .inl (c5_2, 120, .inl f5_2)), (a5_3, .inl (c5_3, 120, .inl f5_3)), (a5_4, .inl (c5_4, 120, .inl f5_4))]) [6, 7, 4, 5, 0, 1, 2, 3] (by decide) rfl
    exact W.iret (v := (-6)) hx hb hr (fun t ht hW => ⟨⟨(-6), upd f7_15 (-(-6 : Int32)).toNatClampNeg (f7_15 (-(-6 : Int32)).toNatClampNeg + 1), rfl, (by (first | rw [hw_13] | skip); (repeat' split) <;> first | rfl | contradiction | omega), (by rw [ht]; exact hP9), hD9⟩, h.2.2.2.1.F ht⟩) h.2.2.2.1.2.2 dX7_look_142 hlocks
  · skip
    have b_2 := kb0 hw_1 c_2
    refine lv_aload_n hx hb dX7_look_9 rfl (lv_at hl 0 rfl) ?_
    refine lv_bipush (v := -3) hx hb dX7_look_10 (by decide) ?_
    refine kc_i (wc := [(o7, .inr (7, [.ref o2, .ref o5, .ref o3, .ref o4, .ref o1, .ref o0, .ref a7_6, .ref a7_7, .int v7_8, .int v7_9, .int v7_10, .ref a7_11, .int v7_12, .ref a7_13, .int v7_14, .ref a7_15])), (a7_15, .inl (c7_15, 8, .inl f7_15))]) (wr := [(a5_1, .inl (c5_1, 120, .inl f5_1)), (a5_2, .inl (c5_2, 120, .inl f5_2)), (a5_3, .inl (c5_3, 120, .inl f5_3)), (a5_4, .inl (c5_4, 120, .inl f5_4)), (o5, .inr (5, [.ref a5_0, .ref a5_1, .ref a5_2, .ref a5_3, .ref a5_4, .ref a5_5, .ref a5_6])), (a5_0, .inl (c5_0, 12, .inl f5_0))]) h (va_runV (As := [.int (-3)]) (rest := []) E (c_X7_refuse l dC dI _ (o7 := o7) (o2 := o2) (o5 := o5) (o3 := o3) (o4 := o4) (o1 := o1) (o0 := o0) (a7_6 := a7_6) (a7_7 := a7_7) (v7_8 := v7_8) (v7_9 := v7_9) (v7_10 := v7_10) (a7_11 := a7_11) (v7_12 := v7_12) (a7_13 := a7_13) (v7_14 := v7_14) (a7_15 := a7_15) (c7_15 := c7_15) (f7_15 := f7_15) (p0 := (-3))  (hp := (by first | decide | omega))) (cwV 1 E.2.2.2.2 gX7_look_X7_refuse rfl rfl rfl (by decide +kernel) ⟨Nat.le_of_ble_eq_true rfl, Nat.le_of_ble_eq_true rfl⟩) (kPreV (q0 := 5) (ci := 7) h KX_true (fun _ _ _ => trivial) [5, 0] [0] (by decide) rfl rfl rfl rfl) rfl rfl hl.1 rfl (lv_room (Nat.le_of_ble_eq_true rfl)) dX7_look_12 ⟨Nat.le_of_ble_eq_true rfl, Nat.le_of_ble_eq_true rfl⟩) [5, 0] [1, 2, 3, 4, 6, 7] rfl rfl (by decide) (by decide) (fun r_14 u_14 H locs hw_14 h => ?_)
    have h : KS (dC, dI) A [(a5_1, .inl (c5_1, 120, .inl f5_1)), (a5_2, .inl (c5_2, 120, .inl f5_2)), (a5_3, .inl (c5_3, 120, .inl f5_3)), (a5_4, .inl (c5_4, 120, .inl f5_4)), (o5, .inr (5, [.ref a5_0, .ref a5_1, .ref a5_2, .ref a5_3, .ref a5_4, .ref a5_5, .ref a5_6])), (a5_0, .inl (c5_0, 12, .inl f5_0)), (o7, .inr (7, [.ref o2, .ref o5, .ref o3, .ref o4, .ref o1, .ref o0, .ref a7_6, .ref a7_7, .int v7_8, .int v7_9, .int v7_10, .ref a7_11, .int v7_12, .ref a7_13, .int v7_14, .ref a7_15])), (a7_15, .inl (c7_15, 8, .inl (upd f7_15 (-(-3 : Int32)).toNatClampNeg (f7_15 (-(-3 : Int32)).toNatClampNeg + 1))))] [(c7_15, .int), (c5_0, .int), (c5_1, .int), (c5_2, .int), (c5_3, .int), (c5_4, .int)] s H locs := h
    have hw_14 : r_14 = (-3 : Int32) := by first | exact hw_14 | (simp only [Int32.toInt_toInt64] at hw_14; exact hw_14)
    refine k_topi (y := (-3)) (hw_14) ?_
    refine W.eq (g2 := F0 m 15 ls [.int (-3)]) rfl ?_
    have hP9 := h.2.1.sub [6, 7, 4, 5, 0, 1, 2, 3] rfl
    have hD9 := h.2.2.1.sub (ws' := [(o7, .inr (7, [.ref o2, .ref o5, .ref o3, .ref o4, .ref o1, .ref o0, .ref a7_6, .ref a7_7, .int v7_8, .int v7_9, .int v7_10, .ref a7_11, .int v7_12, .ref a7_13, .int v7_14, .ref a7_15])), (a7_15, .inl (c7_15, 8, .inl (upd f7_15 (-(-3 : Int32)).toNatClampNeg (f7_15 (-(-3 : Int32)).toNatClampNeg + 1)))), (o5, .inr (5, [.ref a5_0, .ref a5_1, .ref a5_2, .ref a5_3, .ref a5_4, .ref a5_5, .ref a5_6])), (a5_0, .inl (c5_0, 12, .inl f5_0)), (a5_1, .inl (c5_1, 120, .inl f5_1)), (a5_2, .inl (c5_2, 120, .inl f5_2)), (a5_3, .inl (c5_3, 120, .inl f5_3)), (a5_4, .inl (c5_4, 120, .inl f5_4))]) [6, 7, 4, 5, 0, 1, 2, 3] (by decide) rfl
    exact W.iret (v := (-3)) hx hb hr (fun t ht hW => ⟨⟨(-3), upd f7_15 (-(-3 : Int32)).toNatClampNeg (f7_15 (-(-3 : Int32)).toNatClampNeg + 1), rfl, (by (first | rw [hw_14] | skip); (repeat' split) <;> first | rfl | contradiction | omega), (by rw [ht]; exact hP9), hD9⟩, h.2.2.2.1.F ht⟩) h.2.2.2.1.2.2 dX7_look_15 hlocks
set_option maxHeartbeats 4000000 in
set_option maxRecDepth 100000 in
theorem c_X7_needs (l : Launch) (dC : Nat → ClassId) (dI : Nat → Nat → Nat) (sz : Nat) (o7 : Nat) (o2 : Nat) (o5 : Nat) (o3 : Nat) (o4 : Nat) (o1 : Nat) (o0 : Nat) (a7_6 : Nat) (a7_7 : Nat) (v7_8 : Int32) (v7_9 : Int32) (v7_10 : Int32) (a7_11 : Nat) (v7_12 : Int32) (a7_13 : Nat) (v7_14 : Int32) (a7_15 : Nat) (c7_15 : ClassId) (f7_15 : Nat → Int32) (a5_0 : Nat) (a5_1 : Nat) (a5_2 : Nat) (a5_3 : Nat) (a5_4 : Nat) (a5_5 : Nat) (a5_6 : Nat) (c5_0 : ClassId) (f5_0 : Nat → Int32) (c5_1 : ClassId) (f5_1 : Nat → Int32) (c5_5 : ClassId) (f5_5 : Nat → Int32) (c5_6 : ClassId) (f5_6 : Nat → Int32) (p0 : Int32) (p1 : Int32) (p2 : Int32) (hL5 : IL f5_0) : Met l yX7_needs wsX7_needs ({ frames := 2, cells := 0, slots := 0, locals := 44 } : Room) (va_Pc [.ref o7, .int p0, .int p1, .int p2] (KPre (dC, dI) [(o7, .inr (7, [.ref o2, .ref o5, .ref o3, .ref o4, .ref o1, .ref o0, .ref a7_6, .ref a7_7, .int v7_8, .int v7_9, .int v7_10, .ref a7_11, .int v7_12, .ref a7_13, .int v7_14, .ref a7_15])), (a7_15, .inl (c7_15, 8, .inl f7_15)), (o5, .inr (5, [.ref a5_0, .ref a5_1, .ref a5_2, .ref a5_3, .ref a5_4, .ref a5_5, .ref a5_6])), (a5_0, .inl (c5_0, 12, .inl f5_0)), (a5_1, .inl (c5_1, 120, .inl f5_1)), (a5_5, .inl (c5_5, 120, .inl f5_5)), (a5_6, .inl (c5_6, 120, .inl f5_6))] [(c7_15, .int), (c5_0, .int), (c5_1, .int), (c5_5, .int), (c5_6, .int)] sz (fun _ => True))) (va_Qi (fun (r : Int32) (u : (Nat → Int32)) => True) (KPost (dC, dI) (va_A [(o7, .inr (7, [.ref o2, .ref o5, .ref o3, .ref o4, .ref o1, .ref o0, .ref a7_6, .ref a7_7, .int v7_8, .int v7_9, .int v7_10, .ref a7_11, .int v7_12, .ref a7_13, .int v7_14, .ref a7_15])), (a7_15, .inl (c7_15, 8, .inl f7_15)), (o5, .inr (5, [.ref a5_0, .ref a5_1, .ref a5_2, .ref a5_3, .ref a5_4, .ref a5_5, .ref a5_6])), (a5_0, .inl (c5_0, 12, .inl f5_0)), (a5_1, .inl (c5_1, 120, .inl f5_1)), (a5_5, .inl (c5_5, 120, .inl f5_5)), (a5_6, .inl (c5_6, 120, .inl f5_6))] sz) (fun (u : (Nat → Int32)) => [(o7, .inr (7, [.ref o2, .ref o5, .ref o3, .ref o4, .ref o1, .ref o0, .ref a7_6, .ref a7_7, .int v7_8, .int v7_9, .int v7_10, .ref a7_11, .int v7_12, .ref a7_13, .int v7_14, .ref a7_15])), (a7_15, .inl (c7_15, 8, .inl u)), (o5, .inr (5, [.ref a5_0, .ref a5_1, .ref a5_2, .ref a5_3, .ref a5_4, .ref a5_5, .ref a5_6])), (a5_0, .inl (c5_0, 12, .inl f5_0)), (a5_1, .inl (c5_1, 120, .inl f5_1)), (a5_5, .inl (c5_5, 120, .inl f5_5)), (a5_6, .inl (c5_6, 120, .inl f5_6))])) (va_A [(o7, .inr (7, [.ref o2, .ref o5, .ref o3, .ref o4, .ref o1, .ref o0, .ref a7_6, .ref a7_7, .int v7_8, .int v7_9, .int v7_10, .ref a7_11, .int v7_12, .ref a7_13, .int v7_14, .ref a7_15])), (a7_15, .inl (c7_15, 8, .inl f7_15)), (o5, .inr (5, [.ref a5_0, .ref a5_1, .ref a5_2, .ref a5_3, .ref a5_4, .ref a5_5, .ref a5_6])), (a5_0, .inl (c5_0, 12, .inl f5_0)), (a5_1, .inl (c5_1, 120, .inl f5_1)), (a5_5, .inl (c5_5, 120, .inl f5_5)), (a5_6, .inl (c5_6, 120, .inl f5_6))] sz)) 0 0 (va_A [(o7, .inr (7, [.ref o2, .ref o5, .ref o3, .ref o4, .ref o1, .ref o0, .ref a7_6, .ref a7_7, .int v7_8, .int v7_9, .int v7_10, .ref a7_11, .int v7_12, .ref a7_13, .int v7_14, .ref a7_15])), (a7_15, .inl (c7_15, 8, .inl f7_15)), (o5, .inr (5, [.ref a5_0, .ref a5_1, .ref a5_2, .ref a5_3, .ref a5_4, .ref a5_5, .ref a5_6])), (a5_0, .inl (c5_0, 12, .inl f5_0)), (a5_1, .inl (c5_1, 120, .inl f5_1)), (a5_5, .inl (c5_5, 120, .inl f5_5)), (a5_6, .inl (c5_6, 120, .inl f5_6))] sz) := by
  refine kMet (y := yX7_needs) (wsM := wsX7_needs) (cc := cX7_needs) (maxL := 4) (ret := (some .int)) (rm := ({ frames := 2, cells := 0, slots := 0, locals := 44 } : Room)) (mc := 0) (ms := 0) (av := [.ref o7, .int p0, .int p1, .int p2]) (D := (dC, dI)) (wc := [(o7, .inr (7, [.ref o2, .ref o5, .ref o3, .ref o4, .ref o1, .ref o0, .ref a7_6, .ref a7_7, .int v7_8, .int v7_9, .int v7_10, .ref a7_11, .int v7_12, .ref a7_13, .int v7_14, .ref a7_15])), (a7_15, .inl (c7_15, 8, .inl f7_15)), (o5, .inr (5, [.ref a5_0, .ref a5_1, .ref a5_2, .ref a5_3, .ref a5_4, .ref a5_5, .ref a5_6])), (a5_0, .inl (c5_0, 12, .inl f5_0)), (a5_1, .inl (c5_1, 120, .inl f5_1)), (a5_5, .inl (c5_5, 120, .inl f5_5)), (a5_6, .inl (c5_6, 120, .inl f5_6))]) (tc := [(c7_15, .int), (c5_0, .int), (c5_1, .int), (c5_5, .int), (c5_6, .int)]) (sz := sz) (X := fun _ => True) (Qc := fun A => va_Qi (fun (r : Int32) (u : (Nat → Int32)) => True) (KPost (dC, dI) A (fun (u : (Nat → Int32)) => [(o7, .inr (7, [.ref o2, .ref o5, .ref o3, .ref o4, .ref o1, .ref o0, .ref a7_6, .ref a7_7, .int v7_8, .int v7_9, .int v7_10, .ref a7_11, .int v7_12, .ref a7_13, .int v7_14, .ref a7_15])), (a7_15, .inl (c7_15, 8, .inl u)), (o5, .inr (5, [.ref a5_0, .ref a5_1, .ref a5_2, .ref a5_3, .ref a5_4, .ref a5_5, .ref a5_6])), (a5_0, .inl (c5_0, 12, .inl f5_0)), (a5_1, .inl (c5_1, 120, .inl f5_1)), (a5_5, .inl (c5_5, 120, .inl f5_5)), (a5_6, .inl (c5_6, 120, .inl f5_6))])) A) (by decide) rfl (Nat.le_of_ble_eq_true rfl) ?_
  intro p e s m below meth c A ls E hr hlocks hnm hsz hAe hX h hl
  have hx := E.1
  have hb := E.2.1
  have hl : lv_has ls 4 [(0, .ref o7), (1, .int p0), (2, .int p1), (3, .int p2)] := hl
  refine lv_aload_n hx hb dX7_needs_0 rfl (lv_at hl 0 rfl) ?_
  refine lv_iload_n hx hb dX7_needs_1 rfl (lv_at hl 1 rfl) ?_
  refine lv_iload_n hx hb dX7_needs_2 rfl (lv_at hl 2 rfl) ?_
  refine kc_i (wc := [(o7, .inr (7, [.ref o2, .ref o5, .ref o3, .ref o4, .ref o1, .ref o0, .ref a7_6, .ref a7_7, .int v7_8, .int v7_9, .int v7_10, .ref a7_11, .int v7_12, .ref a7_13, .int v7_14, .ref a7_15])), (o5, .inr (5, [.ref a5_0, .ref a5_1, .ref a5_2, .ref a5_3, .ref a5_4, .ref a5_5, .ref a5_6])), (a5_0, .inl (c5_0, 12, .inl f5_0))]) (wr := [(a7_15, .inl (c7_15, 8, .inl f7_15)), (a5_1, .inl (c5_1, 120, .inl f5_1)), (a5_5, .inl (c5_5, 120, .inl f5_5)), (a5_6, .inl (c5_6, 120, .inl f5_6))]) h (va_runV (As := [.int p0, .int p1]) (rest := []) E (c_X7_hasAct l dC dI _ (o7 := o7) (o2 := o2) (o5 := o5) (o3 := o3) (o4 := o4) (o1 := o1) (o0 := o0) (a7_6 := a7_6) (a7_7 := a7_7) (v7_8 := v7_8) (v7_9 := v7_9) (v7_10 := v7_10) (a7_11 := a7_11) (v7_12 := v7_12) (a7_13 := a7_13) (v7_14 := v7_14) (a7_15 := a7_15) (a5_0 := a5_0) (a5_1 := a5_1) (a5_2 := a5_2) (a5_3 := a5_3) (a5_4 := a5_4) (a5_5 := a5_5) (a5_6 := a5_6) (c5_0 := c5_0) (f5_0 := f5_0) (p0 := p0) (p1 := p1)  ) (cwV 2 E.2.2.2.2 gX7_needs_X7_hasAct rfl rfl rfl (by decide +kernel) ⟨Nat.le_of_ble_eq_true rfl, Nat.le_of_ble_eq_true rfl⟩) (kPreV (q0 := 0) (ci := 7) h KX_true (fun _ _ _ => trivial) [0, 2, 3] [1] (by decide) rfl rfl rfl rfl) rfl rfl hl.1 rfl (lv_room (Nat.le_of_ble_eq_true rfl)) dX7_needs_3 ⟨Nat.le_of_ble_eq_true rfl, Nat.le_of_ble_eq_true rfl⟩) [0, 2, 3] [1, 4, 5, 6] rfl rfl (by decide) (by decide) (fun r_1 u_1 H locs hw_1 h => ?_)
  have h : KS (dC, dI) A [(a7_15, .inl (c7_15, 8, .inl f7_15)), (a5_1, .inl (c5_1, 120, .inl f5_1)), (a5_5, .inl (c5_5, 120, .inl f5_5)), (a5_6, .inl (c5_6, 120, .inl f5_6)), (o7, .inr (7, [.ref o2, .ref o5, .ref o3, .ref o4, .ref o1, .ref o0, .ref a7_6, .ref a7_7, .int v7_8, .int v7_9, .int v7_10, .ref a7_11, .int v7_12, .ref a7_13, .int v7_14, .ref a7_15])), (o5, .inr (5, [.ref a5_0, .ref a5_1, .ref a5_2, .ref a5_3, .ref a5_4, .ref a5_5, .ref a5_6])), (a5_0, .inl (c5_0, 12, .inl f5_0))] [(c7_15, .int), (c5_0, .int), (c5_1, .int), (c5_5, .int), (c5_6, .int)] s H locs := h
  have hw_1 : r_1 = if ((0 ≤ p0.toInt ∧ p0.toInt < 12) ∧ (0 ≤ p1.toInt ∧ p1.toInt < (f5_0 p0.toNatClampNeg).toInt)) then 1 else 0 := by first | exact hw_1 | (simp only [Int32.toInt_toInt64] at hw_1; exact hw_1)
  refine W.eq (g2 := F0 m 6 ls [.int r_1]) rfl ?_
  refine lv_if_eq (tgt := 18) hx hb dX7_needs_6 (by decide) (fun c_2 => ?_) (fun c_2 => ?_)
  · skip
    have b_2 := kb0 hw_1 c_2
    refine lv_aload_n hx hb dX7_needs_18 rfl (lv_at hl 0 rfl) ?_
    refine lv_bipush (v := -3) hx hb dX7_needs_19 (by decide) ?_
    refine kc_i (wc := [(o7, .inr (7, [.ref o2, .ref o5, .ref o3, .ref o4, .ref o1, .ref o0, .ref a7_6, .ref a7_7, .int v7_8, .int v7_9, .int v7_10, .ref a7_11, .int v7_12, .ref a7_13, .int v7_14, .ref a7_15])), (a7_15, .inl (c7_15, 8, .inl f7_15))]) (wr := [(a5_1, .inl (c5_1, 120, .inl f5_1)), (a5_5, .inl (c5_5, 120, .inl f5_5)), (a5_6, .inl (c5_6, 120, .inl f5_6)), (o5, .inr (5, [.ref a5_0, .ref a5_1, .ref a5_2, .ref a5_3, .ref a5_4, .ref a5_5, .ref a5_6])), (a5_0, .inl (c5_0, 12, .inl f5_0))]) h (va_runV (As := [.int (-3)]) (rest := []) E (c_X7_refuse l dC dI _ (o7 := o7) (o2 := o2) (o5 := o5) (o3 := o3) (o4 := o4) (o1 := o1) (o0 := o0) (a7_6 := a7_6) (a7_7 := a7_7) (v7_8 := v7_8) (v7_9 := v7_9) (v7_10 := v7_10) (a7_11 := a7_11) (v7_12 := v7_12) (a7_13 := a7_13) (v7_14 := v7_14) (a7_15 := a7_15) (c7_15 := c7_15) (f7_15 := f7_15) (p0 := (-3))  (hp := (by first | decide | omega))) (cwV 1 E.2.2.2.2 gX7_needs_X7_refuse rfl rfl rfl (by decide +kernel) ⟨Nat.le_of_ble_eq_true rfl, Nat.le_of_ble_eq_true rfl⟩) (kPreV (q0 := 4) (ci := 7) h KX_true (fun _ _ _ => trivial) [4, 0] [0] (by decide) rfl rfl rfl rfl) rfl rfl hl.1 rfl (lv_room (Nat.le_of_ble_eq_true rfl)) dX7_needs_21 ⟨Nat.le_of_ble_eq_true rfl, Nat.le_of_ble_eq_true rfl⟩) [4, 0] [1, 2, 3, 5, 6] rfl rfl (by decide) (by decide) (fun r_3 u_3 H locs hw_3 h => ?_)
    have h : KS (dC, dI) A [(a5_1, .inl (c5_1, 120, .inl f5_1)), (a5_5, .inl (c5_5, 120, .inl f5_5)), (a5_6, .inl (c5_6, 120, .inl f5_6)), (o5, .inr (5, [.ref a5_0, .ref a5_1, .ref a5_2, .ref a5_3, .ref a5_4, .ref a5_5, .ref a5_6])), (a5_0, .inl (c5_0, 12, .inl f5_0)), (o7, .inr (7, [.ref o2, .ref o5, .ref o3, .ref o4, .ref o1, .ref o0, .ref a7_6, .ref a7_7, .int v7_8, .int v7_9, .int v7_10, .ref a7_11, .int v7_12, .ref a7_13, .int v7_14, .ref a7_15])), (a7_15, .inl (c7_15, 8, .inl (upd f7_15 (-(-3 : Int32)).toNatClampNeg (f7_15 (-(-3 : Int32)).toNatClampNeg + 1))))] [(c7_15, .int), (c5_0, .int), (c5_1, .int), (c5_5, .int), (c5_6, .int)] s H locs := h
    have hw_3 : r_3 = (-3 : Int32) := by first | exact hw_3 | (simp only [Int32.toInt_toInt64] at hw_3; exact hw_3)
    refine k_topi (y := (-3)) (hw_3) ?_
    refine W.eq (g2 := F0 m 24 ls [.int (-3)]) rfl ?_
    have hP9 := h.2.1.sub [5, 6, 3, 4, 0, 1, 2] rfl
    have hD9 := h.2.2.1.sub (ws' := [(o7, .inr (7, [.ref o2, .ref o5, .ref o3, .ref o4, .ref o1, .ref o0, .ref a7_6, .ref a7_7, .int v7_8, .int v7_9, .int v7_10, .ref a7_11, .int v7_12, .ref a7_13, .int v7_14, .ref a7_15])), (a7_15, .inl (c7_15, 8, .inl (upd f7_15 (-(-3 : Int32)).toNatClampNeg (f7_15 (-(-3 : Int32)).toNatClampNeg + 1)))), (o5, .inr (5, [.ref a5_0, .ref a5_1, .ref a5_2, .ref a5_3, .ref a5_4, .ref a5_5, .ref a5_6])), (a5_0, .inl (c5_0, 12, .inl f5_0)), (a5_1, .inl (c5_1, 120, .inl f5_1)), (a5_5, .inl (c5_5, 120, .inl f5_5)), (a5_6, .inl (c5_6, 120, .inl f5_6))]) [5, 6, 3, 4, 0, 1, 2] (by decide) rfl
    exact W.iret (v := (-3)) hx hb hr (fun t ht hW => ⟨⟨(-3), upd f7_15 (-(-3 : Int32)).toNatClampNeg (f7_15 (-(-3 : Int32)).toNatClampNeg + 1), rfl, trivial, (by rw [ht]; exact hP9), hD9⟩, h.2.2.2.1.F ht⟩) h.2.2.2.1.2.2 dX7_needs_24 hlocks
  · skip
    have b_2 := kb1 hw_1 c_2
    have hZ := b_2
    have hl5 := IL_at hL5 hZ.1
    refine lv_aload_n hx hb dX7_needs_9 rfl (lv_at hl 0 rfl) ?_
    refine lv_iload_n hx hb dX7_needs_10 rfl (lv_at hl 1 rfl) ?_
    refine lv_iload_n hx hb dX7_needs_11 rfl (lv_at hl 3 rfl) ?_
    refine kc_i (wc := [(o7, .inr (7, [.ref o2, .ref o5, .ref o3, .ref o4, .ref o1, .ref o0, .ref a7_6, .ref a7_7, .int v7_8, .int v7_9, .int v7_10, .ref a7_11, .int v7_12, .ref a7_13, .int v7_14, .ref a7_15])), (o5, .inr (5, [.ref a5_0, .ref a5_1, .ref a5_2, .ref a5_3, .ref a5_4, .ref a5_5, .ref a5_6])), (a5_0, .inl (c5_0, 12, .inl f5_0))]) (wr := [(a7_15, .inl (c7_15, 8, .inl f7_15)), (a5_1, .inl (c5_1, 120, .inl f5_1)), (a5_5, .inl (c5_5, 120, .inl f5_5)), (a5_6, .inl (c5_6, 120, .inl f5_6))]) h (va_runV (As := [.int p0, .int p2]) (rest := []) E (c_X7_hasAct l dC dI _ (o7 := o7) (o2 := o2) (o5 := o5) (o3 := o3) (o4 := o4) (o1 := o1) (o0 := o0) (a7_6 := a7_6) (a7_7 := a7_7) (v7_8 := v7_8) (v7_9 := v7_9) (v7_10 := v7_10) (a7_11 := a7_11) (v7_12 := v7_12) (a7_13 := a7_13) (v7_14 := v7_14) (a7_15 := a7_15) (a5_0 := a5_0) (a5_1 := a5_1) (a5_2 := a5_2) (a5_3 := a5_3) (a5_4 := a5_4) (a5_5 := a5_5) (a5_6 := a5_6) (c5_0 := c5_0) (f5_0 := f5_0) (p0 := p0) (p1 := p2)  ) (cwV 2 E.2.2.2.2 gX7_needs_X7_hasAct rfl rfl rfl (by decide +kernel) ⟨Nat.le_of_ble_eq_true rfl, Nat.le_of_ble_eq_true rfl⟩) (kPreV (q0 := 4) (ci := 7) h KX_true (fun _ _ _ => trivial) [4, 5, 6] [1] (by decide) rfl rfl rfl rfl) rfl rfl hl.1 rfl (lv_room (Nat.le_of_ble_eq_true rfl)) dX7_needs_12 ⟨Nat.le_of_ble_eq_true rfl, Nat.le_of_ble_eq_true rfl⟩) [4, 5, 6] [0, 1, 2, 3] rfl rfl (by decide) (by decide) (fun r_4 u_4 H locs hw_4 h => ?_)
    have h : KS (dC, dI) A [(a7_15, .inl (c7_15, 8, .inl f7_15)), (a5_1, .inl (c5_1, 120, .inl f5_1)), (a5_5, .inl (c5_5, 120, .inl f5_5)), (a5_6, .inl (c5_6, 120, .inl f5_6)), (o7, .inr (7, [.ref o2, .ref o5, .ref o3, .ref o4, .ref o1, .ref o0, .ref a7_6, .ref a7_7, .int v7_8, .int v7_9, .int v7_10, .ref a7_11, .int v7_12, .ref a7_13, .int v7_14, .ref a7_15])), (o5, .inr (5, [.ref a5_0, .ref a5_1, .ref a5_2, .ref a5_3, .ref a5_4, .ref a5_5, .ref a5_6])), (a5_0, .inl (c5_0, 12, .inl f5_0))] [(c7_15, .int), (c5_0, .int), (c5_1, .int), (c5_5, .int), (c5_6, .int)] s H locs := h
    have hw_4 : r_4 = if ((0 ≤ p0.toInt ∧ p0.toInt < 12) ∧ (0 ≤ p2.toInt ∧ p2.toInt < (f5_0 p0.toNatClampNeg).toInt)) then 1 else 0 := by first | exact hw_4 | (simp only [Int32.toInt_toInt64] at hw_4; exact hw_4)
    refine W.eq (g2 := F0 m 15 ls [.int r_4]) rfl ?_
    refine lv_if_ne (tgt := 25) hx hb dX7_needs_15 (by decide) (fun c_5 => ?_) (fun c_5 => ?_)
    · skip
      have b_5 := kb1 hw_4 c_5
      have hZ2 := b_5
      refine lv_iload_n hx hb dX7_needs_25 rfl (lv_at hl 2 rfl) ?_
      refine lv_iload_n hx hb dX7_needs_26 rfl (lv_at hl 3 rfl) ?_
      refine lv_icmp_lt (tgt := 37) hx hb dX7_needs_27 (by decide) (fun c_6 => ?_) (fun c_6 => ?_)
      · skip
        have i_6 : p1.toInt < p2.toInt := (fa_lt _ _).mp c_6
        refine lv_aload_n hx hb dX7_needs_37 rfl (lv_at hl 0 rfl) ?_
        refine k_get (v := .ref o5) E h (fun w h => List.mem_cons_of_mem _ (List.mem_append_left _ (List.mem_append_right _ h))) 4 rfl rfl 1 (by decide) (List.mem_of_getElem? (i := 1) rfl) rfl dX7_needs_38 ?_
        refine lv_iload_n hx hb dX7_needs_41 rfl (lv_at hl 1 rfl) ?_
        refine lv_iload_n hx hb dX7_needs_42 rfl (lv_at hl 2 rfl) ?_
        refine kc_i (wc := []) (wr := [(a7_15, .inl (c7_15, 8, .inl f7_15)), (a5_1, .inl (c5_1, 120, .inl f5_1)), (a5_5, .inl (c5_5, 120, .inl f5_5)), (a5_6, .inl (c5_6, 120, .inl f5_6)), (o7, .inr (7, [.ref o2, .ref o5, .ref o3, .ref o4, .ref o1, .ref o0, .ref a7_6, .ref a7_7, .int v7_8, .int v7_9, .int v7_10, .ref a7_11, .int v7_12, .ref a7_13, .int v7_14, .ref a7_15])), (o5, .inr (5, [.ref a5_0, .ref a5_1, .ref a5_2, .ref a5_3, .ref a5_4, .ref a5_5, .ref a5_6])), (a5_0, .inl (c5_0, 12, .inl f5_0))]) h (va_runS (As := [.int p0, .int p1]) (rest := [.ref o5]) E (c_X7_slot l dC dI _ (p0 := p0) (p1 := p1)  ) (va_cwS 2 E.2.2.2.2 gX7_needs_X7_slot rfl rfl rfl (by decide +kernel) ⟨Nat.le_of_ble_eq_true rfl, Nat.le_of_ble_eq_true rfl⟩) (kPreS h KX_true (fun _ _ _ => trivial) [] [] (by decide) rfl rfl) rfl rfl hl.1 rfl (lv_room (Nat.le_of_ble_eq_true rfl)) dX7_needs_43 ⟨Nat.le_of_ble_eq_true rfl, Nat.le_of_ble_eq_true rfl⟩) [] [0, 1, 2, 3, 4, 5, 6] rfl rfl (by decide) (by decide) (fun r_7 u_7 H locs hw_7 h => ?_)
        have h : KS (dC, dI) A [(a7_15, .inl (c7_15, 8, .inl f7_15)), (a5_1, .inl (c5_1, 120, .inl f5_1)), (a5_5, .inl (c5_5, 120, .inl f5_5)), (a5_6, .inl (c5_6, 120, .inl f5_6)), (o7, .inr (7, [.ref o2, .ref o5, .ref o3, .ref o4, .ref o1, .ref o0, .ref a7_6, .ref a7_7, .int v7_8, .int v7_9, .int v7_10, .ref a7_11, .int v7_12, .ref a7_13, .int v7_14, .ref a7_15])), (o5, .inr (5, [.ref a5_0, .ref a5_1, .ref a5_2, .ref a5_3, .ref a5_4, .ref a5_5, .ref a5_6])), (a5_0, .inl (c5_0, 12, .inl f5_0))] [(c7_15, .int), (c5_0, .int), (c5_1, .int), (c5_5, .int), (c5_6, .int)] s H locs := h
        have hw_7 : r_7 = p0 * 10 + p1 := by first | exact hw_7 | (simp only [Int32.toInt_toInt64] at hw_7; exact hw_7)
        refine k_topi (y := p0 * 10 + p1) (hw_7) ?_
        have e8 : (p0 * 10 + p1).toInt = p0.toInt * 10 + p1.toInt := kslot2 hZ.1 (by omega) (by omega)
        refine W.eq (g2 := F0 m 46 ls [.int (p0 * 10 + p1), .ref o5]) rfl ?_
        refine lv_iload_n hx hb dX7_needs_46 rfl (lv_at hl 1 rfl) ?_
        refine lv_iload_n hx hb dX7_needs_47 rfl (lv_at hl 3 rfl) ?_
        refine kc_i (wc := []) (wr := [(a7_15, .inl (c7_15, 8, .inl f7_15)), (a5_1, .inl (c5_1, 120, .inl f5_1)), (a5_5, .inl (c5_5, 120, .inl f5_5)), (a5_6, .inl (c5_6, 120, .inl f5_6)), (o7, .inr (7, [.ref o2, .ref o5, .ref o3, .ref o4, .ref o1, .ref o0, .ref a7_6, .ref a7_7, .int v7_8, .int v7_9, .int v7_10, .ref a7_11, .int v7_12, .ref a7_13, .int v7_14, .ref a7_15])), (o5, .inr (5, [.ref a5_0, .ref a5_1, .ref a5_2, .ref a5_3, .ref a5_4, .ref a5_5, .ref a5_6])), (a5_0, .inl (c5_0, 12, .inl f5_0))]) h (va_runS (As := [.int p0, .int p2]) (rest := [.int (p0 * 10 + p1), .ref o5]) E (c_X7_slot l dC dI _ (p0 := p0) (p1 := p2)  ) (va_cwS 2 E.2.2.2.2 gX7_needs_X7_slot rfl rfl rfl (by decide +kernel) ⟨Nat.le_of_ble_eq_true rfl, Nat.le_of_ble_eq_true rfl⟩) (kPreS h KX_true (fun _ _ _ => trivial) [] [] (by decide) rfl rfl) rfl rfl hl.1 rfl (lv_room (Nat.le_of_ble_eq_true rfl)) dX7_needs_48 ⟨Nat.le_of_ble_eq_true rfl, Nat.le_of_ble_eq_true rfl⟩) [] [0, 1, 2, 3, 4, 5, 6] rfl rfl (by decide) (by decide) (fun r_8 u_8 H locs hw_8 h => ?_)
        have h : KS (dC, dI) A [(a7_15, .inl (c7_15, 8, .inl f7_15)), (a5_1, .inl (c5_1, 120, .inl f5_1)), (a5_5, .inl (c5_5, 120, .inl f5_5)), (a5_6, .inl (c5_6, 120, .inl f5_6)), (o7, .inr (7, [.ref o2, .ref o5, .ref o3, .ref o4, .ref o1, .ref o0, .ref a7_6, .ref a7_7, .int v7_8, .int v7_9, .int v7_10, .ref a7_11, .int v7_12, .ref a7_13, .int v7_14, .ref a7_15])), (o5, .inr (5, [.ref a5_0, .ref a5_1, .ref a5_2, .ref a5_3, .ref a5_4, .ref a5_5, .ref a5_6])), (a5_0, .inl (c5_0, 12, .inl f5_0))] [(c7_15, .int), (c5_0, .int), (c5_1, .int), (c5_5, .int), (c5_6, .int)] s H locs := h
        have hw_8 : r_8 = p0 * 10 + p2 := by first | exact hw_8 | (simp only [Int32.toInt_toInt64] at hw_8; exact hw_8)
        refine k_topi (y := p0 * 10 + p2) (hw_8) ?_
        have e7 : (p0 * 10 + p2).toInt = p0.toInt * 10 + p2.toInt := kslot2 hZ.1 (by omega) (by omega)
        refine W.eq (g2 := F0 m 51 ls [.int (p0 * 10 + p2), .int (p0 * 10 + p1), .ref o5]) rfl ?_
        refine kc_i (wc := [(o5, .inr (5, [.ref a5_0, .ref a5_1, .ref a5_2, .ref a5_3, .ref a5_4, .ref a5_5, .ref a5_6])), (a5_1, .inl (c5_1, 120, .inl f5_1)), (a5_5, .inl (c5_5, 120, .inl f5_5)), (a5_6, .inl (c5_6, 120, .inl f5_6))]) (wr := [(a7_15, .inl (c7_15, 8, .inl f7_15)), (o7, .inr (7, [.ref o2, .ref o5, .ref o3, .ref o4, .ref o1, .ref o0, .ref a7_6, .ref a7_7, .int v7_8, .int v7_9, .int v7_10, .ref a7_11, .int v7_12, .ref a7_13, .int v7_14, .ref a7_15])), (a5_0, .inl (c5_0, 12, .inl f5_0))]) h (va_runV (As := [.int (p0 * 10 + p1), .int (p0 * 10 + p2)]) (rest := []) E (c_X5_need l dC dI _ (o5 := o5) (a5_0 := a5_0) (a5_1 := a5_1) (a5_2 := a5_2) (a5_3 := a5_3) (a5_4 := a5_4) (a5_5 := a5_5) (a5_6 := a5_6) (c5_1 := c5_1) (f5_1 := f5_1) (c5_5 := c5_5) (f5_5 := f5_5) (c5_6 := c5_6) (f5_6 := f5_6) (p0 := p0 * 10 + p1) (p1 := p0 * 10 + p2)  (hp := (by first | decide | omega))) (cwV 2 E.2.2.2.2 gX7_needs_X5_need rfl rfl rfl (by decide +kernel) ⟨Nat.le_of_ble_eq_true rfl, Nat.le_of_ble_eq_true rfl⟩) (kPreV (q0 := 5) (ci := 5) h KX_true (fun _ _ _ => trivial) [5, 1, 2, 3] [2, 3, 4] (by decide) rfl rfl rfl rfl) rfl rfl hl.1 rfl (lv_room (Nat.le_of_ble_eq_true rfl)) dX7_needs_51 ⟨Nat.le_of_ble_eq_true rfl, Nat.le_of_ble_eq_true rfl⟩) [5, 1, 2, 3] [0, 4, 6] rfl rfl (by decide) (by decide) (fun r_9 u_9 H locs hw_9 h => ?_)
        have h : KS (dC, dI) A [(a7_15, .inl (c7_15, 8, .inl f7_15)), (o7, .inr (7, [.ref o2, .ref o5, .ref o3, .ref o4, .ref o1, .ref o0, .ref a7_6, .ref a7_7, .int v7_8, .int v7_9, .int v7_10, .ref a7_11, .int v7_12, .ref a7_13, .int v7_14, .ref a7_15])), (a5_0, .inl (c5_0, 12, .inl f5_0)), (o5, .inr (5, [.ref a5_0, .ref a5_1, .ref a5_2, .ref a5_3, .ref a5_4, .ref a5_5, .ref a5_6])), (a5_1, .inl (c5_1, 120, .inl f5_1)), (a5_5, .inl (c5_5, 120, .inl f5_5)), (a5_6, .inl (c5_6, 120, .inl f5_6))] [(c7_15, .int), (c5_0, .int), (c5_1, .int), (c5_5, .int), (c5_6, .int)] s H locs := h
        refine W.eq (g2 := F0 m 54 ls [.int r_9]) rfl ?_
        have hP9 := h.2.1.sub [1, 0, 3, 2, 4, 5, 6] rfl
        have hD9 := h.2.2.1.sub (ws' := [(o7, .inr (7, [.ref o2, .ref o5, .ref o3, .ref o4, .ref o1, .ref o0, .ref a7_6, .ref a7_7, .int v7_8, .int v7_9, .int v7_10, .ref a7_11, .int v7_12, .ref a7_13, .int v7_14, .ref a7_15])), (a7_15, .inl (c7_15, 8, .inl f7_15)), (o5, .inr (5, [.ref a5_0, .ref a5_1, .ref a5_2, .ref a5_3, .ref a5_4, .ref a5_5, .ref a5_6])), (a5_0, .inl (c5_0, 12, .inl f5_0)), (a5_1, .inl (c5_1, 120, .inl f5_1)), (a5_5, .inl (c5_5, 120, .inl f5_5)), (a5_6, .inl (c5_6, 120, .inl f5_6))]) [1, 0, 3, 2, 4, 5, 6] (by decide) rfl
        exact W.iret (v := r_9) hx hb hr (fun t ht hW => ⟨⟨r_9, f7_15, rfl, trivial, (by rw [ht]; exact hP9), hD9⟩, h.2.2.2.1.F ht⟩) h.2.2.2.1.2.2 dX7_needs_54 hlocks
      · skip
        have i_6 : ¬ p1.toInt < p2.toInt := fun h9 => c_6 ((fa_lt _ _).mpr h9)
        refine lv_aload_n hx hb dX7_needs_30 rfl (lv_at hl 0 rfl) ?_
        refine lv_bipush (v := -6) hx hb dX7_needs_31 (by decide) ?_
        refine kc_i (wc := [(o7, .inr (7, [.ref o2, .ref o5, .ref o3, .ref o4, .ref o1, .ref o0, .ref a7_6, .ref a7_7, .int v7_8, .int v7_9, .int v7_10, .ref a7_11, .int v7_12, .ref a7_13, .int v7_14, .ref a7_15])), (a7_15, .inl (c7_15, 8, .inl f7_15))]) (wr := [(a5_1, .inl (c5_1, 120, .inl f5_1)), (a5_5, .inl (c5_5, 120, .inl f5_5)), (a5_6, .inl (c5_6, 120, .inl f5_6)), (o5, .inr (5, [.ref a5_0, .ref a5_1, .ref a5_2, .ref a5_3, .ref a5_4, .ref a5_5, .ref a5_6])), (a5_0, .inl (c5_0, 12, .inl f5_0))]) h (va_runV (As := [.int (-6)]) (rest := []) E (c_X7_refuse l dC dI _ (o7 := o7) (o2 := o2) (o5 := o5) (o3 := o3) (o4 := o4) (o1 := o1) (o0 := o0) (a7_6 := a7_6) (a7_7 := a7_7) (v7_8 := v7_8) (v7_9 := v7_9) (v7_10 := v7_10) (a7_11 := a7_11) (v7_12 := v7_12) (a7_13 := a7_13) (v7_14 := v7_14) (a7_15 := a7_15) (c7_15 := c7_15) (f7_15 := f7_15) (p0 := (-6))  (hp := (by first | decide | omega))) (cwV 1 E.2.2.2.2 gX7_needs_X7_refuse rfl rfl rfl (by decide +kernel) ⟨Nat.le_of_ble_eq_true rfl, Nat.le_of_ble_eq_true rfl⟩) (kPreV (q0 := 4) (ci := 7) h KX_true (fun _ _ _ => trivial) [4, 0] [0] (by decide) rfl rfl rfl rfl) rfl rfl hl.1 rfl (lv_room (Nat.le_of_ble_eq_true rfl)) dX7_needs_33 ⟨Nat.le_of_ble_eq_true rfl, Nat.le_of_ble_eq_true rfl⟩) [4, 0] [1, 2, 3, 5, 6] rfl rfl (by decide) (by decide) (fun r_10 u_10 H locs hw_10 h => ?_)
        have h : KS (dC, dI) A [(a5_1, .inl (c5_1, 120, .inl f5_1)), (a5_5, .inl (c5_5, 120, .inl f5_5)), (a5_6, .inl (c5_6, 120, .inl f5_6)), (o5, .inr (5, [.ref a5_0, .ref a5_1, .ref a5_2, .ref a5_3, .ref a5_4, .ref a5_5, .ref a5_6])), (a5_0, .inl (c5_0, 12, .inl f5_0)), (o7, .inr (7, [.ref o2, .ref o5, .ref o3, .ref o4, .ref o1, .ref o0, .ref a7_6, .ref a7_7, .int v7_8, .int v7_9, .int v7_10, .ref a7_11, .int v7_12, .ref a7_13, .int v7_14, .ref a7_15])), (a7_15, .inl (c7_15, 8, .inl (upd f7_15 (-(-6 : Int32)).toNatClampNeg (f7_15 (-(-6 : Int32)).toNatClampNeg + 1))))] [(c7_15, .int), (c5_0, .int), (c5_1, .int), (c5_5, .int), (c5_6, .int)] s H locs := h
        have hw_10 : r_10 = (-6 : Int32) := by first | exact hw_10 | (simp only [Int32.toInt_toInt64] at hw_10; exact hw_10)
        refine k_topi (y := (-6)) (hw_10) ?_
        refine W.eq (g2 := F0 m 36 ls [.int (-6)]) rfl ?_
        have hP9 := h.2.1.sub [5, 6, 3, 4, 0, 1, 2] rfl
        have hD9 := h.2.2.1.sub (ws' := [(o7, .inr (7, [.ref o2, .ref o5, .ref o3, .ref o4, .ref o1, .ref o0, .ref a7_6, .ref a7_7, .int v7_8, .int v7_9, .int v7_10, .ref a7_11, .int v7_12, .ref a7_13, .int v7_14, .ref a7_15])), (a7_15, .inl (c7_15, 8, .inl (upd f7_15 (-(-6 : Int32)).toNatClampNeg (f7_15 (-(-6 : Int32)).toNatClampNeg + 1)))), (o5, .inr (5, [.ref a5_0, .ref a5_1, .ref a5_2, .ref a5_3, .ref a5_4, .ref a5_5, .ref a5_6])), (a5_0, .inl (c5_0, 12, .inl f5_0)), (a5_1, .inl (c5_1, 120, .inl f5_1)), (a5_5, .inl (c5_5, 120, .inl f5_5)), (a5_6, .inl (c5_6, 120, .inl f5_6))]) [5, 6, 3, 4, 0, 1, 2] (by decide) rfl
        exact W.iret (v := (-6)) hx hb hr (fun t ht hW => ⟨⟨(-6), upd f7_15 (-(-6 : Int32)).toNatClampNeg (f7_15 (-(-6 : Int32)).toNatClampNeg + 1), rfl, trivial, (by rw [ht]; exact hP9), hD9⟩, h.2.2.2.1.F ht⟩) h.2.2.2.1.2.2 dX7_needs_36 hlocks
    · skip
      have b_5 := kb0 hw_4 c_5
      refine lv_aload_n hx hb dX7_needs_18 rfl (lv_at hl 0 rfl) ?_
      refine lv_bipush (v := -3) hx hb dX7_needs_19 (by decide) ?_
      refine kc_i (wc := [(o7, .inr (7, [.ref o2, .ref o5, .ref o3, .ref o4, .ref o1, .ref o0, .ref a7_6, .ref a7_7, .int v7_8, .int v7_9, .int v7_10, .ref a7_11, .int v7_12, .ref a7_13, .int v7_14, .ref a7_15])), (a7_15, .inl (c7_15, 8, .inl f7_15))]) (wr := [(a5_1, .inl (c5_1, 120, .inl f5_1)), (a5_5, .inl (c5_5, 120, .inl f5_5)), (a5_6, .inl (c5_6, 120, .inl f5_6)), (o5, .inr (5, [.ref a5_0, .ref a5_1, .ref a5_2, .ref a5_3, .ref a5_4, .ref a5_5, .ref a5_6])), (a5_0, .inl (c5_0, 12, .inl f5_0))]) h (va_runV (As := [.int (-3)]) (rest := []) E (c_X7_refuse l dC dI _ (o7 := o7) (o2 := o2) (o5 := o5) (o3 := o3) (o4 := o4) (o1 := o1) (o0 := o0) (a7_6 := a7_6) (a7_7 := a7_7) (v7_8 := v7_8) (v7_9 := v7_9) (v7_10 := v7_10) (a7_11 := a7_11) (v7_12 := v7_12) (a7_13 := a7_13) (v7_14 := v7_14) (a7_15 := a7_15) (c7_15 := c7_15) (f7_15 := f7_15) (p0 := (-3))  (hp := (by first | decide | omega))) (cwV 1 E.2.2.2.2 gX7_needs_X7_refuse rfl rfl rfl (by decide +kernel) ⟨Nat.le_of_ble_eq_true rfl, Nat.le_of_ble_eq_true rfl⟩) (kPreV (q0 := 4) (ci := 7) h KX_true (fun _ _ _ => trivial) [4, 0] [0] (by decide) rfl rfl rfl rfl) rfl rfl hl.1 rfl (lv_room (Nat.le_of_ble_eq_true rfl)) dX7_needs_21 ⟨Nat.le_of_ble_eq_true rfl, Nat.le_of_ble_eq_true rfl⟩) [4, 0] [1, 2, 3, 5, 6] rfl rfl (by decide) (by decide) (fun r_11 u_11 H locs hw_11 h => ?_)
      have h : KS (dC, dI) A [(a5_1, .inl (c5_1, 120, .inl f5_1)), (a5_5, .inl (c5_5, 120, .inl f5_5)), (a5_6, .inl (c5_6, 120, .inl f5_6)), (o5, .inr (5, [.ref a5_0, .ref a5_1, .ref a5_2, .ref a5_3, .ref a5_4, .ref a5_5, .ref a5_6])), (a5_0, .inl (c5_0, 12, .inl f5_0)), (o7, .inr (7, [.ref o2, .ref o5, .ref o3, .ref o4, .ref o1, .ref o0, .ref a7_6, .ref a7_7, .int v7_8, .int v7_9, .int v7_10, .ref a7_11, .int v7_12, .ref a7_13, .int v7_14, .ref a7_15])), (a7_15, .inl (c7_15, 8, .inl (upd f7_15 (-(-3 : Int32)).toNatClampNeg (f7_15 (-(-3 : Int32)).toNatClampNeg + 1))))] [(c7_15, .int), (c5_0, .int), (c5_1, .int), (c5_5, .int), (c5_6, .int)] s H locs := h
      have hw_11 : r_11 = (-3 : Int32) := by first | exact hw_11 | (simp only [Int32.toInt_toInt64] at hw_11; exact hw_11)
      refine k_topi (y := (-3)) (hw_11) ?_
      refine W.eq (g2 := F0 m 24 ls [.int (-3)]) rfl ?_
      have hP9 := h.2.1.sub [5, 6, 3, 4, 0, 1, 2] rfl
      have hD9 := h.2.2.1.sub (ws' := [(o7, .inr (7, [.ref o2, .ref o5, .ref o3, .ref o4, .ref o1, .ref o0, .ref a7_6, .ref a7_7, .int v7_8, .int v7_9, .int v7_10, .ref a7_11, .int v7_12, .ref a7_13, .int v7_14, .ref a7_15])), (a7_15, .inl (c7_15, 8, .inl (upd f7_15 (-(-3 : Int32)).toNatClampNeg (f7_15 (-(-3 : Int32)).toNatClampNeg + 1)))), (o5, .inr (5, [.ref a5_0, .ref a5_1, .ref a5_2, .ref a5_3, .ref a5_4, .ref a5_5, .ref a5_6])), (a5_0, .inl (c5_0, 12, .inl f5_0)), (a5_1, .inl (c5_1, 120, .inl f5_1)), (a5_5, .inl (c5_5, 120, .inl f5_5)), (a5_6, .inl (c5_6, 120, .inl f5_6))]) [5, 6, 3, 4, 0, 1, 2] (by decide) rfl
      exact W.iret (v := (-3)) hx hb hr (fun t ht hW => ⟨⟨(-3), upd f7_15 (-(-3 : Int32)).toNatClampNeg (f7_15 (-(-3 : Int32)).toNatClampNeg + 1), rfl, trivial, (by rw [ht]; exact hP9), hD9⟩, h.2.2.2.1.F ht⟩) h.2.2.2.1.2.2 dX7_needs_24 hlocks
set_option maxHeartbeats 4000000 in
set_option maxRecDepth 100000 in
theorem c_X8_partOf (l : Launch) (dC : Nat → ClassId) (dI : Nat → Nat → Nat) (sz : Nat) (p0 : Int32)  : Met l yX8_partOf wsX8_partOf ({ frames := 0, cells := 0, slots := 0, locals := 0 } : Room) (va_Pc [.int p0] (KPre (dC, dI) [] [] sz (fun _ => True))) (va_Qi (fun (r : Int32) (u : Unit) => True) (KPost (dC, dI) (va_A [] sz) (fun (u : Unit) => [])) (va_A [] sz)) 0 0 (va_A [] sz) := by
  refine kMet (y := yX8_partOf) (wsM := wsX8_partOf) (cc := cX8_partOf) (maxL := 1) (ret := (some .int)) (rm := ({ frames := 0, cells := 0, slots := 0, locals := 0 } : Room)) (mc := 0) (ms := 0) (av := [.int p0]) (D := (dC, dI)) (wc := []) (tc := []) (sz := sz) (X := fun _ => True) (Qc := fun A => va_Qi (fun (r : Int32) (u : Unit) => True) (KPost (dC, dI) A (fun (u : Unit) => [])) A) (by decide) rfl (Nat.le_of_ble_eq_true rfl) ?_
  intro p e s m below meth c A ls E hr hlocks hnm hsz hAe hX h hl
  have hx := E.1
  have hb := E.2.1
  have hl : lv_has ls 1 [(0, .int p0)] := hl
  refine lv_iload_n hx hb dX8_partOf_0 rfl (lv_at hl 0 rfl) ?_
  refine lv_iconst (v := 1) hx hb dX8_partOf_1 (by decide) ?_
  refine lv_icmp_gt (tgt := 9) hx hb dX8_partOf_2 (by decide) (fun c_1 => ?_) (fun c_1 => ?_)
  · skip
    have i_1 : 1 < p0.toInt := (fa_lt _ _).mp c_1
    refine lv_iload_n hx hb dX8_partOf_9 rfl (lv_at hl 0 rfl) ?_
    refine lv_iconst (v := 5) hx hb dX8_partOf_10 (by decide) ?_
    refine lv_icmp_gt (tgt := 18) hx hb dX8_partOf_11 (by decide) (fun c_2 => ?_) (fun c_2 => ?_)
    · skip
      have i_2 : 5 < p0.toInt := (fa_lt _ _).mp c_2
      refine lv_iload_n hx hb dX8_partOf_18 rfl (lv_at hl 0 rfl) ?_
      refine lv_bipush (v := 6) hx hb dX8_partOf_19 (by decide) ?_
      refine lv_icmp_ne (tgt := 28) hx hb dX8_partOf_21 (by decide) (fun c_3 => ?_) (fun c_3 => ?_)
      · skip
        have i_3 : ¬ p0.toInt = 6 := fun h9 => c_3 ((fa_eq _ _).mpr h9)
        refine lv_iload_n hx hb dX8_partOf_28 rfl (lv_at hl 0 rfl) ?_
        refine lv_bipush (v := 8) hx hb dX8_partOf_29 (by decide) ?_
        refine lv_icmp_gt (tgt := 38) hx hb dX8_partOf_31 (by decide) (fun c_4 => ?_) (fun c_4 => ?_)
        · skip
          have i_4 : 8 < p0.toInt := (fa_lt _ _).mp c_4
          refine lv_iconst (v := 4) hx hb dX8_partOf_38 (by decide) ?_
          have hP9 := h.2.1.sub [] rfl
          have hD9 := h.2.2.1.sub (ws' := []) [] (by decide) rfl
          exact W.iret (v := 4) hx hb hr (fun t ht hW => ⟨⟨4, (), rfl, trivial, (by rw [ht]; exact hP9), hD9⟩, h.2.2.2.1.F ht⟩) h.2.2.2.1.2.2 dX8_partOf_39 hlocks
        · skip
          have i_4 : ¬ 8 < p0.toInt := fun h9 => c_4 ((fa_lt _ _).mpr h9)
          refine lv_iconst (v := 3) hx hb dX8_partOf_34 (by decide) ?_
          refine lv_goto (tgt := 39) hx hb dX8_partOf_35 (by decide) ?_
          have hP9 := h.2.1.sub [] rfl
          have hD9 := h.2.2.1.sub (ws' := []) [] (by decide) rfl
          exact W.iret (v := 3) hx hb hr (fun t ht hW => ⟨⟨3, (), rfl, trivial, (by rw [ht]; exact hP9), hD9⟩, h.2.2.2.1.F ht⟩) h.2.2.2.1.2.2 dX8_partOf_39 hlocks
      · skip
        have i_3 : p0.toInt = 6 := (fa_eq _ _).mp c_3
        refine lv_iconst (v := 2) hx hb dX8_partOf_24 (by decide) ?_
        refine lv_goto (tgt := 39) hx hb dX8_partOf_25 (by decide) ?_
        have hP9 := h.2.1.sub [] rfl
        have hD9 := h.2.2.1.sub (ws' := []) [] (by decide) rfl
        exact W.iret (v := 2) hx hb hr (fun t ht hW => ⟨⟨2, (), rfl, trivial, (by rw [ht]; exact hP9), hD9⟩, h.2.2.2.1.F ht⟩) h.2.2.2.1.2.2 dX8_partOf_39 hlocks
    · skip
      have i_2 : ¬ 5 < p0.toInt := fun h9 => c_2 ((fa_lt _ _).mpr h9)
      refine lv_iconst (v := 1) hx hb dX8_partOf_14 (by decide) ?_
      refine lv_goto (tgt := 39) hx hb dX8_partOf_15 (by decide) ?_
      have hP9 := h.2.1.sub [] rfl
      have hD9 := h.2.2.1.sub (ws' := []) [] (by decide) rfl
      exact W.iret (v := 1) hx hb hr (fun t ht hW => ⟨⟨1, (), rfl, trivial, (by rw [ht]; exact hP9), hD9⟩, h.2.2.2.1.F ht⟩) h.2.2.2.1.2.2 dX8_partOf_39 hlocks
  · skip
    have i_1 : ¬ 1 < p0.toInt := fun h9 => c_1 ((fa_lt _ _).mpr h9)
    refine lv_iconst (v := 0) hx hb dX8_partOf_5 (by decide) ?_
    refine lv_goto (tgt := 39) hx hb dX8_partOf_6 (by decide) ?_
    have hP9 := h.2.1.sub [] rfl
    have hD9 := h.2.2.1.sub (ws' := []) [] (by decide) rfl
    exact W.iret (v := 0) hx hb hr (fun t ht hW => ⟨⟨0, (), rfl, trivial, (by rw [ht]; exact hP9), hD9⟩, h.2.2.2.1.F ht⟩) h.2.2.2.1.2.2 dX8_partOf_39 hlocks
set_option maxHeartbeats 4000000 in
set_option maxRecDepth 100000 in
theorem c_X8_canTrap (l : Launch) (dC : Nat → ClassId) (dI : Nat → Nat → Nat) (sz : Nat) (p0 : Int32)  : Met l yX8_canTrap wsX8_canTrap ({ frames := 0, cells := 0, slots := 0, locals := 0 } : Room) (va_Pc [.int p0] (KPre (dC, dI) [] [] sz (fun _ => True))) (va_Qi (fun (r : Int32) (u : Unit) => r = if (p0.toInt = 7 ∨ p0.toInt = 8 ∨ p0.toInt = 10) then 1 else 0) (KPost (dC, dI) (va_A [] sz) (fun (u : Unit) => [])) (va_A [] sz)) 0 0 (va_A [] sz) := by
  refine kMet (y := yX8_canTrap) (wsM := wsX8_canTrap) (cc := cX8_canTrap) (maxL := 1) (ret := (some .boolean)) (rm := ({ frames := 0, cells := 0, slots := 0, locals := 0 } : Room)) (mc := 0) (ms := 0) (av := [.int p0]) (D := (dC, dI)) (wc := []) (tc := []) (sz := sz) (X := fun _ => True) (Qc := fun A => va_Qi (fun (r : Int32) (u : Unit) => r = if (p0.toInt = 7 ∨ p0.toInt = 8 ∨ p0.toInt = 10) then 1 else 0) (KPost (dC, dI) A (fun (u : Unit) => [])) A) (by decide) rfl (Nat.le_of_ble_eq_true rfl) ?_
  intro p e s m below meth c A ls E hr hlocks hnm hsz hAe hX h hl
  have hx := E.1
  have hb := E.2.1
  have hl : lv_has ls 1 [(0, .int p0)] := hl
  refine lv_iload_n hx hb dX8_canTrap_0 rfl (lv_at hl 0 rfl) ?_
  refine lv_bipush (v := 7) hx hb dX8_canTrap_1 (by decide) ?_
  refine lv_icmp_eq (tgt := 18) hx hb dX8_canTrap_3 (by decide) (fun c_1 => ?_) (fun c_1 => ?_)
  · skip
    have i_1 : p0.toInt = 7 := (fa_eq _ _).mp c_1
    refine lv_iconst (v := 1) hx hb dX8_canTrap_18 (by decide) ?_
    refine lv_goto (tgt := 23) hx hb dX8_canTrap_19 (by decide) ?_
    have hP9 := h.2.1.sub [] rfl
    have hD9 := h.2.2.1.sub (ws' := []) [] (by decide) rfl
    exact W.zret (v := 1) hx hb hr (by decide) (fun t ht hW => ⟨⟨1, (), rfl, (by (first | rw [] | skip); (repeat' split) <;> first | rfl | contradiction | omega), (by rw [ht]; exact hP9), hD9⟩, h.2.2.2.1.F ht⟩) h.2.2.2.1.2.2 dX8_canTrap_23 hlocks
  · skip
    have i_1 : ¬ p0.toInt = 7 := fun h9 => c_1 ((fa_eq _ _).mpr h9)
    refine lv_iload_n hx hb dX8_canTrap_6 rfl (lv_at hl 0 rfl) ?_
    refine lv_bipush (v := 8) hx hb dX8_canTrap_7 (by decide) ?_
    refine lv_icmp_eq (tgt := 18) hx hb dX8_canTrap_9 (by decide) (fun c_2 => ?_) (fun c_2 => ?_)
    · skip
      have i_2 : p0.toInt = 8 := (fa_eq _ _).mp c_2
      refine lv_iconst (v := 1) hx hb dX8_canTrap_18 (by decide) ?_
      refine lv_goto (tgt := 23) hx hb dX8_canTrap_19 (by decide) ?_
      have hP9 := h.2.1.sub [] rfl
      have hD9 := h.2.2.1.sub (ws' := []) [] (by decide) rfl
      exact W.zret (v := 1) hx hb hr (by decide) (fun t ht hW => ⟨⟨1, (), rfl, (by (first | rw [] | skip); (repeat' split) <;> first | rfl | contradiction | omega), (by rw [ht]; exact hP9), hD9⟩, h.2.2.2.1.F ht⟩) h.2.2.2.1.2.2 dX8_canTrap_23 hlocks
    · skip
      have i_2 : ¬ p0.toInt = 8 := fun h9 => c_2 ((fa_eq _ _).mpr h9)
      refine lv_iload_n hx hb dX8_canTrap_12 rfl (lv_at hl 0 rfl) ?_
      refine lv_bipush (v := 10) hx hb dX8_canTrap_13 (by decide) ?_
      refine lv_icmp_ne (tgt := 22) hx hb dX8_canTrap_15 (by decide) (fun c_3 => ?_) (fun c_3 => ?_)
      · skip
        have i_3 : ¬ p0.toInt = 10 := fun h9 => c_3 ((fa_eq _ _).mpr h9)
        refine lv_iconst (v := 0) hx hb dX8_canTrap_22 (by decide) ?_
        have hP9 := h.2.1.sub [] rfl
        have hD9 := h.2.2.1.sub (ws' := []) [] (by decide) rfl
        exact W.zret (v := 0) hx hb hr (by decide) (fun t ht hW => ⟨⟨0, (), rfl, (by (first | rw [] | skip); (repeat' split) <;> first | rfl | contradiction | omega), (by rw [ht]; exact hP9), hD9⟩, h.2.2.2.1.F ht⟩) h.2.2.2.1.2.2 dX8_canTrap_23 hlocks
      · skip
        have i_3 : p0.toInt = 10 := (fa_eq _ _).mp c_3
        refine lv_iconst (v := 1) hx hb dX8_canTrap_18 (by decide) ?_
        refine lv_goto (tgt := 23) hx hb dX8_canTrap_19 (by decide) ?_
        have hP9 := h.2.1.sub [] rfl
        have hD9 := h.2.2.1.sub (ws' := []) [] (by decide) rfl
        exact W.zret (v := 1) hx hb hr (by decide) (fun t ht hW => ⟨⟨1, (), rfl, (by (first | rw [] | skip); (repeat' split) <;> first | rfl | contradiction | omega), (by rw [ht]; exact hP9), hD9⟩, h.2.2.2.1.F ht⟩) h.2.2.2.1.2.2 dX8_canTrap_23 hlocks
set_option maxHeartbeats 4000000 in
set_option maxRecDepth 100000 in
theorem c_X8_reads (l : Launch) (dC : Nat → ClassId) (dI : Nat → Nat → Nat) (sz : Nat) (o8 : Nat) (a8_0 : Nat) (a8_1 : Nat) (a8_2 : Nat) (a8_3 : Nat) (a8_4 : Nat) (a8_5 : Nat) (v8_6 : Int32) (a8_7 : Nat) (a8_8 : Nat) (a8_9 : Nat) (a8_10 : Nat) (a8_11 : Nat) (v8_12 : Int32) (a8_13 : Nat) (a8_14 : Nat) (a8_15 : Nat) (a8_16 : Nat) (a8_17 : Nat) (a8_18 : Nat) (a8_19 : Nat) (a8_20 : Nat) (a8_21 : Nat) (a8_22 : Nat) (a8_23 : Nat) (a8_24 : Nat) (v8_25 : Int32) (v8_26 : Int32) (a8_27 : Nat) (a8_28 : Nat) (a8_29 : Nat) (a8_30 : Nat) (a8_31 : Nat) (v8_32 : Int32) (v8_33 : Int32) (v8_34 : Int32) (v8_35 : Int32) (a8_36 : Nat) (a8_37 : Nat) (v8_38 : Int32) (v8_39 : Int32) (v8_40 : Int32) (a8_41 : Nat) (a8_42 : Nat) (v8_43 : Int32) (c8_7 : ClassId) (f8_7 : Nat → Int32) (c8_8 : ClassId) (f8_8 : Nat → Int32) (c8_9 : ClassId) (f8_9 : Nat → Int32) (c8_10 : ClassId) (f8_10 : Nat → Int32) (p0 : Int32) (hp : 0 ≤ p0.toInt ∧ p0.toInt < 120) : Met l yX8_reads wsX8_reads ({ frames := 0, cells := 0, slots := 0, locals := 0 } : Room) (va_Pc [.ref o8, .int p0] (KPre (dC, dI) [(o8, .inr (8, [.ref a8_0, .ref a8_1, .ref a8_2, .ref a8_3, .ref a8_4, .ref a8_5, .int v8_6, .ref a8_7, .ref a8_8, .ref a8_9, .ref a8_10, .ref a8_11, .int v8_12, .ref a8_13, .ref a8_14, .ref a8_15, .ref a8_16, .ref a8_17, .ref a8_18, .ref a8_19, .ref a8_20, .ref a8_21, .ref a8_22, .ref a8_23, .ref a8_24, .int v8_25, .int v8_26, .ref a8_27, .ref a8_28, .ref a8_29, .ref a8_30, .ref a8_31, .int v8_32, .int v8_33, .int v8_34, .int v8_35, .ref a8_36, .ref a8_37, .int v8_38, .int v8_39, .int v8_40, .ref a8_41, .ref a8_42, .int v8_43])), (a8_7, .inl (c8_7, 120, .inl f8_7)), (a8_8, .inl (c8_8, 120, .inl f8_8)), (a8_9, .inl (c8_9, 120, .inl f8_9)), (a8_10, .inl (c8_10, 120, .inl f8_10))] [(c8_7, .int), (c8_8, .int), (c8_9, .int), (c8_10, .int)] sz (fun _ => True))) (va_Qi (fun (r : Int32) (u : Unit) => True) (KPost (dC, dI) (va_A [(o8, .inr (8, [.ref a8_0, .ref a8_1, .ref a8_2, .ref a8_3, .ref a8_4, .ref a8_5, .int v8_6, .ref a8_7, .ref a8_8, .ref a8_9, .ref a8_10, .ref a8_11, .int v8_12, .ref a8_13, .ref a8_14, .ref a8_15, .ref a8_16, .ref a8_17, .ref a8_18, .ref a8_19, .ref a8_20, .ref a8_21, .ref a8_22, .ref a8_23, .ref a8_24, .int v8_25, .int v8_26, .ref a8_27, .ref a8_28, .ref a8_29, .ref a8_30, .ref a8_31, .int v8_32, .int v8_33, .int v8_34, .int v8_35, .ref a8_36, .ref a8_37, .int v8_38, .int v8_39, .int v8_40, .ref a8_41, .ref a8_42, .int v8_43])), (a8_7, .inl (c8_7, 120, .inl f8_7)), (a8_8, .inl (c8_8, 120, .inl f8_8)), (a8_9, .inl (c8_9, 120, .inl f8_9)), (a8_10, .inl (c8_10, 120, .inl f8_10))] sz) (fun (u : Unit) => [(o8, .inr (8, [.ref a8_0, .ref a8_1, .ref a8_2, .ref a8_3, .ref a8_4, .ref a8_5, .int v8_6, .ref a8_7, .ref a8_8, .ref a8_9, .ref a8_10, .ref a8_11, .int v8_12, .ref a8_13, .ref a8_14, .ref a8_15, .ref a8_16, .ref a8_17, .ref a8_18, .ref a8_19, .ref a8_20, .ref a8_21, .ref a8_22, .ref a8_23, .ref a8_24, .int v8_25, .int v8_26, .ref a8_27, .ref a8_28, .ref a8_29, .ref a8_30, .ref a8_31, .int v8_32, .int v8_33, .int v8_34, .int v8_35, .ref a8_36, .ref a8_37, .int v8_38, .int v8_39, .int v8_40, .ref a8_41, .ref a8_42, .int v8_43])), (a8_7, .inl (c8_7, 120, .inl f8_7)), (a8_8, .inl (c8_8, 120, .inl f8_8)), (a8_9, .inl (c8_9, 120, .inl f8_9)), (a8_10, .inl (c8_10, 120, .inl f8_10))])) (va_A [(o8, .inr (8, [.ref a8_0, .ref a8_1, .ref a8_2, .ref a8_3, .ref a8_4, .ref a8_5, .int v8_6, .ref a8_7, .ref a8_8, .ref a8_9, .ref a8_10, .ref a8_11, .int v8_12, .ref a8_13, .ref a8_14, .ref a8_15, .ref a8_16, .ref a8_17, .ref a8_18, .ref a8_19, .ref a8_20, .ref a8_21, .ref a8_22, .ref a8_23, .ref a8_24, .int v8_25, .int v8_26, .ref a8_27, .ref a8_28, .ref a8_29, .ref a8_30, .ref a8_31, .int v8_32, .int v8_33, .int v8_34, .int v8_35, .ref a8_36, .ref a8_37, .int v8_38, .int v8_39, .int v8_40, .ref a8_41, .ref a8_42, .int v8_43])), (a8_7, .inl (c8_7, 120, .inl f8_7)), (a8_8, .inl (c8_8, 120, .inl f8_8)), (a8_9, .inl (c8_9, 120, .inl f8_9)), (a8_10, .inl (c8_10, 120, .inl f8_10))] sz)) 0 0 (va_A [(o8, .inr (8, [.ref a8_0, .ref a8_1, .ref a8_2, .ref a8_3, .ref a8_4, .ref a8_5, .int v8_6, .ref a8_7, .ref a8_8, .ref a8_9, .ref a8_10, .ref a8_11, .int v8_12, .ref a8_13, .ref a8_14, .ref a8_15, .ref a8_16, .ref a8_17, .ref a8_18, .ref a8_19, .ref a8_20, .ref a8_21, .ref a8_22, .ref a8_23, .ref a8_24, .int v8_25, .int v8_26, .ref a8_27, .ref a8_28, .ref a8_29, .ref a8_30, .ref a8_31, .int v8_32, .int v8_33, .int v8_34, .int v8_35, .ref a8_36, .ref a8_37, .int v8_38, .int v8_39, .int v8_40, .ref a8_41, .ref a8_42, .int v8_43])), (a8_7, .inl (c8_7, 120, .inl f8_7)), (a8_8, .inl (c8_8, 120, .inl f8_8)), (a8_9, .inl (c8_9, 120, .inl f8_9)), (a8_10, .inl (c8_10, 120, .inl f8_10))] sz) := by
  refine kMet (y := yX8_reads) (wsM := wsX8_reads) (cc := cX8_reads) (maxL := 3) (ret := (some .int)) (rm := ({ frames := 0, cells := 0, slots := 0, locals := 0 } : Room)) (mc := 0) (ms := 0) (av := [.ref o8, .int p0]) (D := (dC, dI)) (wc := [(o8, .inr (8, [.ref a8_0, .ref a8_1, .ref a8_2, .ref a8_3, .ref a8_4, .ref a8_5, .int v8_6, .ref a8_7, .ref a8_8, .ref a8_9, .ref a8_10, .ref a8_11, .int v8_12, .ref a8_13, .ref a8_14, .ref a8_15, .ref a8_16, .ref a8_17, .ref a8_18, .ref a8_19, .ref a8_20, .ref a8_21, .ref a8_22, .ref a8_23, .ref a8_24, .int v8_25, .int v8_26, .ref a8_27, .ref a8_28, .ref a8_29, .ref a8_30, .ref a8_31, .int v8_32, .int v8_33, .int v8_34, .int v8_35, .ref a8_36, .ref a8_37, .int v8_38, .int v8_39, .int v8_40, .ref a8_41, .ref a8_42, .int v8_43])), (a8_7, .inl (c8_7, 120, .inl f8_7)), (a8_8, .inl (c8_8, 120, .inl f8_8)), (a8_9, .inl (c8_9, 120, .inl f8_9)), (a8_10, .inl (c8_10, 120, .inl f8_10))]) (tc := [(c8_7, .int), (c8_8, .int), (c8_9, .int), (c8_10, .int)]) (sz := sz) (X := fun _ => True) (Qc := fun A => va_Qi (fun (r : Int32) (u : Unit) => True) (KPost (dC, dI) A (fun (u : Unit) => [(o8, .inr (8, [.ref a8_0, .ref a8_1, .ref a8_2, .ref a8_3, .ref a8_4, .ref a8_5, .int v8_6, .ref a8_7, .ref a8_8, .ref a8_9, .ref a8_10, .ref a8_11, .int v8_12, .ref a8_13, .ref a8_14, .ref a8_15, .ref a8_16, .ref a8_17, .ref a8_18, .ref a8_19, .ref a8_20, .ref a8_21, .ref a8_22, .ref a8_23, .ref a8_24, .int v8_25, .int v8_26, .ref a8_27, .ref a8_28, .ref a8_29, .ref a8_30, .ref a8_31, .int v8_32, .int v8_33, .int v8_34, .int v8_35, .ref a8_36, .ref a8_37, .int v8_38, .int v8_39, .int v8_40, .ref a8_41, .ref a8_42, .int v8_43])), (a8_7, .inl (c8_7, 120, .inl f8_7)), (a8_8, .inl (c8_8, 120, .inl f8_8)), (a8_9, .inl (c8_9, 120, .inl f8_9)), (a8_10, .inl (c8_10, 120, .inl f8_10))])) A) (by decide) rfl (Nat.le_of_ble_eq_true rfl) ?_
  intro p e s m below meth c A ls E hr hlocks hnm hsz hAe hX h hl
  have hx := E.1
  have hb := E.2.1
  have hl : lv_has ls 3 [(0, .ref o8), (1, .int p0)] := hl
  refine lv_iconst (v := 0) hx hb dX8_reads_0 (by decide) ?_
  refine lv_istore_n (lv' := [(2, .int 0), (0, .ref o8), (1, .int p0)]) hx hb dX8_reads_1 rfl hl (by decide) rfl (fun ls hl => ?_)
  refine lv_aload_n hx hb dX8_reads_2 rfl (lv_at hl 1 rfl) ?_
  refine k_get (v := .ref a8_7) E h (fun w h => List.mem_cons_of_mem _ (List.mem_append_right _ h)) 0 rfl rfl 7 (by decide) (List.mem_of_getElem? (i := 1) rfl) rfl dX8_reads_3 ?_
  refine lv_iload_n hx hb dX8_reads_6 rfl (lv_at hl 2 rfl) ?_
  refine k_iald (v := f8_7 p0.toNatClampNeg) E h 1 0 rfl rfl (vp_in_iff.mpr (by omega)) rfl dX8_reads_7 ?_
  refine lv_iconst (v := 1) hx hb dX8_reads_8 (by decide) ?_
  refine lv_icmp_lt (tgt := 34) hx hb dX8_reads_9 (by decide) (fun c_1 => ?_) (fun c_1 => ?_)
  · skip
    have i_1 : (f8_7 p0.toNatClampNeg).toInt < 1 := (fa_lt _ _).mp c_1
    refine lv_aload_n hx hb dX8_reads_34 rfl (lv_at hl 1 rfl) ?_
    refine k_get (v := .ref a8_7) E h (fun w h => List.mem_cons_of_mem _ (List.mem_append_right _ h)) 0 rfl rfl 7 (by decide) (List.mem_of_getElem? (i := 1) rfl) rfl dX8_reads_35 ?_
    refine lv_iload_n hx hb dX8_reads_38 rfl (lv_at hl 2 rfl) ?_
    refine k_iald (v := f8_7 p0.toNatClampNeg) E h 1 0 rfl rfl (vp_in_iff.mpr (by omega)) rfl dX8_reads_39 ?_
    refine lv_iconst (v := 2) hx hb dX8_reads_40 (by decide) ?_
    refine lv_icmp_lt (tgt := 54) hx hb dX8_reads_41 (by decide) (fun c_2 => ?_) (fun c_2 => ?_)
    · skip
      have i_2 : (f8_7 p0.toNatClampNeg).toInt < 2 := (fa_lt _ _).mp c_2
      refine lv_aload_n hx hb dX8_reads_54 rfl (lv_at hl 1 rfl) ?_
      refine k_get (v := .ref a8_7) E h (fun w h => List.mem_cons_of_mem _ (List.mem_append_right _ h)) 0 rfl rfl 7 (by decide) (List.mem_of_getElem? (i := 1) rfl) rfl dX8_reads_55 ?_
      refine lv_iload_n hx hb dX8_reads_58 rfl (lv_at hl 2 rfl) ?_
      refine k_iald (v := f8_7 p0.toNatClampNeg) E h 1 0 rfl rfl (vp_in_iff.mpr (by omega)) rfl dX8_reads_59 ?_
      refine lv_bipush (v := 8) hx hb dX8_reads_60 (by decide) ?_
      refine lv_icmp_ne (tgt := 76) hx hb dX8_reads_62 (by decide) (fun c_3 => ?_) (fun c_3 => ?_)
      · skip
        have i_3 : ¬ (f8_7 p0.toNatClampNeg).toInt = 8 := fun h9 => c_3 ((fa_eq _ _).mpr h9)
        refine lv_aload_n hx hb dX8_reads_76 rfl (lv_at hl 1 rfl) ?_
        refine k_get (v := .ref a8_7) E h (fun w h => List.mem_cons_of_mem _ (List.mem_append_right _ h)) 0 rfl rfl 7 (by decide) (List.mem_of_getElem? (i := 1) rfl) rfl dX8_reads_77 ?_
        refine lv_iload_n hx hb dX8_reads_80 rfl (lv_at hl 2 rfl) ?_
        refine k_iald (v := f8_7 p0.toNatClampNeg) E h 1 0 rfl rfl (vp_in_iff.mpr (by omega)) rfl dX8_reads_81 ?_
        refine lv_bipush (v := 7) hx hb dX8_reads_82 (by decide) ?_
        refine lv_icmp_ne (tgt := 93) hx hb dX8_reads_84 (by decide) (fun c_4 => ?_) (fun c_4 => ?_)
        · skip
          have i_4 : ¬ (f8_7 p0.toNatClampNeg).toInt = 7 := fun h9 => c_4 ((fa_eq _ _).mpr h9)
          refine lv_aload_n hx hb dX8_reads_93 rfl (lv_at hl 1 rfl) ?_
          refine k_get (v := .ref a8_7) E h (fun w h => List.mem_cons_of_mem _ (List.mem_append_right _ h)) 0 rfl rfl 7 (by decide) (List.mem_of_getElem? (i := 1) rfl) rfl dX8_reads_94 ?_
          refine lv_iload_n hx hb dX8_reads_97 rfl (lv_at hl 2 rfl) ?_
          refine k_iald (v := f8_7 p0.toNatClampNeg) E h 1 0 rfl rfl (vp_in_iff.mpr (by omega)) rfl dX8_reads_98 ?_
          refine lv_bipush (v := 9) hx hb dX8_reads_99 (by decide) ?_
          refine lv_icmp_lt (tgt := 118) hx hb dX8_reads_101 (by decide) (fun c_5 => ?_) (fun c_5 => ?_)
          · skip
            have i_5 : (f8_7 p0.toNatClampNeg).toInt < 9 := (fa_lt _ _).mp c_5
            refine lv_iload_n hx hb dX8_reads_118 rfl (lv_at hl 0 rfl) ?_
            have hP9 := h.2.1.sub [0, 1, 2, 3, 4] rfl
            have hD9 := h.2.2.1.sub (ws' := [(o8, .inr (8, [.ref a8_0, .ref a8_1, .ref a8_2, .ref a8_3, .ref a8_4, .ref a8_5, .int v8_6, .ref a8_7, .ref a8_8, .ref a8_9, .ref a8_10, .ref a8_11, .int v8_12, .ref a8_13, .ref a8_14, .ref a8_15, .ref a8_16, .ref a8_17, .ref a8_18, .ref a8_19, .ref a8_20, .ref a8_21, .ref a8_22, .ref a8_23, .ref a8_24, .int v8_25, .int v8_26, .ref a8_27, .ref a8_28, .ref a8_29, .ref a8_30, .ref a8_31, .int v8_32, .int v8_33, .int v8_34, .int v8_35, .ref a8_36, .ref a8_37, .int v8_38, .int v8_39, .int v8_40, .ref a8_41, .ref a8_42, .int v8_43])), (a8_7, .inl (c8_7, 120, .inl f8_7)), (a8_8, .inl (c8_8, 120, .inl f8_8)), (a8_9, .inl (c8_9, 120, .inl f8_9)), (a8_10, .inl (c8_10, 120, .inl f8_10))]) [0, 1, 2, 3, 4] (by decide) rfl
            exact W.iret (v := 0) hx hb hr (fun t ht hW => ⟨⟨0, (), rfl, trivial, (by rw [ht]; exact hP9), hD9⟩, h.2.2.2.1.F ht⟩) h.2.2.2.1.2.2 dX8_reads_119 hlocks
          · skip
            have i_5 : ¬ (f8_7 p0.toNatClampNeg).toInt < 9 := fun h9 => c_5 ((fa_lt _ _).mpr h9)
            refine lv_iload_n hx hb dX8_reads_104 rfl (lv_at hl 0 rfl) ?_
            refine lv_iconst (v := 1) hx hb dX8_reads_105 (by decide) ?_
            refine lv_bipush (v := 8) hx hb dX8_reads_106 (by decide) ?_
            refine lv_aload_n hx hb dX8_reads_108 rfl (lv_at hl 1 rfl) ?_
            refine k_get (v := .ref a8_9) E h (fun w h => List.mem_cons_of_mem _ (List.mem_append_right _ h)) 0 rfl rfl 9 (by decide) (List.mem_of_getElem? (i := 2) rfl) rfl dX8_reads_109 ?_
            refine lv_iload_n hx hb dX8_reads_112 rfl (lv_at hl 2 rfl) ?_
            refine k_iald (v := f8_9 p0.toNatClampNeg) E h 3 2 rfl rfl (vp_in_iff.mpr (by omega)) rfl dX8_reads_113 ?_
            refine lv_iadd hx hb dX8_reads_114 ?_
            refine lv_ishl hx hb dX8_reads_115 ?_
            refine lv_ior hx hb dX8_reads_116 ?_
            refine lv_istore_n (lv' := [(2, .int ((0 : Int32) ||| ((1 : Int32) <<< ((8 + (f8_9 p0.toNatClampNeg)) &&& 31)))), (0, .ref o8), (1, .int p0)]) hx hb dX8_reads_117 rfl hl (by decide) rfl (fun ls hl => ?_)
            refine W.eq (g2 := F0 m 118 ls []) rfl ?_
            refine lv_iload_n hx hb dX8_reads_118 rfl (lv_at hl 0 rfl) ?_
            have hP9 := h.2.1.sub [0, 1, 2, 3, 4] rfl
            have hD9 := h.2.2.1.sub (ws' := [(o8, .inr (8, [.ref a8_0, .ref a8_1, .ref a8_2, .ref a8_3, .ref a8_4, .ref a8_5, .int v8_6, .ref a8_7, .ref a8_8, .ref a8_9, .ref a8_10, .ref a8_11, .int v8_12, .ref a8_13, .ref a8_14, .ref a8_15, .ref a8_16, .ref a8_17, .ref a8_18, .ref a8_19, .ref a8_20, .ref a8_21, .ref a8_22, .ref a8_23, .ref a8_24, .int v8_25, .int v8_26, .ref a8_27, .ref a8_28, .ref a8_29, .ref a8_30, .ref a8_31, .int v8_32, .int v8_33, .int v8_34, .int v8_35, .ref a8_36, .ref a8_37, .int v8_38, .int v8_39, .int v8_40, .ref a8_41, .ref a8_42, .int v8_43])), (a8_7, .inl (c8_7, 120, .inl f8_7)), (a8_8, .inl (c8_8, 120, .inl f8_8)), (a8_9, .inl (c8_9, 120, .inl f8_9)), (a8_10, .inl (c8_10, 120, .inl f8_10))]) [0, 1, 2, 3, 4] (by decide) rfl
            exact W.iret (v := (0 : Int32) ||| ((1 : Int32) <<< ((8 + (f8_9 p0.toNatClampNeg)) &&& 31))) hx hb hr (fun t ht hW => ⟨⟨(0 : Int32) ||| ((1 : Int32) <<< ((8 + (f8_9 p0.toNatClampNeg)) &&& 31)), (), rfl, trivial, (by rw [ht]; exact hP9), hD9⟩, h.2.2.2.1.F ht⟩) h.2.2.2.1.2.2 dX8_reads_119 hlocks
        · skip
          have i_4 : (f8_7 p0.toNatClampNeg).toInt = 7 := (fa_eq _ _).mp c_4
          refine lv_iload_n hx hb dX8_reads_87 rfl (lv_at hl 0 rfl) ?_
          refine lv_sipush (v := 1024) hx hb dX8_reads_88 (by decide) ?_
          refine lv_ior hx hb dX8_reads_91 ?_
          refine k_topi (y := 1024) (by decide) ?_
          refine lv_istore_n (lv' := [(2, .int 1024), (0, .ref o8), (1, .int p0)]) hx hb dX8_reads_92 rfl hl (by decide) rfl (fun ls hl => ?_)
          refine lv_aload_n hx hb dX8_reads_93 rfl (lv_at hl 1 rfl) ?_
          refine k_get (v := .ref a8_7) E h (fun w h => List.mem_cons_of_mem _ (List.mem_append_right _ h)) 0 rfl rfl 7 (by decide) (List.mem_of_getElem? (i := 1) rfl) rfl dX8_reads_94 ?_
          refine lv_iload_n hx hb dX8_reads_97 rfl (lv_at hl 2 rfl) ?_
          refine k_iald (v := f8_7 p0.toNatClampNeg) E h 1 0 rfl rfl (vp_in_iff.mpr (by omega)) rfl dX8_reads_98 ?_
          refine lv_bipush (v := 9) hx hb dX8_reads_99 (by decide) ?_
          refine lv_icmp_lt (tgt := 118) hx hb dX8_reads_101 (by decide) (fun c_6 => ?_) (fun c_6 => ?_)
          · skip
            have i_6 : (f8_7 p0.toNatClampNeg).toInt < 9 := (fa_lt _ _).mp c_6
            refine lv_iload_n hx hb dX8_reads_118 rfl (lv_at hl 0 rfl) ?_
            have hP9 := h.2.1.sub [0, 1, 2, 3, 4] rfl
            have hD9 := h.2.2.1.sub (ws' := [(o8, .inr (8, [.ref a8_0, .ref a8_1, .ref a8_2, .ref a8_3, .ref a8_4, .ref a8_5, .int v8_6, .ref a8_7, .ref a8_8, .ref a8_9, .ref a8_10, .ref a8_11, .int v8_12, .ref a8_13, .ref a8_14, .ref a8_15, .ref a8_16, .ref a8_17, .ref a8_18, .ref a8_19, .ref a8_20, .ref a8_21, .ref a8_22, .ref a8_23, .ref a8_24, .int v8_25, .int v8_26, .ref a8_27, .ref a8_28, .ref a8_29, .ref a8_30, .ref a8_31, .int v8_32, .int v8_33, .int v8_34, .int v8_35, .ref a8_36, .ref a8_37, .int v8_38, .int v8_39, .int v8_40, .ref a8_41, .ref a8_42, .int v8_43])), (a8_7, .inl (c8_7, 120, .inl f8_7)), (a8_8, .inl (c8_8, 120, .inl f8_8)), (a8_9, .inl (c8_9, 120, .inl f8_9)), (a8_10, .inl (c8_10, 120, .inl f8_10))]) [0, 1, 2, 3, 4] (by decide) rfl
            exact W.iret (v := 1024) hx hb hr (fun t ht hW => ⟨⟨1024, (), rfl, trivial, (by rw [ht]; exact hP9), hD9⟩, h.2.2.2.1.F ht⟩) h.2.2.2.1.2.2 dX8_reads_119 hlocks
          · skip
            have i_6 : ¬ (f8_7 p0.toNatClampNeg).toInt < 9 := fun h9 => c_6 ((fa_lt _ _).mpr h9)
            refine lv_iload_n hx hb dX8_reads_104 rfl (lv_at hl 0 rfl) ?_
            refine lv_iconst (v := 1) hx hb dX8_reads_105 (by decide) ?_
            refine lv_bipush (v := 8) hx hb dX8_reads_106 (by decide) ?_
            refine lv_aload_n hx hb dX8_reads_108 rfl (lv_at hl 1 rfl) ?_
            refine k_get (v := .ref a8_9) E h (fun w h => List.mem_cons_of_mem _ (List.mem_append_right _ h)) 0 rfl rfl 9 (by decide) (List.mem_of_getElem? (i := 2) rfl) rfl dX8_reads_109 ?_
            refine lv_iload_n hx hb dX8_reads_112 rfl (lv_at hl 2 rfl) ?_
            refine k_iald (v := f8_9 p0.toNatClampNeg) E h 3 2 rfl rfl (vp_in_iff.mpr (by omega)) rfl dX8_reads_113 ?_
            refine lv_iadd hx hb dX8_reads_114 ?_
            refine lv_ishl hx hb dX8_reads_115 ?_
            refine lv_ior hx hb dX8_reads_116 ?_
            refine lv_istore_n (lv' := [(2, .int ((1024 : Int32) ||| ((1 : Int32) <<< ((8 + (f8_9 p0.toNatClampNeg)) &&& 31)))), (0, .ref o8), (1, .int p0)]) hx hb dX8_reads_117 rfl hl (by decide) rfl (fun ls hl => ?_)
            refine W.eq (g2 := F0 m 118 ls []) rfl ?_
            refine lv_iload_n hx hb dX8_reads_118 rfl (lv_at hl 0 rfl) ?_
            have hP9 := h.2.1.sub [0, 1, 2, 3, 4] rfl
            have hD9 := h.2.2.1.sub (ws' := [(o8, .inr (8, [.ref a8_0, .ref a8_1, .ref a8_2, .ref a8_3, .ref a8_4, .ref a8_5, .int v8_6, .ref a8_7, .ref a8_8, .ref a8_9, .ref a8_10, .ref a8_11, .int v8_12, .ref a8_13, .ref a8_14, .ref a8_15, .ref a8_16, .ref a8_17, .ref a8_18, .ref a8_19, .ref a8_20, .ref a8_21, .ref a8_22, .ref a8_23, .ref a8_24, .int v8_25, .int v8_26, .ref a8_27, .ref a8_28, .ref a8_29, .ref a8_30, .ref a8_31, .int v8_32, .int v8_33, .int v8_34, .int v8_35, .ref a8_36, .ref a8_37, .int v8_38, .int v8_39, .int v8_40, .ref a8_41, .ref a8_42, .int v8_43])), (a8_7, .inl (c8_7, 120, .inl f8_7)), (a8_8, .inl (c8_8, 120, .inl f8_8)), (a8_9, .inl (c8_9, 120, .inl f8_9)), (a8_10, .inl (c8_10, 120, .inl f8_10))]) [0, 1, 2, 3, 4] (by decide) rfl
            exact W.iret (v := (1024 : Int32) ||| ((1 : Int32) <<< ((8 + (f8_9 p0.toNatClampNeg)) &&& 31))) hx hb hr (fun t ht hW => ⟨⟨(1024 : Int32) ||| ((1 : Int32) <<< ((8 + (f8_9 p0.toNatClampNeg)) &&& 31)), (), rfl, trivial, (by rw [ht]; exact hP9), hD9⟩, h.2.2.2.1.F ht⟩) h.2.2.2.1.2.2 dX8_reads_119 hlocks
      · skip
        have i_3 : (f8_7 p0.toNatClampNeg).toInt = 8 := (fa_eq _ _).mp c_3
        refine lv_iload_n hx hb dX8_reads_65 rfl (lv_at hl 0 rfl) ?_
        refine lv_iconst (v := 1) hx hb dX8_reads_66 (by decide) ?_
        refine lv_aload_n hx hb dX8_reads_67 rfl (lv_at hl 1 rfl) ?_
        refine k_get (v := .ref a8_10) E h (fun w h => List.mem_cons_of_mem _ (List.mem_append_right _ h)) 0 rfl rfl 10 (by decide) (List.mem_of_getElem? (i := 3) rfl) rfl dX8_reads_68 ?_
        refine lv_iload_n hx hb dX8_reads_71 rfl (lv_at hl 2 rfl) ?_
        refine k_iald (v := f8_10 p0.toNatClampNeg) E h 4 3 rfl rfl (vp_in_iff.mpr (by omega)) rfl dX8_reads_72 ?_
        refine lv_ishl hx hb dX8_reads_73 ?_
        refine lv_ior hx hb dX8_reads_74 ?_
        refine lv_istore_n (lv' := [(2, .int ((0 : Int32) ||| ((1 : Int32) <<< ((f8_10 p0.toNatClampNeg) &&& 31)))), (0, .ref o8), (1, .int p0)]) hx hb dX8_reads_75 rfl hl (by decide) rfl (fun ls hl => ?_)
        refine lv_aload_n hx hb dX8_reads_76 rfl (lv_at hl 1 rfl) ?_
        refine k_get (v := .ref a8_7) E h (fun w h => List.mem_cons_of_mem _ (List.mem_append_right _ h)) 0 rfl rfl 7 (by decide) (List.mem_of_getElem? (i := 1) rfl) rfl dX8_reads_77 ?_
        refine W.eq (g2 := F0 m 80 ls [.ref a8_7]) rfl ?_
        refine lv_iload_n hx hb dX8_reads_80 rfl (lv_at hl 2 rfl) ?_
        refine k_iald (v := f8_7 p0.toNatClampNeg) E h 1 0 rfl rfl (vp_in_iff.mpr (by omega)) rfl dX8_reads_81 ?_
        refine lv_bipush (v := 7) hx hb dX8_reads_82 (by decide) ?_
        refine lv_icmp_ne (tgt := 93) hx hb dX8_reads_84 (by decide) (fun c_7 => ?_) (fun c_7 => ?_)
        · skip
          have i_7 : ¬ (f8_7 p0.toNatClampNeg).toInt = 7 := fun h9 => c_7 ((fa_eq _ _).mpr h9)
          refine lv_aload_n hx hb dX8_reads_93 rfl (lv_at hl 1 rfl) ?_
          refine k_get (v := .ref a8_7) E h (fun w h => List.mem_cons_of_mem _ (List.mem_append_right _ h)) 0 rfl rfl 7 (by decide) (List.mem_of_getElem? (i := 1) rfl) rfl dX8_reads_94 ?_
          refine lv_iload_n hx hb dX8_reads_97 rfl (lv_at hl 2 rfl) ?_
          refine k_iald (v := f8_7 p0.toNatClampNeg) E h 1 0 rfl rfl (vp_in_iff.mpr (by omega)) rfl dX8_reads_98 ?_
          refine lv_bipush (v := 9) hx hb dX8_reads_99 (by decide) ?_
          refine lv_icmp_lt (tgt := 118) hx hb dX8_reads_101 (by decide) (fun c_8 => ?_) (fun c_8 => ?_)
          · skip
            have i_8 : (f8_7 p0.toNatClampNeg).toInt < 9 := (fa_lt _ _).mp c_8
            refine lv_iload_n hx hb dX8_reads_118 rfl (lv_at hl 0 rfl) ?_
            have hP9 := h.2.1.sub [0, 1, 2, 3, 4] rfl
            have hD9 := h.2.2.1.sub (ws' := [(o8, .inr (8, [.ref a8_0, .ref a8_1, .ref a8_2, .ref a8_3, .ref a8_4, .ref a8_5, .int v8_6, .ref a8_7, .ref a8_8, .ref a8_9, .ref a8_10, .ref a8_11, .int v8_12, .ref a8_13, .ref a8_14, .ref a8_15, .ref a8_16, .ref a8_17, .ref a8_18, .ref a8_19, .ref a8_20, .ref a8_21, .ref a8_22, .ref a8_23, .ref a8_24, .int v8_25, .int v8_26, .ref a8_27, .ref a8_28, .ref a8_29, .ref a8_30, .ref a8_31, .int v8_32, .int v8_33, .int v8_34, .int v8_35, .ref a8_36, .ref a8_37, .int v8_38, .int v8_39, .int v8_40, .ref a8_41, .ref a8_42, .int v8_43])), (a8_7, .inl (c8_7, 120, .inl f8_7)), (a8_8, .inl (c8_8, 120, .inl f8_8)), (a8_9, .inl (c8_9, 120, .inl f8_9)), (a8_10, .inl (c8_10, 120, .inl f8_10))]) [0, 1, 2, 3, 4] (by decide) rfl
            exact W.iret (v := (0 : Int32) ||| ((1 : Int32) <<< ((f8_10 p0.toNatClampNeg) &&& 31))) hx hb hr (fun t ht hW => ⟨⟨(0 : Int32) ||| ((1 : Int32) <<< ((f8_10 p0.toNatClampNeg) &&& 31)), (), rfl, trivial, (by rw [ht]; exact hP9), hD9⟩, h.2.2.2.1.F ht⟩) h.2.2.2.1.2.2 dX8_reads_119 hlocks
          · skip
            have i_8 : ¬ (f8_7 p0.toNatClampNeg).toInt < 9 := fun h9 => c_8 ((fa_lt _ _).mpr h9)
            refine lv_iload_n hx hb dX8_reads_104 rfl (lv_at hl 0 rfl) ?_
            refine lv_iconst (v := 1) hx hb dX8_reads_105 (by decide) ?_
            refine lv_bipush (v := 8) hx hb dX8_reads_106 (by decide) ?_
            refine lv_aload_n hx hb dX8_reads_108 rfl (lv_at hl 1 rfl) ?_
            refine k_get (v := .ref a8_9) E h (fun w h => List.mem_cons_of_mem _ (List.mem_append_right _ h)) 0 rfl rfl 9 (by decide) (List.mem_of_getElem? (i := 2) rfl) rfl dX8_reads_109 ?_
            refine lv_iload_n hx hb dX8_reads_112 rfl (lv_at hl 2 rfl) ?_
            refine k_iald (v := f8_9 p0.toNatClampNeg) E h 3 2 rfl rfl (vp_in_iff.mpr (by omega)) rfl dX8_reads_113 ?_
            refine lv_iadd hx hb dX8_reads_114 ?_
            refine lv_ishl hx hb dX8_reads_115 ?_
            refine lv_ior hx hb dX8_reads_116 ?_
            refine lv_istore_n (lv' := [(2, .int (((0 : Int32) ||| ((1 : Int32) <<< ((f8_10 p0.toNatClampNeg) &&& 31))) ||| ((1 : Int32) <<< ((8 + (f8_9 p0.toNatClampNeg)) &&& 31)))), (0, .ref o8), (1, .int p0)]) hx hb dX8_reads_117 rfl hl (by decide) rfl (fun ls hl => ?_)
            refine W.eq (g2 := F0 m 118 ls []) rfl ?_
            refine lv_iload_n hx hb dX8_reads_118 rfl (lv_at hl 0 rfl) ?_
            have hP9 := h.2.1.sub [0, 1, 2, 3, 4] rfl
            have hD9 := h.2.2.1.sub (ws' := [(o8, .inr (8, [.ref a8_0, .ref a8_1, .ref a8_2, .ref a8_3, .ref a8_4, .ref a8_5, .int v8_6, .ref a8_7, .ref a8_8, .ref a8_9, .ref a8_10, .ref a8_11, .int v8_12, .ref a8_13, .ref a8_14, .ref a8_15, .ref a8_16, .ref a8_17, .ref a8_18, .ref a8_19, .ref a8_20, .ref a8_21, .ref a8_22, .ref a8_23, .ref a8_24, .int v8_25, .int v8_26, .ref a8_27, .ref a8_28, .ref a8_29, .ref a8_30, .ref a8_31, .int v8_32, .int v8_33, .int v8_34, .int v8_35, .ref a8_36, .ref a8_37, .int v8_38, .int v8_39, .int v8_40, .ref a8_41, .ref a8_42, .int v8_43])), (a8_7, .inl (c8_7, 120, .inl f8_7)), (a8_8, .inl (c8_8, 120, .inl f8_8)), (a8_9, .inl (c8_9, 120, .inl f8_9)), (a8_10, .inl (c8_10, 120, .inl f8_10))]) [0, 1, 2, 3, 4] (by decide) rfl
            exact W.iret (v := ((0 : Int32) ||| ((1 : Int32) <<< ((f8_10 p0.toNatClampNeg) &&& 31))) ||| ((1 : Int32) <<< ((8 + (f8_9 p0.toNatClampNeg)) &&& 31))) hx hb hr (fun t ht hW => ⟨⟨((0 : Int32) ||| ((1 : Int32) <<< ((f8_10 p0.toNatClampNeg) &&& 31))) ||| ((1 : Int32) <<< ((8 + (f8_9 p0.toNatClampNeg)) &&& 31)), (), rfl, trivial, (by rw [ht]; exact hP9), hD9⟩, h.2.2.2.1.F ht⟩) h.2.2.2.1.2.2 dX8_reads_119 hlocks
        · skip
          have i_7 : (f8_7 p0.toNatClampNeg).toInt = 7 := (fa_eq _ _).mp c_7
          refine lv_iload_n hx hb dX8_reads_87 rfl (lv_at hl 0 rfl) ?_
          refine lv_sipush (v := 1024) hx hb dX8_reads_88 (by decide) ?_
          refine lv_ior hx hb dX8_reads_91 ?_
          refine lv_istore_n (lv' := [(2, .int (((0 : Int32) ||| ((1 : Int32) <<< ((f8_10 p0.toNatClampNeg) &&& 31))) ||| (1024 : Int32))), (0, .ref o8), (1, .int p0)]) hx hb dX8_reads_92 rfl hl (by decide) rfl (fun ls hl => ?_)
          refine lv_aload_n hx hb dX8_reads_93 rfl (lv_at hl 1 rfl) ?_
          refine k_get (v := .ref a8_7) E h (fun w h => List.mem_cons_of_mem _ (List.mem_append_right _ h)) 0 rfl rfl 7 (by decide) (List.mem_of_getElem? (i := 1) rfl) rfl dX8_reads_94 ?_
          refine lv_iload_n hx hb dX8_reads_97 rfl (lv_at hl 2 rfl) ?_
          refine k_iald (v := f8_7 p0.toNatClampNeg) E h 1 0 rfl rfl (vp_in_iff.mpr (by omega)) rfl dX8_reads_98 ?_
          refine lv_bipush (v := 9) hx hb dX8_reads_99 (by decide) ?_
          refine lv_icmp_lt (tgt := 118) hx hb dX8_reads_101 (by decide) (fun c_9 => ?_) (fun c_9 => ?_)
          · skip
            have i_9 : (f8_7 p0.toNatClampNeg).toInt < 9 := (fa_lt _ _).mp c_9
            refine lv_iload_n hx hb dX8_reads_118 rfl (lv_at hl 0 rfl) ?_
            have hP9 := h.2.1.sub [0, 1, 2, 3, 4] rfl
            have hD9 := h.2.2.1.sub (ws' := [(o8, .inr (8, [.ref a8_0, .ref a8_1, .ref a8_2, .ref a8_3, .ref a8_4, .ref a8_5, .int v8_6, .ref a8_7, .ref a8_8, .ref a8_9, .ref a8_10, .ref a8_11, .int v8_12, .ref a8_13, .ref a8_14, .ref a8_15, .ref a8_16, .ref a8_17, .ref a8_18, .ref a8_19, .ref a8_20, .ref a8_21, .ref a8_22, .ref a8_23, .ref a8_24, .int v8_25, .int v8_26, .ref a8_27, .ref a8_28, .ref a8_29, .ref a8_30, .ref a8_31, .int v8_32, .int v8_33, .int v8_34, .int v8_35, .ref a8_36, .ref a8_37, .int v8_38, .int v8_39, .int v8_40, .ref a8_41, .ref a8_42, .int v8_43])), (a8_7, .inl (c8_7, 120, .inl f8_7)), (a8_8, .inl (c8_8, 120, .inl f8_8)), (a8_9, .inl (c8_9, 120, .inl f8_9)), (a8_10, .inl (c8_10, 120, .inl f8_10))]) [0, 1, 2, 3, 4] (by decide) rfl
            exact W.iret (v := ((0 : Int32) ||| ((1 : Int32) <<< ((f8_10 p0.toNatClampNeg) &&& 31))) ||| (1024 : Int32)) hx hb hr (fun t ht hW => ⟨⟨((0 : Int32) ||| ((1 : Int32) <<< ((f8_10 p0.toNatClampNeg) &&& 31))) ||| (1024 : Int32), (), rfl, trivial, (by rw [ht]; exact hP9), hD9⟩, h.2.2.2.1.F ht⟩) h.2.2.2.1.2.2 dX8_reads_119 hlocks
          · skip
            have i_9 : ¬ (f8_7 p0.toNatClampNeg).toInt < 9 := fun h9 => c_9 ((fa_lt _ _).mpr h9)
            refine lv_iload_n hx hb dX8_reads_104 rfl (lv_at hl 0 rfl) ?_
            refine lv_iconst (v := 1) hx hb dX8_reads_105 (by decide) ?_
            refine lv_bipush (v := 8) hx hb dX8_reads_106 (by decide) ?_
            refine lv_aload_n hx hb dX8_reads_108 rfl (lv_at hl 1 rfl) ?_
            refine k_get (v := .ref a8_9) E h (fun w h => List.mem_cons_of_mem _ (List.mem_append_right _ h)) 0 rfl rfl 9 (by decide) (List.mem_of_getElem? (i := 2) rfl) rfl dX8_reads_109 ?_
            refine lv_iload_n hx hb dX8_reads_112 rfl (lv_at hl 2 rfl) ?_
            refine k_iald (v := f8_9 p0.toNatClampNeg) E h 3 2 rfl rfl (vp_in_iff.mpr (by omega)) rfl dX8_reads_113 ?_
            refine lv_iadd hx hb dX8_reads_114 ?_
            refine lv_ishl hx hb dX8_reads_115 ?_
            refine lv_ior hx hb dX8_reads_116 ?_
            refine lv_istore_n (lv' := [(2, .int ((((0 : Int32) ||| ((1 : Int32) <<< ((f8_10 p0.toNatClampNeg) &&& 31))) ||| (1024 : Int32)) ||| ((1 : Int32) <<< ((8 + (f8_9 p0.toNatClampNeg)) &&& 31)))), (0, .ref o8), (1, .int p0)]) hx hb dX8_reads_117 rfl hl (by decide) rfl (fun ls hl => ?_)
            refine W.eq (g2 := F0 m 118 ls []) rfl ?_
            refine lv_iload_n hx hb dX8_reads_118 rfl (lv_at hl 0 rfl) ?_
            have hP9 := h.2.1.sub [0, 1, 2, 3, 4] rfl
            have hD9 := h.2.2.1.sub (ws' := [(o8, .inr (8, [.ref a8_0, .ref a8_1, .ref a8_2, .ref a8_3, .ref a8_4, .ref a8_5, .int v8_6, .ref a8_7, .ref a8_8, .ref a8_9, .ref a8_10, .ref a8_11, .int v8_12, .ref a8_13, .ref a8_14, .ref a8_15, .ref a8_16, .ref a8_17, .ref a8_18, .ref a8_19, .ref a8_20, .ref a8_21, .ref a8_22, .ref a8_23, .ref a8_24, .int v8_25, .int v8_26, .ref a8_27, .ref a8_28, .ref a8_29, .ref a8_30, .ref a8_31, .int v8_32, .int v8_33, .int v8_34, .int v8_35, .ref a8_36, .ref a8_37, .int v8_38, .int v8_39, .int v8_40, .ref a8_41, .ref a8_42, .int v8_43])), (a8_7, .inl (c8_7, 120, .inl f8_7)), (a8_8, .inl (c8_8, 120, .inl f8_8)), (a8_9, .inl (c8_9, 120, .inl f8_9)), (a8_10, .inl (c8_10, 120, .inl f8_10))]) [0, 1, 2, 3, 4] (by decide) rfl
            exact W.iret (v := (((0 : Int32) ||| ((1 : Int32) <<< ((f8_10 p0.toNatClampNeg) &&& 31))) ||| (1024 : Int32)) ||| ((1 : Int32) <<< ((8 + (f8_9 p0.toNatClampNeg)) &&& 31))) hx hb hr (fun t ht hW => ⟨⟨(((0 : Int32) ||| ((1 : Int32) <<< ((f8_10 p0.toNatClampNeg) &&& 31))) ||| (1024 : Int32)) ||| ((1 : Int32) <<< ((8 + (f8_9 p0.toNatClampNeg)) &&& 31)), (), rfl, trivial, (by rw [ht]; exact hP9), hD9⟩, h.2.2.2.1.F ht⟩) h.2.2.2.1.2.2 dX8_reads_119 hlocks
    · skip
      have i_2 : ¬ (f8_7 p0.toNatClampNeg).toInt < 2 := fun h9 => c_2 ((fa_lt _ _).mpr h9)
      refine lv_aload_n hx hb dX8_reads_44 rfl (lv_at hl 1 rfl) ?_
      refine k_get (v := .ref a8_7) E h (fun w h => List.mem_cons_of_mem _ (List.mem_append_right _ h)) 0 rfl rfl 7 (by decide) (List.mem_of_getElem? (i := 1) rfl) rfl dX8_reads_45 ?_
      refine lv_iload_n hx hb dX8_reads_48 rfl (lv_at hl 2 rfl) ?_
      refine k_iald (v := f8_7 p0.toNatClampNeg) E h 1 0 rfl rfl (vp_in_iff.mpr (by omega)) rfl dX8_reads_49 ?_
      refine lv_iconst (v := 5) hx hb dX8_reads_50 (by decide) ?_
      refine lv_icmp_le (tgt := 65) hx hb dX8_reads_51 (by decide) (fun c_10 => ?_) (fun c_10 => ?_)
      · skip
        have i_10 : (f8_7 p0.toNatClampNeg).toInt ≤ 5 := (fa_le _ _).mp c_10
        refine lv_iload_n hx hb dX8_reads_65 rfl (lv_at hl 0 rfl) ?_
        refine lv_iconst (v := 1) hx hb dX8_reads_66 (by decide) ?_
        refine lv_aload_n hx hb dX8_reads_67 rfl (lv_at hl 1 rfl) ?_
        refine k_get (v := .ref a8_10) E h (fun w h => List.mem_cons_of_mem _ (List.mem_append_right _ h)) 0 rfl rfl 10 (by decide) (List.mem_of_getElem? (i := 3) rfl) rfl dX8_reads_68 ?_
        refine lv_iload_n hx hb dX8_reads_71 rfl (lv_at hl 2 rfl) ?_
        refine k_iald (v := f8_10 p0.toNatClampNeg) E h 4 3 rfl rfl (vp_in_iff.mpr (by omega)) rfl dX8_reads_72 ?_
        refine lv_ishl hx hb dX8_reads_73 ?_
        refine lv_ior hx hb dX8_reads_74 ?_
        refine lv_istore_n (lv' := [(2, .int ((0 : Int32) ||| ((1 : Int32) <<< ((f8_10 p0.toNatClampNeg) &&& 31)))), (0, .ref o8), (1, .int p0)]) hx hb dX8_reads_75 rfl hl (by decide) rfl (fun ls hl => ?_)
        refine lv_aload_n hx hb dX8_reads_76 rfl (lv_at hl 1 rfl) ?_
        refine k_get (v := .ref a8_7) E h (fun w h => List.mem_cons_of_mem _ (List.mem_append_right _ h)) 0 rfl rfl 7 (by decide) (List.mem_of_getElem? (i := 1) rfl) rfl dX8_reads_77 ?_
        refine W.eq (g2 := F0 m 80 ls [.ref a8_7]) rfl ?_
        refine lv_iload_n hx hb dX8_reads_80 rfl (lv_at hl 2 rfl) ?_
        refine k_iald (v := f8_7 p0.toNatClampNeg) E h 1 0 rfl rfl (vp_in_iff.mpr (by omega)) rfl dX8_reads_81 ?_
        refine lv_bipush (v := 7) hx hb dX8_reads_82 (by decide) ?_
        refine lv_icmp_ne (tgt := 93) hx hb dX8_reads_84 (by decide) (fun c_11 => ?_) (fun c_11 => ?_)
        · skip
          have i_11 : ¬ (f8_7 p0.toNatClampNeg).toInt = 7 := fun h9 => c_11 ((fa_eq _ _).mpr h9)
          refine lv_aload_n hx hb dX8_reads_93 rfl (lv_at hl 1 rfl) ?_
          refine k_get (v := .ref a8_7) E h (fun w h => List.mem_cons_of_mem _ (List.mem_append_right _ h)) 0 rfl rfl 7 (by decide) (List.mem_of_getElem? (i := 1) rfl) rfl dX8_reads_94 ?_
          refine lv_iload_n hx hb dX8_reads_97 rfl (lv_at hl 2 rfl) ?_
          refine k_iald (v := f8_7 p0.toNatClampNeg) E h 1 0 rfl rfl (vp_in_iff.mpr (by omega)) rfl dX8_reads_98 ?_
          refine lv_bipush (v := 9) hx hb dX8_reads_99 (by decide) ?_
          refine lv_icmp_lt (tgt := 118) hx hb dX8_reads_101 (by decide) (fun c_12 => ?_) (fun c_12 => ?_)
          · skip
            have i_12 : (f8_7 p0.toNatClampNeg).toInt < 9 := (fa_lt _ _).mp c_12
            refine lv_iload_n hx hb dX8_reads_118 rfl (lv_at hl 0 rfl) ?_
            have hP9 := h.2.1.sub [0, 1, 2, 3, 4] rfl
            have hD9 := h.2.2.1.sub (ws' := [(o8, .inr (8, [.ref a8_0, .ref a8_1, .ref a8_2, .ref a8_3, .ref a8_4, .ref a8_5, .int v8_6, .ref a8_7, .ref a8_8, .ref a8_9, .ref a8_10, .ref a8_11, .int v8_12, .ref a8_13, .ref a8_14, .ref a8_15, .ref a8_16, .ref a8_17, .ref a8_18, .ref a8_19, .ref a8_20, .ref a8_21, .ref a8_22, .ref a8_23, .ref a8_24, .int v8_25, .int v8_26, .ref a8_27, .ref a8_28, .ref a8_29, .ref a8_30, .ref a8_31, .int v8_32, .int v8_33, .int v8_34, .int v8_35, .ref a8_36, .ref a8_37, .int v8_38, .int v8_39, .int v8_40, .ref a8_41, .ref a8_42, .int v8_43])), (a8_7, .inl (c8_7, 120, .inl f8_7)), (a8_8, .inl (c8_8, 120, .inl f8_8)), (a8_9, .inl (c8_9, 120, .inl f8_9)), (a8_10, .inl (c8_10, 120, .inl f8_10))]) [0, 1, 2, 3, 4] (by decide) rfl
            exact W.iret (v := (0 : Int32) ||| ((1 : Int32) <<< ((f8_10 p0.toNatClampNeg) &&& 31))) hx hb hr (fun t ht hW => ⟨⟨(0 : Int32) ||| ((1 : Int32) <<< ((f8_10 p0.toNatClampNeg) &&& 31)), (), rfl, trivial, (by rw [ht]; exact hP9), hD9⟩, h.2.2.2.1.F ht⟩) h.2.2.2.1.2.2 dX8_reads_119 hlocks
          · skip
            have i_12 : ¬ (f8_7 p0.toNatClampNeg).toInt < 9 := fun h9 => c_12 ((fa_lt _ _).mpr h9)
            refine lv_iload_n hx hb dX8_reads_104 rfl (lv_at hl 0 rfl) ?_
            refine lv_iconst (v := 1) hx hb dX8_reads_105 (by decide) ?_
            refine lv_bipush (v := 8) hx hb dX8_reads_106 (by decide) ?_
            refine lv_aload_n hx hb dX8_reads_108 rfl (lv_at hl 1 rfl) ?_
            refine k_get (v := .ref a8_9) E h (fun w h => List.mem_cons_of_mem _ (List.mem_append_right _ h)) 0 rfl rfl 9 (by decide) (List.mem_of_getElem? (i := 2) rfl) rfl dX8_reads_109 ?_
            refine lv_iload_n hx hb dX8_reads_112 rfl (lv_at hl 2 rfl) ?_
            refine k_iald (v := f8_9 p0.toNatClampNeg) E h 3 2 rfl rfl (vp_in_iff.mpr (by omega)) rfl dX8_reads_113 ?_
            refine lv_iadd hx hb dX8_reads_114 ?_
            refine lv_ishl hx hb dX8_reads_115 ?_
            refine lv_ior hx hb dX8_reads_116 ?_
            refine lv_istore_n (lv' := [(2, .int (((0 : Int32) ||| ((1 : Int32) <<< ((f8_10 p0.toNatClampNeg) &&& 31))) ||| ((1 : Int32) <<< ((8 + (f8_9 p0.toNatClampNeg)) &&& 31)))), (0, .ref o8), (1, .int p0)]) hx hb dX8_reads_117 rfl hl (by decide) rfl (fun ls hl => ?_)
            refine W.eq (g2 := F0 m 118 ls []) rfl ?_
            refine lv_iload_n hx hb dX8_reads_118 rfl (lv_at hl 0 rfl) ?_
            have hP9 := h.2.1.sub [0, 1, 2, 3, 4] rfl
            have hD9 := h.2.2.1.sub (ws' := [(o8, .inr (8, [.ref a8_0, .ref a8_1, .ref a8_2, .ref a8_3, .ref a8_4, .ref a8_5, .int v8_6, .ref a8_7, .ref a8_8, .ref a8_9, .ref a8_10, .ref a8_11, .int v8_12, .ref a8_13, .ref a8_14, .ref a8_15, .ref a8_16, .ref a8_17, .ref a8_18, .ref a8_19, .ref a8_20, .ref a8_21, .ref a8_22, .ref a8_23, .ref a8_24, .int v8_25, .int v8_26, .ref a8_27, .ref a8_28, .ref a8_29, .ref a8_30, .ref a8_31, .int v8_32, .int v8_33, .int v8_34, .int v8_35, .ref a8_36, .ref a8_37, .int v8_38, .int v8_39, .int v8_40, .ref a8_41, .ref a8_42, .int v8_43])), (a8_7, .inl (c8_7, 120, .inl f8_7)), (a8_8, .inl (c8_8, 120, .inl f8_8)), (a8_9, .inl (c8_9, 120, .inl f8_9)), (a8_10, .inl (c8_10, 120, .inl f8_10))]) [0, 1, 2, 3, 4] (by decide) rfl
            exact W.iret (v := ((0 : Int32) ||| ((1 : Int32) <<< ((f8_10 p0.toNatClampNeg) &&& 31))) ||| ((1 : Int32) <<< ((8 + (f8_9 p0.toNatClampNeg)) &&& 31))) hx hb hr (fun t ht hW => ⟨⟨((0 : Int32) ||| ((1 : Int32) <<< ((f8_10 p0.toNatClampNeg) &&& 31))) ||| ((1 : Int32) <<< ((8 + (f8_9 p0.toNatClampNeg)) &&& 31)), (), rfl, trivial, (by rw [ht]; exact hP9), hD9⟩, h.2.2.2.1.F ht⟩) h.2.2.2.1.2.2 dX8_reads_119 hlocks
        · skip
          have i_11 : (f8_7 p0.toNatClampNeg).toInt = 7 := (fa_eq _ _).mp c_11
          refine lv_iload_n hx hb dX8_reads_87 rfl (lv_at hl 0 rfl) ?_
          refine lv_sipush (v := 1024) hx hb dX8_reads_88 (by decide) ?_
          refine lv_ior hx hb dX8_reads_91 ?_
          refine lv_istore_n (lv' := [(2, .int (((0 : Int32) ||| ((1 : Int32) <<< ((f8_10 p0.toNatClampNeg) &&& 31))) ||| (1024 : Int32))), (0, .ref o8), (1, .int p0)]) hx hb dX8_reads_92 rfl hl (by decide) rfl (fun ls hl => ?_)
          refine lv_aload_n hx hb dX8_reads_93 rfl (lv_at hl 1 rfl) ?_
          refine k_get (v := .ref a8_7) E h (fun w h => List.mem_cons_of_mem _ (List.mem_append_right _ h)) 0 rfl rfl 7 (by decide) (List.mem_of_getElem? (i := 1) rfl) rfl dX8_reads_94 ?_
          refine lv_iload_n hx hb dX8_reads_97 rfl (lv_at hl 2 rfl) ?_
          refine k_iald (v := f8_7 p0.toNatClampNeg) E h 1 0 rfl rfl (vp_in_iff.mpr (by omega)) rfl dX8_reads_98 ?_
          refine lv_bipush (v := 9) hx hb dX8_reads_99 (by decide) ?_
          refine lv_icmp_lt (tgt := 118) hx hb dX8_reads_101 (by decide) (fun c_13 => ?_) (fun c_13 => ?_)
          · skip
            have i_13 : (f8_7 p0.toNatClampNeg).toInt < 9 := (fa_lt _ _).mp c_13
            refine lv_iload_n hx hb dX8_reads_118 rfl (lv_at hl 0 rfl) ?_
            have hP9 := h.2.1.sub [0, 1, 2, 3, 4] rfl
            have hD9 := h.2.2.1.sub (ws' := [(o8, .inr (8, [.ref a8_0, .ref a8_1, .ref a8_2, .ref a8_3, .ref a8_4, .ref a8_5, .int v8_6, .ref a8_7, .ref a8_8, .ref a8_9, .ref a8_10, .ref a8_11, .int v8_12, .ref a8_13, .ref a8_14, .ref a8_15, .ref a8_16, .ref a8_17, .ref a8_18, .ref a8_19, .ref a8_20, .ref a8_21, .ref a8_22, .ref a8_23, .ref a8_24, .int v8_25, .int v8_26, .ref a8_27, .ref a8_28, .ref a8_29, .ref a8_30, .ref a8_31, .int v8_32, .int v8_33, .int v8_34, .int v8_35, .ref a8_36, .ref a8_37, .int v8_38, .int v8_39, .int v8_40, .ref a8_41, .ref a8_42, .int v8_43])), (a8_7, .inl (c8_7, 120, .inl f8_7)), (a8_8, .inl (c8_8, 120, .inl f8_8)), (a8_9, .inl (c8_9, 120, .inl f8_9)), (a8_10, .inl (c8_10, 120, .inl f8_10))]) [0, 1, 2, 3, 4] (by decide) rfl
            exact W.iret (v := ((0 : Int32) ||| ((1 : Int32) <<< ((f8_10 p0.toNatClampNeg) &&& 31))) ||| (1024 : Int32)) hx hb hr (fun t ht hW => ⟨⟨((0 : Int32) ||| ((1 : Int32) <<< ((f8_10 p0.toNatClampNeg) &&& 31))) ||| (1024 : Int32), (), rfl, trivial, (by rw [ht]; exact hP9), hD9⟩, h.2.2.2.1.F ht⟩) h.2.2.2.1.2.2 dX8_reads_119 hlocks
          · skip
            have i_13 : ¬ (f8_7 p0.toNatClampNeg).toInt < 9 := fun h9 => c_13 ((fa_lt _ _).mpr h9)
            refine lv_iload_n hx hb dX8_reads_104 rfl (lv_at hl 0 rfl) ?_
            refine lv_iconst (v := 1) hx hb dX8_reads_105 (by decide) ?_
            refine lv_bipush (v := 8) hx hb dX8_reads_106 (by decide) ?_
            refine lv_aload_n hx hb dX8_reads_108 rfl (lv_at hl 1 rfl) ?_
            refine k_get (v := .ref a8_9) E h (fun w h => List.mem_cons_of_mem _ (List.mem_append_right _ h)) 0 rfl rfl 9 (by decide) (List.mem_of_getElem? (i := 2) rfl) rfl dX8_reads_109 ?_
            refine lv_iload_n hx hb dX8_reads_112 rfl (lv_at hl 2 rfl) ?_
            refine k_iald (v := f8_9 p0.toNatClampNeg) E h 3 2 rfl rfl (vp_in_iff.mpr (by omega)) rfl dX8_reads_113 ?_
            refine lv_iadd hx hb dX8_reads_114 ?_
            refine lv_ishl hx hb dX8_reads_115 ?_
            refine lv_ior hx hb dX8_reads_116 ?_
            refine lv_istore_n (lv' := [(2, .int ((((0 : Int32) ||| ((1 : Int32) <<< ((f8_10 p0.toNatClampNeg) &&& 31))) ||| (1024 : Int32)) ||| ((1 : Int32) <<< ((8 + (f8_9 p0.toNatClampNeg)) &&& 31)))), (0, .ref o8), (1, .int p0)]) hx hb dX8_reads_117 rfl hl (by decide) rfl (fun ls hl => ?_)
            refine W.eq (g2 := F0 m 118 ls []) rfl ?_
            refine lv_iload_n hx hb dX8_reads_118 rfl (lv_at hl 0 rfl) ?_
            have hP9 := h.2.1.sub [0, 1, 2, 3, 4] rfl
            have hD9 := h.2.2.1.sub (ws' := [(o8, .inr (8, [.ref a8_0, .ref a8_1, .ref a8_2, .ref a8_3, .ref a8_4, .ref a8_5, .int v8_6, .ref a8_7, .ref a8_8, .ref a8_9, .ref a8_10, .ref a8_11, .int v8_12, .ref a8_13, .ref a8_14, .ref a8_15, .ref a8_16, .ref a8_17, .ref a8_18, .ref a8_19, .ref a8_20, .ref a8_21, .ref a8_22, .ref a8_23, .ref a8_24, .int v8_25, .int v8_26, .ref a8_27, .ref a8_28, .ref a8_29, .ref a8_30, .ref a8_31, .int v8_32, .int v8_33, .int v8_34, .int v8_35, .ref a8_36, .ref a8_37, .int v8_38, .int v8_39, .int v8_40, .ref a8_41, .ref a8_42, .int v8_43])), (a8_7, .inl (c8_7, 120, .inl f8_7)), (a8_8, .inl (c8_8, 120, .inl f8_8)), (a8_9, .inl (c8_9, 120, .inl f8_9)), (a8_10, .inl (c8_10, 120, .inl f8_10))]) [0, 1, 2, 3, 4] (by decide) rfl
            exact W.iret (v := (((0 : Int32) ||| ((1 : Int32) <<< ((f8_10 p0.toNatClampNeg) &&& 31))) ||| (1024 : Int32)) ||| ((1 : Int32) <<< ((8 + (f8_9 p0.toNatClampNeg)) &&& 31))) hx hb hr (fun t ht hW => ⟨⟨(((0 : Int32) ||| ((1 : Int32) <<< ((f8_10 p0.toNatClampNeg) &&& 31))) ||| (1024 : Int32)) ||| ((1 : Int32) <<< ((8 + (f8_9 p0.toNatClampNeg)) &&& 31)), (), rfl, trivial, (by rw [ht]; exact hP9), hD9⟩, h.2.2.2.1.F ht⟩) h.2.2.2.1.2.2 dX8_reads_119 hlocks
      · skip
        have i_10 : ¬ (f8_7 p0.toNatClampNeg).toInt ≤ 5 := fun h9 => c_10 ((fa_le _ _).mpr h9)
        refine lv_aload_n hx hb dX8_reads_54 rfl (lv_at hl 1 rfl) ?_
        refine k_get (v := .ref a8_7) E h (fun w h => List.mem_cons_of_mem _ (List.mem_append_right _ h)) 0 rfl rfl 7 (by decide) (List.mem_of_getElem? (i := 1) rfl) rfl dX8_reads_55 ?_
        refine lv_iload_n hx hb dX8_reads_58 rfl (lv_at hl 2 rfl) ?_
        refine k_iald (v := f8_7 p0.toNatClampNeg) E h 1 0 rfl rfl (vp_in_iff.mpr (by omega)) rfl dX8_reads_59 ?_
        refine lv_bipush (v := 8) hx hb dX8_reads_60 (by decide) ?_
        refine lv_icmp_ne (tgt := 76) hx hb dX8_reads_62 (by decide) (fun c_14 => ?_) (fun c_14 => ?_)
        · skip
          have i_14 : ¬ (f8_7 p0.toNatClampNeg).toInt = 8 := fun h9 => c_14 ((fa_eq _ _).mpr h9)
          refine lv_aload_n hx hb dX8_reads_76 rfl (lv_at hl 1 rfl) ?_
          refine k_get (v := .ref a8_7) E h (fun w h => List.mem_cons_of_mem _ (List.mem_append_right _ h)) 0 rfl rfl 7 (by decide) (List.mem_of_getElem? (i := 1) rfl) rfl dX8_reads_77 ?_
          refine lv_iload_n hx hb dX8_reads_80 rfl (lv_at hl 2 rfl) ?_
          refine k_iald (v := f8_7 p0.toNatClampNeg) E h 1 0 rfl rfl (vp_in_iff.mpr (by omega)) rfl dX8_reads_81 ?_
          refine lv_bipush (v := 7) hx hb dX8_reads_82 (by decide) ?_
          refine lv_icmp_ne (tgt := 93) hx hb dX8_reads_84 (by decide) (fun c_15 => ?_) (fun c_15 => ?_)
          · skip
            have i_15 : ¬ (f8_7 p0.toNatClampNeg).toInt = 7 := fun h9 => c_15 ((fa_eq _ _).mpr h9)
            refine lv_aload_n hx hb dX8_reads_93 rfl (lv_at hl 1 rfl) ?_
            refine k_get (v := .ref a8_7) E h (fun w h => List.mem_cons_of_mem _ (List.mem_append_right _ h)) 0 rfl rfl 7 (by decide) (List.mem_of_getElem? (i := 1) rfl) rfl dX8_reads_94 ?_
            refine lv_iload_n hx hb dX8_reads_97 rfl (lv_at hl 2 rfl) ?_
            refine k_iald (v := f8_7 p0.toNatClampNeg) E h 1 0 rfl rfl (vp_in_iff.mpr (by omega)) rfl dX8_reads_98 ?_
            refine lv_bipush (v := 9) hx hb dX8_reads_99 (by decide) ?_
            refine lv_icmp_lt (tgt := 118) hx hb dX8_reads_101 (by decide) (fun c_16 => ?_) (fun c_16 => ?_)
            · skip
              have i_16 : (f8_7 p0.toNatClampNeg).toInt < 9 := (fa_lt _ _).mp c_16
              refine lv_iload_n hx hb dX8_reads_118 rfl (lv_at hl 0 rfl) ?_
              have hP9 := h.2.1.sub [0, 1, 2, 3, 4] rfl
              have hD9 := h.2.2.1.sub (ws' := [(o8, .inr (8, [.ref a8_0, .ref a8_1, .ref a8_2, .ref a8_3, .ref a8_4, .ref a8_5, .int v8_6, .ref a8_7, .ref a8_8, .ref a8_9, .ref a8_10, .ref a8_11, .int v8_12, .ref a8_13, .ref a8_14, .ref a8_15, .ref a8_16, .ref a8_17, .ref a8_18, .ref a8_19, .ref a8_20, .ref a8_21, .ref a8_22, .ref a8_23, .ref a8_24, .int v8_25, .int v8_26, .ref a8_27, .ref a8_28, .ref a8_29, .ref a8_30, .ref a8_31, .int v8_32, .int v8_33, .int v8_34, .int v8_35, .ref a8_36, .ref a8_37, .int v8_38, .int v8_39, .int v8_40, .ref a8_41, .ref a8_42, .int v8_43])), (a8_7, .inl (c8_7, 120, .inl f8_7)), (a8_8, .inl (c8_8, 120, .inl f8_8)), (a8_9, .inl (c8_9, 120, .inl f8_9)), (a8_10, .inl (c8_10, 120, .inl f8_10))]) [0, 1, 2, 3, 4] (by decide) rfl
              exact W.iret (v := 0) hx hb hr (fun t ht hW => ⟨⟨0, (), rfl, trivial, (by rw [ht]; exact hP9), hD9⟩, h.2.2.2.1.F ht⟩) h.2.2.2.1.2.2 dX8_reads_119 hlocks
            · skip
              have i_16 : ¬ (f8_7 p0.toNatClampNeg).toInt < 9 := fun h9 => c_16 ((fa_lt _ _).mpr h9)
              refine lv_iload_n hx hb dX8_reads_104 rfl (lv_at hl 0 rfl) ?_
              refine lv_iconst (v := 1) hx hb dX8_reads_105 (by decide) ?_
              refine lv_bipush (v := 8) hx hb dX8_reads_106 (by decide) ?_
              refine lv_aload_n hx hb dX8_reads_108 rfl (lv_at hl 1 rfl) ?_
              refine k_get (v := .ref a8_9) E h (fun w h => List.mem_cons_of_mem _ (List.mem_append_right _ h)) 0 rfl rfl 9 (by decide) (List.mem_of_getElem? (i := 2) rfl) rfl dX8_reads_109 ?_
              refine lv_iload_n hx hb dX8_reads_112 rfl (lv_at hl 2 rfl) ?_
              refine k_iald (v := f8_9 p0.toNatClampNeg) E h 3 2 rfl rfl (vp_in_iff.mpr (by omega)) rfl dX8_reads_113 ?_
              refine lv_iadd hx hb dX8_reads_114 ?_
              refine lv_ishl hx hb dX8_reads_115 ?_
              refine lv_ior hx hb dX8_reads_116 ?_
              refine lv_istore_n (lv' := [(2, .int ((0 : Int32) ||| ((1 : Int32) <<< ((8 + (f8_9 p0.toNatClampNeg)) &&& 31)))), (0, .ref o8), (1, .int p0)]) hx hb dX8_reads_117 rfl hl (by decide) rfl (fun ls hl => ?_)
              refine W.eq (g2 := F0 m 118 ls []) rfl ?_
              refine lv_iload_n hx hb dX8_reads_118 rfl (lv_at hl 0 rfl) ?_
              have hP9 := h.2.1.sub [0, 1, 2, 3, 4] rfl
              have hD9 := h.2.2.1.sub (ws' := [(o8, .inr (8, [.ref a8_0, .ref a8_1, .ref a8_2, .ref a8_3, .ref a8_4, .ref a8_5, .int v8_6, .ref a8_7, .ref a8_8, .ref a8_9, .ref a8_10, .ref a8_11, .int v8_12, .ref a8_13, .ref a8_14, .ref a8_15, .ref a8_16, .ref a8_17, .ref a8_18, .ref a8_19, .ref a8_20, .ref a8_21, .ref a8_22, .ref a8_23, .ref a8_24, .int v8_25, .int v8_26, .ref a8_27, .ref a8_28, .ref a8_29, .ref a8_30, .ref a8_31, .int v8_32, .int v8_33, .int v8_34, .int v8_35, .ref a8_36, .ref a8_37, .int v8_38, .int v8_39, .int v8_40, .ref a8_41, .ref a8_42, .int v8_43])), (a8_7, .inl (c8_7, 120, .inl f8_7)), (a8_8, .inl (c8_8, 120, .inl f8_8)), (a8_9, .inl (c8_9, 120, .inl f8_9)), (a8_10, .inl (c8_10, 120, .inl f8_10))]) [0, 1, 2, 3, 4] (by decide) rfl
              exact W.iret (v := (0 : Int32) ||| ((1 : Int32) <<< ((8 + (f8_9 p0.toNatClampNeg)) &&& 31))) hx hb hr (fun t ht hW => ⟨⟨(0 : Int32) ||| ((1 : Int32) <<< ((8 + (f8_9 p0.toNatClampNeg)) &&& 31)), (), rfl, trivial, (by rw [ht]; exact hP9), hD9⟩, h.2.2.2.1.F ht⟩) h.2.2.2.1.2.2 dX8_reads_119 hlocks
          · skip
            have i_15 : (f8_7 p0.toNatClampNeg).toInt = 7 := (fa_eq _ _).mp c_15
            refine lv_iload_n hx hb dX8_reads_87 rfl (lv_at hl 0 rfl) ?_
            refine lv_sipush (v := 1024) hx hb dX8_reads_88 (by decide) ?_
            refine lv_ior hx hb dX8_reads_91 ?_
            refine k_topi (y := 1024) (by decide) ?_
            refine lv_istore_n (lv' := [(2, .int 1024), (0, .ref o8), (1, .int p0)]) hx hb dX8_reads_92 rfl hl (by decide) rfl (fun ls hl => ?_)
            refine lv_aload_n hx hb dX8_reads_93 rfl (lv_at hl 1 rfl) ?_
            refine k_get (v := .ref a8_7) E h (fun w h => List.mem_cons_of_mem _ (List.mem_append_right _ h)) 0 rfl rfl 7 (by decide) (List.mem_of_getElem? (i := 1) rfl) rfl dX8_reads_94 ?_
            refine lv_iload_n hx hb dX8_reads_97 rfl (lv_at hl 2 rfl) ?_
            refine k_iald (v := f8_7 p0.toNatClampNeg) E h 1 0 rfl rfl (vp_in_iff.mpr (by omega)) rfl dX8_reads_98 ?_
            refine lv_bipush (v := 9) hx hb dX8_reads_99 (by decide) ?_
            refine lv_icmp_lt (tgt := 118) hx hb dX8_reads_101 (by decide) (fun c_17 => ?_) (fun c_17 => ?_)
            · skip
              have i_17 : (f8_7 p0.toNatClampNeg).toInt < 9 := (fa_lt _ _).mp c_17
              refine lv_iload_n hx hb dX8_reads_118 rfl (lv_at hl 0 rfl) ?_
              have hP9 := h.2.1.sub [0, 1, 2, 3, 4] rfl
              have hD9 := h.2.2.1.sub (ws' := [(o8, .inr (8, [.ref a8_0, .ref a8_1, .ref a8_2, .ref a8_3, .ref a8_4, .ref a8_5, .int v8_6, .ref a8_7, .ref a8_8, .ref a8_9, .ref a8_10, .ref a8_11, .int v8_12, .ref a8_13, .ref a8_14, .ref a8_15, .ref a8_16, .ref a8_17, .ref a8_18, .ref a8_19, .ref a8_20, .ref a8_21, .ref a8_22, .ref a8_23, .ref a8_24, .int v8_25, .int v8_26, .ref a8_27, .ref a8_28, .ref a8_29, .ref a8_30, .ref a8_31, .int v8_32, .int v8_33, .int v8_34, .int v8_35, .ref a8_36, .ref a8_37, .int v8_38, .int v8_39, .int v8_40, .ref a8_41, .ref a8_42, .int v8_43])), (a8_7, .inl (c8_7, 120, .inl f8_7)), (a8_8, .inl (c8_8, 120, .inl f8_8)), (a8_9, .inl (c8_9, 120, .inl f8_9)), (a8_10, .inl (c8_10, 120, .inl f8_10))]) [0, 1, 2, 3, 4] (by decide) rfl
              exact W.iret (v := 1024) hx hb hr (fun t ht hW => ⟨⟨1024, (), rfl, trivial, (by rw [ht]; exact hP9), hD9⟩, h.2.2.2.1.F ht⟩) h.2.2.2.1.2.2 dX8_reads_119 hlocks
            · skip
              have i_17 : ¬ (f8_7 p0.toNatClampNeg).toInt < 9 := fun h9 => c_17 ((fa_lt _ _).mpr h9)
              refine lv_iload_n hx hb dX8_reads_104 rfl (lv_at hl 0 rfl) ?_
              refine lv_iconst (v := 1) hx hb dX8_reads_105 (by decide) ?_
              refine lv_bipush (v := 8) hx hb dX8_reads_106 (by decide) ?_
              refine lv_aload_n hx hb dX8_reads_108 rfl (lv_at hl 1 rfl) ?_
              refine k_get (v := .ref a8_9) E h (fun w h => List.mem_cons_of_mem _ (List.mem_append_right _ h)) 0 rfl rfl 9 (by decide) (List.mem_of_getElem? (i := 2) rfl) rfl dX8_reads_109 ?_
              refine lv_iload_n hx hb dX8_reads_112 rfl (lv_at hl 2 rfl) ?_
              refine k_iald (v := f8_9 p0.toNatClampNeg) E h 3 2 rfl rfl (vp_in_iff.mpr (by omega)) rfl dX8_reads_113 ?_
              refine lv_iadd hx hb dX8_reads_114 ?_
              refine lv_ishl hx hb dX8_reads_115 ?_
              refine lv_ior hx hb dX8_reads_116 ?_
              refine lv_istore_n (lv' := [(2, .int ((1024 : Int32) ||| ((1 : Int32) <<< ((8 + (f8_9 p0.toNatClampNeg)) &&& 31)))), (0, .ref o8), (1, .int p0)]) hx hb dX8_reads_117 rfl hl (by decide) rfl (fun ls hl => ?_)
              refine W.eq (g2 := F0 m 118 ls []) rfl ?_
              refine lv_iload_n hx hb dX8_reads_118 rfl (lv_at hl 0 rfl) ?_
              have hP9 := h.2.1.sub [0, 1, 2, 3, 4] rfl
              have hD9 := h.2.2.1.sub (ws' := [(o8, .inr (8, [.ref a8_0, .ref a8_1, .ref a8_2, .ref a8_3, .ref a8_4, .ref a8_5, .int v8_6, .ref a8_7, .ref a8_8, .ref a8_9, .ref a8_10, .ref a8_11, .int v8_12, .ref a8_13, .ref a8_14, .ref a8_15, .ref a8_16, .ref a8_17, .ref a8_18, .ref a8_19, .ref a8_20, .ref a8_21, .ref a8_22, .ref a8_23, .ref a8_24, .int v8_25, .int v8_26, .ref a8_27, .ref a8_28, .ref a8_29, .ref a8_30, .ref a8_31, .int v8_32, .int v8_33, .int v8_34, .int v8_35, .ref a8_36, .ref a8_37, .int v8_38, .int v8_39, .int v8_40, .ref a8_41, .ref a8_42, .int v8_43])), (a8_7, .inl (c8_7, 120, .inl f8_7)), (a8_8, .inl (c8_8, 120, .inl f8_8)), (a8_9, .inl (c8_9, 120, .inl f8_9)), (a8_10, .inl (c8_10, 120, .inl f8_10))]) [0, 1, 2, 3, 4] (by decide) rfl
              exact W.iret (v := (1024 : Int32) ||| ((1 : Int32) <<< ((8 + (f8_9 p0.toNatClampNeg)) &&& 31))) hx hb hr (fun t ht hW => ⟨⟨(1024 : Int32) ||| ((1 : Int32) <<< ((8 + (f8_9 p0.toNatClampNeg)) &&& 31)), (), rfl, trivial, (by rw [ht]; exact hP9), hD9⟩, h.2.2.2.1.F ht⟩) h.2.2.2.1.2.2 dX8_reads_119 hlocks
        · skip
          have i_14 : (f8_7 p0.toNatClampNeg).toInt = 8 := (fa_eq _ _).mp c_14
          refine lv_iload_n hx hb dX8_reads_65 rfl (lv_at hl 0 rfl) ?_
          refine lv_iconst (v := 1) hx hb dX8_reads_66 (by decide) ?_
          refine lv_aload_n hx hb dX8_reads_67 rfl (lv_at hl 1 rfl) ?_
          refine k_get (v := .ref a8_10) E h (fun w h => List.mem_cons_of_mem _ (List.mem_append_right _ h)) 0 rfl rfl 10 (by decide) (List.mem_of_getElem? (i := 3) rfl) rfl dX8_reads_68 ?_
          refine lv_iload_n hx hb dX8_reads_71 rfl (lv_at hl 2 rfl) ?_
          refine k_iald (v := f8_10 p0.toNatClampNeg) E h 4 3 rfl rfl (vp_in_iff.mpr (by omega)) rfl dX8_reads_72 ?_
          refine lv_ishl hx hb dX8_reads_73 ?_
          refine lv_ior hx hb dX8_reads_74 ?_
          refine lv_istore_n (lv' := [(2, .int ((0 : Int32) ||| ((1 : Int32) <<< ((f8_10 p0.toNatClampNeg) &&& 31)))), (0, .ref o8), (1, .int p0)]) hx hb dX8_reads_75 rfl hl (by decide) rfl (fun ls hl => ?_)
          refine lv_aload_n hx hb dX8_reads_76 rfl (lv_at hl 1 rfl) ?_
          refine k_get (v := .ref a8_7) E h (fun w h => List.mem_cons_of_mem _ (List.mem_append_right _ h)) 0 rfl rfl 7 (by decide) (List.mem_of_getElem? (i := 1) rfl) rfl dX8_reads_77 ?_
          refine W.eq (g2 := F0 m 80 ls [.ref a8_7]) rfl ?_
          refine lv_iload_n hx hb dX8_reads_80 rfl (lv_at hl 2 rfl) ?_
          refine k_iald (v := f8_7 p0.toNatClampNeg) E h 1 0 rfl rfl (vp_in_iff.mpr (by omega)) rfl dX8_reads_81 ?_
          refine lv_bipush (v := 7) hx hb dX8_reads_82 (by decide) ?_
          refine lv_icmp_ne (tgt := 93) hx hb dX8_reads_84 (by decide) (fun c_18 => ?_) (fun c_18 => ?_)
          · skip
            have i_18 : ¬ (f8_7 p0.toNatClampNeg).toInt = 7 := fun h9 => c_18 ((fa_eq _ _).mpr h9)
            refine lv_aload_n hx hb dX8_reads_93 rfl (lv_at hl 1 rfl) ?_
            refine k_get (v := .ref a8_7) E h (fun w h => List.mem_cons_of_mem _ (List.mem_append_right _ h)) 0 rfl rfl 7 (by decide) (List.mem_of_getElem? (i := 1) rfl) rfl dX8_reads_94 ?_
            refine lv_iload_n hx hb dX8_reads_97 rfl (lv_at hl 2 rfl) ?_
            refine k_iald (v := f8_7 p0.toNatClampNeg) E h 1 0 rfl rfl (vp_in_iff.mpr (by omega)) rfl dX8_reads_98 ?_
            refine lv_bipush (v := 9) hx hb dX8_reads_99 (by decide) ?_
            refine lv_icmp_lt (tgt := 118) hx hb dX8_reads_101 (by decide) (fun c_19 => ?_) (fun c_19 => ?_)
            · skip
              have i_19 : (f8_7 p0.toNatClampNeg).toInt < 9 := (fa_lt _ _).mp c_19
              refine lv_iload_n hx hb dX8_reads_118 rfl (lv_at hl 0 rfl) ?_
              have hP9 := h.2.1.sub [0, 1, 2, 3, 4] rfl
              have hD9 := h.2.2.1.sub (ws' := [(o8, .inr (8, [.ref a8_0, .ref a8_1, .ref a8_2, .ref a8_3, .ref a8_4, .ref a8_5, .int v8_6, .ref a8_7, .ref a8_8, .ref a8_9, .ref a8_10, .ref a8_11, .int v8_12, .ref a8_13, .ref a8_14, .ref a8_15, .ref a8_16, .ref a8_17, .ref a8_18, .ref a8_19, .ref a8_20, .ref a8_21, .ref a8_22, .ref a8_23, .ref a8_24, .int v8_25, .int v8_26, .ref a8_27, .ref a8_28, .ref a8_29, .ref a8_30, .ref a8_31, .int v8_32, .int v8_33, .int v8_34, .int v8_35, .ref a8_36, .ref a8_37, .int v8_38, .int v8_39, .int v8_40, .ref a8_41, .ref a8_42, .int v8_43])), (a8_7, .inl (c8_7, 120, .inl f8_7)), (a8_8, .inl (c8_8, 120, .inl f8_8)), (a8_9, .inl (c8_9, 120, .inl f8_9)), (a8_10, .inl (c8_10, 120, .inl f8_10))]) [0, 1, 2, 3, 4] (by decide) rfl
              exact W.iret (v := (0 : Int32) ||| ((1 : Int32) <<< ((f8_10 p0.toNatClampNeg) &&& 31))) hx hb hr (fun t ht hW => ⟨⟨(0 : Int32) ||| ((1 : Int32) <<< ((f8_10 p0.toNatClampNeg) &&& 31)), (), rfl, trivial, (by rw [ht]; exact hP9), hD9⟩, h.2.2.2.1.F ht⟩) h.2.2.2.1.2.2 dX8_reads_119 hlocks
            · skip
              have i_19 : ¬ (f8_7 p0.toNatClampNeg).toInt < 9 := fun h9 => c_19 ((fa_lt _ _).mpr h9)
              refine lv_iload_n hx hb dX8_reads_104 rfl (lv_at hl 0 rfl) ?_
              refine lv_iconst (v := 1) hx hb dX8_reads_105 (by decide) ?_
              refine lv_bipush (v := 8) hx hb dX8_reads_106 (by decide) ?_
              refine lv_aload_n hx hb dX8_reads_108 rfl (lv_at hl 1 rfl) ?_
              refine k_get (v := .ref a8_9) E h (fun w h => List.mem_cons_of_mem _ (List.mem_append_right _ h)) 0 rfl rfl 9 (by decide) (List.mem_of_getElem? (i := 2) rfl) rfl dX8_reads_109 ?_
              refine lv_iload_n hx hb dX8_reads_112 rfl (lv_at hl 2 rfl) ?_
              refine k_iald (v := f8_9 p0.toNatClampNeg) E h 3 2 rfl rfl (vp_in_iff.mpr (by omega)) rfl dX8_reads_113 ?_
              refine lv_iadd hx hb dX8_reads_114 ?_
              refine lv_ishl hx hb dX8_reads_115 ?_
              refine lv_ior hx hb dX8_reads_116 ?_
              refine lv_istore_n (lv' := [(2, .int (((0 : Int32) ||| ((1 : Int32) <<< ((f8_10 p0.toNatClampNeg) &&& 31))) ||| ((1 : Int32) <<< ((8 + (f8_9 p0.toNatClampNeg)) &&& 31)))), (0, .ref o8), (1, .int p0)]) hx hb dX8_reads_117 rfl hl (by decide) rfl (fun ls hl => ?_)
              refine W.eq (g2 := F0 m 118 ls []) rfl ?_
              refine lv_iload_n hx hb dX8_reads_118 rfl (lv_at hl 0 rfl) ?_
              have hP9 := h.2.1.sub [0, 1, 2, 3, 4] rfl
              have hD9 := h.2.2.1.sub (ws' := [(o8, .inr (8, [.ref a8_0, .ref a8_1, .ref a8_2, .ref a8_3, .ref a8_4, .ref a8_5, .int v8_6, .ref a8_7, .ref a8_8, .ref a8_9, .ref a8_10, .ref a8_11, .int v8_12, .ref a8_13, .ref a8_14, .ref a8_15, .ref a8_16, .ref a8_17, .ref a8_18, .ref a8_19, .ref a8_20, .ref a8_21, .ref a8_22, .ref a8_23, .ref a8_24, .int v8_25, .int v8_26, .ref a8_27, .ref a8_28, .ref a8_29, .ref a8_30, .ref a8_31, .int v8_32, .int v8_33, .int v8_34, .int v8_35, .ref a8_36, .ref a8_37, .int v8_38, .int v8_39, .int v8_40, .ref a8_41, .ref a8_42, .int v8_43])), (a8_7, .inl (c8_7, 120, .inl f8_7)), (a8_8, .inl (c8_8, 120, .inl f8_8)), (a8_9, .inl (c8_9, 120, .inl f8_9)), (a8_10, .inl (c8_10, 120, .inl f8_10))]) [0, 1, 2, 3, 4] (by decide) rfl
              exact W.iret (v := ((0 : Int32) ||| ((1 : Int32) <<< ((f8_10 p0.toNatClampNeg) &&& 31))) ||| ((1 : Int32) <<< ((8 + (f8_9 p0.toNatClampNeg)) &&& 31))) hx hb hr (fun t ht hW => ⟨⟨((0 : Int32) ||| ((1 : Int32) <<< ((f8_10 p0.toNatClampNeg) &&& 31))) ||| ((1 : Int32) <<< ((8 + (f8_9 p0.toNatClampNeg)) &&& 31)), (), rfl, trivial, (by rw [ht]; exact hP9), hD9⟩, h.2.2.2.1.F ht⟩) h.2.2.2.1.2.2 dX8_reads_119 hlocks
          · skip
            have i_18 : (f8_7 p0.toNatClampNeg).toInt = 7 := (fa_eq _ _).mp c_18
            refine lv_iload_n hx hb dX8_reads_87 rfl (lv_at hl 0 rfl) ?_
            refine lv_sipush (v := 1024) hx hb dX8_reads_88 (by decide) ?_
            refine lv_ior hx hb dX8_reads_91 ?_
            refine lv_istore_n (lv' := [(2, .int (((0 : Int32) ||| ((1 : Int32) <<< ((f8_10 p0.toNatClampNeg) &&& 31))) ||| (1024 : Int32))), (0, .ref o8), (1, .int p0)]) hx hb dX8_reads_92 rfl hl (by decide) rfl (fun ls hl => ?_)
            refine lv_aload_n hx hb dX8_reads_93 rfl (lv_at hl 1 rfl) ?_
            refine k_get (v := .ref a8_7) E h (fun w h => List.mem_cons_of_mem _ (List.mem_append_right _ h)) 0 rfl rfl 7 (by decide) (List.mem_of_getElem? (i := 1) rfl) rfl dX8_reads_94 ?_
            refine lv_iload_n hx hb dX8_reads_97 rfl (lv_at hl 2 rfl) ?_
            refine k_iald (v := f8_7 p0.toNatClampNeg) E h 1 0 rfl rfl (vp_in_iff.mpr (by omega)) rfl dX8_reads_98 ?_
            refine lv_bipush (v := 9) hx hb dX8_reads_99 (by decide) ?_
            refine lv_icmp_lt (tgt := 118) hx hb dX8_reads_101 (by decide) (fun c_20 => ?_) (fun c_20 => ?_)
            · skip
              have i_20 : (f8_7 p0.toNatClampNeg).toInt < 9 := (fa_lt _ _).mp c_20
              refine lv_iload_n hx hb dX8_reads_118 rfl (lv_at hl 0 rfl) ?_
              have hP9 := h.2.1.sub [0, 1, 2, 3, 4] rfl
              have hD9 := h.2.2.1.sub (ws' := [(o8, .inr (8, [.ref a8_0, .ref a8_1, .ref a8_2, .ref a8_3, .ref a8_4, .ref a8_5, .int v8_6, .ref a8_7, .ref a8_8, .ref a8_9, .ref a8_10, .ref a8_11, .int v8_12, .ref a8_13, .ref a8_14, .ref a8_15, .ref a8_16, .ref a8_17, .ref a8_18, .ref a8_19, .ref a8_20, .ref a8_21, .ref a8_22, .ref a8_23, .ref a8_24, .int v8_25, .int v8_26, .ref a8_27, .ref a8_28, .ref a8_29, .ref a8_30, .ref a8_31, .int v8_32, .int v8_33, .int v8_34, .int v8_35, .ref a8_36, .ref a8_37, .int v8_38, .int v8_39, .int v8_40, .ref a8_41, .ref a8_42, .int v8_43])), (a8_7, .inl (c8_7, 120, .inl f8_7)), (a8_8, .inl (c8_8, 120, .inl f8_8)), (a8_9, .inl (c8_9, 120, .inl f8_9)), (a8_10, .inl (c8_10, 120, .inl f8_10))]) [0, 1, 2, 3, 4] (by decide) rfl
              exact W.iret (v := ((0 : Int32) ||| ((1 : Int32) <<< ((f8_10 p0.toNatClampNeg) &&& 31))) ||| (1024 : Int32)) hx hb hr (fun t ht hW => ⟨⟨((0 : Int32) ||| ((1 : Int32) <<< ((f8_10 p0.toNatClampNeg) &&& 31))) ||| (1024 : Int32), (), rfl, trivial, (by rw [ht]; exact hP9), hD9⟩, h.2.2.2.1.F ht⟩) h.2.2.2.1.2.2 dX8_reads_119 hlocks
            · skip
              have i_20 : ¬ (f8_7 p0.toNatClampNeg).toInt < 9 := fun h9 => c_20 ((fa_lt _ _).mpr h9)
              refine lv_iload_n hx hb dX8_reads_104 rfl (lv_at hl 0 rfl) ?_
              refine lv_iconst (v := 1) hx hb dX8_reads_105 (by decide) ?_
              refine lv_bipush (v := 8) hx hb dX8_reads_106 (by decide) ?_
              refine lv_aload_n hx hb dX8_reads_108 rfl (lv_at hl 1 rfl) ?_
              refine k_get (v := .ref a8_9) E h (fun w h => List.mem_cons_of_mem _ (List.mem_append_right _ h)) 0 rfl rfl 9 (by decide) (List.mem_of_getElem? (i := 2) rfl) rfl dX8_reads_109 ?_
              refine lv_iload_n hx hb dX8_reads_112 rfl (lv_at hl 2 rfl) ?_
              refine k_iald (v := f8_9 p0.toNatClampNeg) E h 3 2 rfl rfl (vp_in_iff.mpr (by omega)) rfl dX8_reads_113 ?_
              refine lv_iadd hx hb dX8_reads_114 ?_
              refine lv_ishl hx hb dX8_reads_115 ?_
              refine lv_ior hx hb dX8_reads_116 ?_
              refine lv_istore_n (lv' := [(2, .int ((((0 : Int32) ||| ((1 : Int32) <<< ((f8_10 p0.toNatClampNeg) &&& 31))) ||| (1024 : Int32)) ||| ((1 : Int32) <<< ((8 + (f8_9 p0.toNatClampNeg)) &&& 31)))), (0, .ref o8), (1, .int p0)]) hx hb dX8_reads_117 rfl hl (by decide) rfl (fun ls hl => ?_)
              refine W.eq (g2 := F0 m 118 ls []) rfl ?_
              refine lv_iload_n hx hb dX8_reads_118 rfl (lv_at hl 0 rfl) ?_
              have hP9 := h.2.1.sub [0, 1, 2, 3, 4] rfl
              have hD9 := h.2.2.1.sub (ws' := [(o8, .inr (8, [.ref a8_0, .ref a8_1, .ref a8_2, .ref a8_3, .ref a8_4, .ref a8_5, .int v8_6, .ref a8_7, .ref a8_8, .ref a8_9, .ref a8_10, .ref a8_11, .int v8_12, .ref a8_13, .ref a8_14, .ref a8_15, .ref a8_16, .ref a8_17, .ref a8_18, .ref a8_19, .ref a8_20, .ref a8_21, .ref a8_22, .ref a8_23, .ref a8_24, .int v8_25, .int v8_26, .ref a8_27, .ref a8_28, .ref a8_29, .ref a8_30, .ref a8_31, .int v8_32, .int v8_33, .int v8_34, .int v8_35, .ref a8_36, .ref a8_37, .int v8_38, .int v8_39, .int v8_40, .ref a8_41, .ref a8_42, .int v8_43])), (a8_7, .inl (c8_7, 120, .inl f8_7)), (a8_8, .inl (c8_8, 120, .inl f8_8)), (a8_9, .inl (c8_9, 120, .inl f8_9)), (a8_10, .inl (c8_10, 120, .inl f8_10))]) [0, 1, 2, 3, 4] (by decide) rfl
              exact W.iret (v := (((0 : Int32) ||| ((1 : Int32) <<< ((f8_10 p0.toNatClampNeg) &&& 31))) ||| (1024 : Int32)) ||| ((1 : Int32) <<< ((8 + (f8_9 p0.toNatClampNeg)) &&& 31))) hx hb hr (fun t ht hW => ⟨⟨(((0 : Int32) ||| ((1 : Int32) <<< ((f8_10 p0.toNatClampNeg) &&& 31))) ||| (1024 : Int32)) ||| ((1 : Int32) <<< ((8 + (f8_9 p0.toNatClampNeg)) &&& 31)), (), rfl, trivial, (by rw [ht]; exact hP9), hD9⟩, h.2.2.2.1.F ht⟩) h.2.2.2.1.2.2 dX8_reads_119 hlocks
  · skip
    have i_1 : ¬ (f8_7 p0.toNatClampNeg).toInt < 1 := fun h9 => c_1 ((fa_lt _ _).mpr h9)
    refine lv_aload_n hx hb dX8_reads_12 rfl (lv_at hl 1 rfl) ?_
    refine k_get (v := .ref a8_7) E h (fun w h => List.mem_cons_of_mem _ (List.mem_append_right _ h)) 0 rfl rfl 7 (by decide) (List.mem_of_getElem? (i := 1) rfl) rfl dX8_reads_13 ?_
    refine lv_iload_n hx hb dX8_reads_16 rfl (lv_at hl 2 rfl) ?_
    refine k_iald (v := f8_7 p0.toNatClampNeg) E h 1 0 rfl rfl (vp_in_iff.mpr (by omega)) rfl dX8_reads_17 ?_
    refine lv_bipush (v := 8) hx hb dX8_reads_18 (by decide) ?_
    refine lv_icmp_gt (tgt := 34) hx hb dX8_reads_20 (by decide) (fun c_21 => ?_) (fun c_21 => ?_)
    · skip
      have i_21 : 8 < (f8_7 p0.toNatClampNeg).toInt := (fa_lt _ _).mp c_21
      refine lv_aload_n hx hb dX8_reads_34 rfl (lv_at hl 1 rfl) ?_
      refine k_get (v := .ref a8_7) E h (fun w h => List.mem_cons_of_mem _ (List.mem_append_right _ h)) 0 rfl rfl 7 (by decide) (List.mem_of_getElem? (i := 1) rfl) rfl dX8_reads_35 ?_
      refine lv_iload_n hx hb dX8_reads_38 rfl (lv_at hl 2 rfl) ?_
      refine k_iald (v := f8_7 p0.toNatClampNeg) E h 1 0 rfl rfl (vp_in_iff.mpr (by omega)) rfl dX8_reads_39 ?_
      refine lv_iconst (v := 2) hx hb dX8_reads_40 (by decide) ?_
      refine lv_icmp_lt (tgt := 54) hx hb dX8_reads_41 (by decide) (fun c_22 => ?_) (fun c_22 => ?_)
      · skip
        have i_22 : (f8_7 p0.toNatClampNeg).toInt < 2 := (fa_lt _ _).mp c_22
        refine lv_aload_n hx hb dX8_reads_54 rfl (lv_at hl 1 rfl) ?_
        refine k_get (v := .ref a8_7) E h (fun w h => List.mem_cons_of_mem _ (List.mem_append_right _ h)) 0 rfl rfl 7 (by decide) (List.mem_of_getElem? (i := 1) rfl) rfl dX8_reads_55 ?_
        refine lv_iload_n hx hb dX8_reads_58 rfl (lv_at hl 2 rfl) ?_
        refine k_iald (v := f8_7 p0.toNatClampNeg) E h 1 0 rfl rfl (vp_in_iff.mpr (by omega)) rfl dX8_reads_59 ?_
        refine lv_bipush (v := 8) hx hb dX8_reads_60 (by decide) ?_
        refine lv_icmp_ne (tgt := 76) hx hb dX8_reads_62 (by decide) (fun c_23 => ?_) (fun c_23 => ?_)
        · skip
          have i_23 : ¬ (f8_7 p0.toNatClampNeg).toInt = 8 := fun h9 => c_23 ((fa_eq _ _).mpr h9)
          refine lv_aload_n hx hb dX8_reads_76 rfl (lv_at hl 1 rfl) ?_
          refine k_get (v := .ref a8_7) E h (fun w h => List.mem_cons_of_mem _ (List.mem_append_right _ h)) 0 rfl rfl 7 (by decide) (List.mem_of_getElem? (i := 1) rfl) rfl dX8_reads_77 ?_
          refine lv_iload_n hx hb dX8_reads_80 rfl (lv_at hl 2 rfl) ?_
          refine k_iald (v := f8_7 p0.toNatClampNeg) E h 1 0 rfl rfl (vp_in_iff.mpr (by omega)) rfl dX8_reads_81 ?_
          refine lv_bipush (v := 7) hx hb dX8_reads_82 (by decide) ?_
          refine lv_icmp_ne (tgt := 93) hx hb dX8_reads_84 (by decide) (fun c_24 => ?_) (fun c_24 => ?_)
          · skip
            have i_24 : ¬ (f8_7 p0.toNatClampNeg).toInt = 7 := fun h9 => c_24 ((fa_eq _ _).mpr h9)
            refine lv_aload_n hx hb dX8_reads_93 rfl (lv_at hl 1 rfl) ?_
            refine k_get (v := .ref a8_7) E h (fun w h => List.mem_cons_of_mem _ (List.mem_append_right _ h)) 0 rfl rfl 7 (by decide) (List.mem_of_getElem? (i := 1) rfl) rfl dX8_reads_94 ?_
            refine lv_iload_n hx hb dX8_reads_97 rfl (lv_at hl 2 rfl) ?_
            refine k_iald (v := f8_7 p0.toNatClampNeg) E h 1 0 rfl rfl (vp_in_iff.mpr (by omega)) rfl dX8_reads_98 ?_
            refine lv_bipush (v := 9) hx hb dX8_reads_99 (by decide) ?_
            refine lv_icmp_lt (tgt := 118) hx hb dX8_reads_101 (by decide) (fun c_25 => ?_) (fun c_25 => ?_)
            · skip
              have i_25 : (f8_7 p0.toNatClampNeg).toInt < 9 := (fa_lt _ _).mp c_25
              refine lv_iload_n hx hb dX8_reads_118 rfl (lv_at hl 0 rfl) ?_
              have hP9 := h.2.1.sub [0, 1, 2, 3, 4] rfl
              have hD9 := h.2.2.1.sub (ws' := [(o8, .inr (8, [.ref a8_0, .ref a8_1, .ref a8_2, .ref a8_3, .ref a8_4, .ref a8_5, .int v8_6, .ref a8_7, .ref a8_8, .ref a8_9, .ref a8_10, .ref a8_11, .int v8_12, .ref a8_13, .ref a8_14, .ref a8_15, .ref a8_16, .ref a8_17, .ref a8_18, .ref a8_19, .ref a8_20, .ref a8_21, .ref a8_22, .ref a8_23, .ref a8_24, .int v8_25, .int v8_26, .ref a8_27, .ref a8_28, .ref a8_29, .ref a8_30, .ref a8_31, .int v8_32, .int v8_33, .int v8_34, .int v8_35, .ref a8_36, .ref a8_37, .int v8_38, .int v8_39, .int v8_40, .ref a8_41, .ref a8_42, .int v8_43])), (a8_7, .inl (c8_7, 120, .inl f8_7)), (a8_8, .inl (c8_8, 120, .inl f8_8)), (a8_9, .inl (c8_9, 120, .inl f8_9)), (a8_10, .inl (c8_10, 120, .inl f8_10))]) [0, 1, 2, 3, 4] (by decide) rfl
              exact W.iret (v := 0) hx hb hr (fun t ht hW => ⟨⟨0, (), rfl, trivial, (by rw [ht]; exact hP9), hD9⟩, h.2.2.2.1.F ht⟩) h.2.2.2.1.2.2 dX8_reads_119 hlocks
            · skip
              have i_25 : ¬ (f8_7 p0.toNatClampNeg).toInt < 9 := fun h9 => c_25 ((fa_lt _ _).mpr h9)
              refine lv_iload_n hx hb dX8_reads_104 rfl (lv_at hl 0 rfl) ?_
              refine lv_iconst (v := 1) hx hb dX8_reads_105 (by decide) ?_
              refine lv_bipush (v := 8) hx hb dX8_reads_106 (by decide) ?_
              refine lv_aload_n hx hb dX8_reads_108 rfl (lv_at hl 1 rfl) ?_
              refine k_get (v := .ref a8_9) E h (fun w h => List.mem_cons_of_mem _ (List.mem_append_right _ h)) 0 rfl rfl 9 (by decide) (List.mem_of_getElem? (i := 2) rfl) rfl dX8_reads_109 ?_
              refine lv_iload_n hx hb dX8_reads_112 rfl (lv_at hl 2 rfl) ?_
              refine k_iald (v := f8_9 p0.toNatClampNeg) E h 3 2 rfl rfl (vp_in_iff.mpr (by omega)) rfl dX8_reads_113 ?_
              refine lv_iadd hx hb dX8_reads_114 ?_
              refine lv_ishl hx hb dX8_reads_115 ?_
              refine lv_ior hx hb dX8_reads_116 ?_
              refine lv_istore_n (lv' := [(2, .int ((0 : Int32) ||| ((1 : Int32) <<< ((8 + (f8_9 p0.toNatClampNeg)) &&& 31)))), (0, .ref o8), (1, .int p0)]) hx hb dX8_reads_117 rfl hl (by decide) rfl (fun ls hl => ?_)
              refine W.eq (g2 := F0 m 118 ls []) rfl ?_
              refine lv_iload_n hx hb dX8_reads_118 rfl (lv_at hl 0 rfl) ?_
              have hP9 := h.2.1.sub [0, 1, 2, 3, 4] rfl
              have hD9 := h.2.2.1.sub (ws' := [(o8, .inr (8, [.ref a8_0, .ref a8_1, .ref a8_2, .ref a8_3, .ref a8_4, .ref a8_5, .int v8_6, .ref a8_7, .ref a8_8, .ref a8_9, .ref a8_10, .ref a8_11, .int v8_12, .ref a8_13, .ref a8_14, .ref a8_15, .ref a8_16, .ref a8_17, .ref a8_18, .ref a8_19, .ref a8_20, .ref a8_21, .ref a8_22, .ref a8_23, .ref a8_24, .int v8_25, .int v8_26, .ref a8_27, .ref a8_28, .ref a8_29, .ref a8_30, .ref a8_31, .int v8_32, .int v8_33, .int v8_34, .int v8_35, .ref a8_36, .ref a8_37, .int v8_38, .int v8_39, .int v8_40, .ref a8_41, .ref a8_42, .int v8_43])), (a8_7, .inl (c8_7, 120, .inl f8_7)), (a8_8, .inl (c8_8, 120, .inl f8_8)), (a8_9, .inl (c8_9, 120, .inl f8_9)), (a8_10, .inl (c8_10, 120, .inl f8_10))]) [0, 1, 2, 3, 4] (by decide) rfl
              exact W.iret (v := (0 : Int32) ||| ((1 : Int32) <<< ((8 + (f8_9 p0.toNatClampNeg)) &&& 31))) hx hb hr (fun t ht hW => ⟨⟨(0 : Int32) ||| ((1 : Int32) <<< ((8 + (f8_9 p0.toNatClampNeg)) &&& 31)), (), rfl, trivial, (by rw [ht]; exact hP9), hD9⟩, h.2.2.2.1.F ht⟩) h.2.2.2.1.2.2 dX8_reads_119 hlocks
          · skip
            have i_24 : (f8_7 p0.toNatClampNeg).toInt = 7 := (fa_eq _ _).mp c_24
            refine lv_iload_n hx hb dX8_reads_87 rfl (lv_at hl 0 rfl) ?_
            refine lv_sipush (v := 1024) hx hb dX8_reads_88 (by decide) ?_
            refine lv_ior hx hb dX8_reads_91 ?_
            refine k_topi (y := 1024) (by decide) ?_
            refine lv_istore_n (lv' := [(2, .int 1024), (0, .ref o8), (1, .int p0)]) hx hb dX8_reads_92 rfl hl (by decide) rfl (fun ls hl => ?_)
            refine lv_aload_n hx hb dX8_reads_93 rfl (lv_at hl 1 rfl) ?_
            refine k_get (v := .ref a8_7) E h (fun w h => List.mem_cons_of_mem _ (List.mem_append_right _ h)) 0 rfl rfl 7 (by decide) (List.mem_of_getElem? (i := 1) rfl) rfl dX8_reads_94 ?_
            refine lv_iload_n hx hb dX8_reads_97 rfl (lv_at hl 2 rfl) ?_
            refine k_iald (v := f8_7 p0.toNatClampNeg) E h 1 0 rfl rfl (vp_in_iff.mpr (by omega)) rfl dX8_reads_98 ?_
            refine lv_bipush (v := 9) hx hb dX8_reads_99 (by decide) ?_
            refine lv_icmp_lt (tgt := 118) hx hb dX8_reads_101 (by decide) (fun c_26 => ?_) (fun c_26 => ?_)
            · skip
              have i_26 : (f8_7 p0.toNatClampNeg).toInt < 9 := (fa_lt _ _).mp c_26
              refine lv_iload_n hx hb dX8_reads_118 rfl (lv_at hl 0 rfl) ?_
              have hP9 := h.2.1.sub [0, 1, 2, 3, 4] rfl
              have hD9 := h.2.2.1.sub (ws' := [(o8, .inr (8, [.ref a8_0, .ref a8_1, .ref a8_2, .ref a8_3, .ref a8_4, .ref a8_5, .int v8_6, .ref a8_7, .ref a8_8, .ref a8_9, .ref a8_10, .ref a8_11, .int v8_12, .ref a8_13, .ref a8_14, .ref a8_15, .ref a8_16, .ref a8_17, .ref a8_18, .ref a8_19, .ref a8_20, .ref a8_21, .ref a8_22, .ref a8_23, .ref a8_24, .int v8_25, .int v8_26, .ref a8_27, .ref a8_28, .ref a8_29, .ref a8_30, .ref a8_31, .int v8_32, .int v8_33, .int v8_34, .int v8_35, .ref a8_36, .ref a8_37, .int v8_38, .int v8_39, .int v8_40, .ref a8_41, .ref a8_42, .int v8_43])), (a8_7, .inl (c8_7, 120, .inl f8_7)), (a8_8, .inl (c8_8, 120, .inl f8_8)), (a8_9, .inl (c8_9, 120, .inl f8_9)), (a8_10, .inl (c8_10, 120, .inl f8_10))]) [0, 1, 2, 3, 4] (by decide) rfl
              exact W.iret (v := 1024) hx hb hr (fun t ht hW => ⟨⟨1024, (), rfl, trivial, (by rw [ht]; exact hP9), hD9⟩, h.2.2.2.1.F ht⟩) h.2.2.2.1.2.2 dX8_reads_119 hlocks
            · skip
              have i_26 : ¬ (f8_7 p0.toNatClampNeg).toInt < 9 := fun h9 => c_26 ((fa_lt _ _).mpr h9)
              refine lv_iload_n hx hb dX8_reads_104 rfl (lv_at hl 0 rfl) ?_
              refine lv_iconst (v := 1) hx hb dX8_reads_105 (by decide) ?_
              refine lv_bipush (v := 8) hx hb dX8_reads_106 (by decide) ?_
              refine lv_aload_n hx hb dX8_reads_108 rfl (lv_at hl 1 rfl) ?_
              refine k_get (v := .ref a8_9) E h (fun w h => List.mem_cons_of_mem _ (List.mem_append_right _ h)) 0 rfl rfl 9 (by decide) (List.mem_of_getElem? (i := 2) rfl) rfl dX8_reads_109 ?_
              refine lv_iload_n hx hb dX8_reads_112 rfl (lv_at hl 2 rfl) ?_
              refine k_iald (v := f8_9 p0.toNatClampNeg) E h 3 2 rfl rfl (vp_in_iff.mpr (by omega)) rfl dX8_reads_113 ?_
              refine lv_iadd hx hb dX8_reads_114 ?_
              refine lv_ishl hx hb dX8_reads_115 ?_
              refine lv_ior hx hb dX8_reads_116 ?_
              refine lv_istore_n (lv' := [(2, .int ((1024 : Int32) ||| ((1 : Int32) <<< ((8 + (f8_9 p0.toNatClampNeg)) &&& 31)))), (0, .ref o8), (1, .int p0)]) hx hb dX8_reads_117 rfl hl (by decide) rfl (fun ls hl => ?_)
              refine W.eq (g2 := F0 m 118 ls []) rfl ?_
              refine lv_iload_n hx hb dX8_reads_118 rfl (lv_at hl 0 rfl) ?_
              have hP9 := h.2.1.sub [0, 1, 2, 3, 4] rfl
              have hD9 := h.2.2.1.sub (ws' := [(o8, .inr (8, [.ref a8_0, .ref a8_1, .ref a8_2, .ref a8_3, .ref a8_4, .ref a8_5, .int v8_6, .ref a8_7, .ref a8_8, .ref a8_9, .ref a8_10, .ref a8_11, .int v8_12, .ref a8_13, .ref a8_14, .ref a8_15, .ref a8_16, .ref a8_17, .ref a8_18, .ref a8_19, .ref a8_20, .ref a8_21, .ref a8_22, .ref a8_23, .ref a8_24, .int v8_25, .int v8_26, .ref a8_27, .ref a8_28, .ref a8_29, .ref a8_30, .ref a8_31, .int v8_32, .int v8_33, .int v8_34, .int v8_35, .ref a8_36, .ref a8_37, .int v8_38, .int v8_39, .int v8_40, .ref a8_41, .ref a8_42, .int v8_43])), (a8_7, .inl (c8_7, 120, .inl f8_7)), (a8_8, .inl (c8_8, 120, .inl f8_8)), (a8_9, .inl (c8_9, 120, .inl f8_9)), (a8_10, .inl (c8_10, 120, .inl f8_10))]) [0, 1, 2, 3, 4] (by decide) rfl
              exact W.iret (v := (1024 : Int32) ||| ((1 : Int32) <<< ((8 + (f8_9 p0.toNatClampNeg)) &&& 31))) hx hb hr (fun t ht hW => ⟨⟨(1024 : Int32) ||| ((1 : Int32) <<< ((8 + (f8_9 p0.toNatClampNeg)) &&& 31)), (), rfl, trivial, (by rw [ht]; exact hP9), hD9⟩, h.2.2.2.1.F ht⟩) h.2.2.2.1.2.2 dX8_reads_119 hlocks
        · skip
          have i_23 : (f8_7 p0.toNatClampNeg).toInt = 8 := (fa_eq _ _).mp c_23
          refine lv_iload_n hx hb dX8_reads_65 rfl (lv_at hl 0 rfl) ?_
          refine lv_iconst (v := 1) hx hb dX8_reads_66 (by decide) ?_
          refine lv_aload_n hx hb dX8_reads_67 rfl (lv_at hl 1 rfl) ?_
          refine k_get (v := .ref a8_10) E h (fun w h => List.mem_cons_of_mem _ (List.mem_append_right _ h)) 0 rfl rfl 10 (by decide) (List.mem_of_getElem? (i := 3) rfl) rfl dX8_reads_68 ?_
          refine lv_iload_n hx hb dX8_reads_71 rfl (lv_at hl 2 rfl) ?_
          refine k_iald (v := f8_10 p0.toNatClampNeg) E h 4 3 rfl rfl (vp_in_iff.mpr (by omega)) rfl dX8_reads_72 ?_
          refine lv_ishl hx hb dX8_reads_73 ?_
          refine lv_ior hx hb dX8_reads_74 ?_
          refine lv_istore_n (lv' := [(2, .int ((0 : Int32) ||| ((1 : Int32) <<< ((f8_10 p0.toNatClampNeg) &&& 31)))), (0, .ref o8), (1, .int p0)]) hx hb dX8_reads_75 rfl hl (by decide) rfl (fun ls hl => ?_)
          refine lv_aload_n hx hb dX8_reads_76 rfl (lv_at hl 1 rfl) ?_
          refine k_get (v := .ref a8_7) E h (fun w h => List.mem_cons_of_mem _ (List.mem_append_right _ h)) 0 rfl rfl 7 (by decide) (List.mem_of_getElem? (i := 1) rfl) rfl dX8_reads_77 ?_
          refine W.eq (g2 := F0 m 80 ls [.ref a8_7]) rfl ?_
          refine lv_iload_n hx hb dX8_reads_80 rfl (lv_at hl 2 rfl) ?_
          refine k_iald (v := f8_7 p0.toNatClampNeg) E h 1 0 rfl rfl (vp_in_iff.mpr (by omega)) rfl dX8_reads_81 ?_
          refine lv_bipush (v := 7) hx hb dX8_reads_82 (by decide) ?_
          refine lv_icmp_ne (tgt := 93) hx hb dX8_reads_84 (by decide) (fun c_27 => ?_) (fun c_27 => ?_)
          · skip
            have i_27 : ¬ (f8_7 p0.toNatClampNeg).toInt = 7 := fun h9 => c_27 ((fa_eq _ _).mpr h9)
            refine lv_aload_n hx hb dX8_reads_93 rfl (lv_at hl 1 rfl) ?_
            refine k_get (v := .ref a8_7) E h (fun w h => List.mem_cons_of_mem _ (List.mem_append_right _ h)) 0 rfl rfl 7 (by decide) (List.mem_of_getElem? (i := 1) rfl) rfl dX8_reads_94 ?_
            refine lv_iload_n hx hb dX8_reads_97 rfl (lv_at hl 2 rfl) ?_
            refine k_iald (v := f8_7 p0.toNatClampNeg) E h 1 0 rfl rfl (vp_in_iff.mpr (by omega)) rfl dX8_reads_98 ?_
            refine lv_bipush (v := 9) hx hb dX8_reads_99 (by decide) ?_
            refine lv_icmp_lt (tgt := 118) hx hb dX8_reads_101 (by decide) (fun c_28 => ?_) (fun c_28 => ?_)
            · skip
              have i_28 : (f8_7 p0.toNatClampNeg).toInt < 9 := (fa_lt _ _).mp c_28
              refine lv_iload_n hx hb dX8_reads_118 rfl (lv_at hl 0 rfl) ?_
              have hP9 := h.2.1.sub [0, 1, 2, 3, 4] rfl
              have hD9 := h.2.2.1.sub (ws' := [(o8, .inr (8, [.ref a8_0, .ref a8_1, .ref a8_2, .ref a8_3, .ref a8_4, .ref a8_5, .int v8_6, .ref a8_7, .ref a8_8, .ref a8_9, .ref a8_10, .ref a8_11, .int v8_12, .ref a8_13, .ref a8_14, .ref a8_15, .ref a8_16, .ref a8_17, .ref a8_18, .ref a8_19, .ref a8_20, .ref a8_21, .ref a8_22, .ref a8_23, .ref a8_24, .int v8_25, .int v8_26, .ref a8_27, .ref a8_28, .ref a8_29, .ref a8_30, .ref a8_31, .int v8_32, .int v8_33, .int v8_34, .int v8_35, .ref a8_36, .ref a8_37, .int v8_38, .int v8_39, .int v8_40, .ref a8_41, .ref a8_42, .int v8_43])), (a8_7, .inl (c8_7, 120, .inl f8_7)), (a8_8, .inl (c8_8, 120, .inl f8_8)), (a8_9, .inl (c8_9, 120, .inl f8_9)), (a8_10, .inl (c8_10, 120, .inl f8_10))]) [0, 1, 2, 3, 4] (by decide) rfl
              exact W.iret (v := (0 : Int32) ||| ((1 : Int32) <<< ((f8_10 p0.toNatClampNeg) &&& 31))) hx hb hr (fun t ht hW => ⟨⟨(0 : Int32) ||| ((1 : Int32) <<< ((f8_10 p0.toNatClampNeg) &&& 31)), (), rfl, trivial, (by rw [ht]; exact hP9), hD9⟩, h.2.2.2.1.F ht⟩) h.2.2.2.1.2.2 dX8_reads_119 hlocks
            · skip
              have i_28 : ¬ (f8_7 p0.toNatClampNeg).toInt < 9 := fun h9 => c_28 ((fa_lt _ _).mpr h9)
              refine lv_iload_n hx hb dX8_reads_104 rfl (lv_at hl 0 rfl) ?_
              refine lv_iconst (v := 1) hx hb dX8_reads_105 (by decide) ?_
              refine lv_bipush (v := 8) hx hb dX8_reads_106 (by decide) ?_
              refine lv_aload_n hx hb dX8_reads_108 rfl (lv_at hl 1 rfl) ?_
              refine k_get (v := .ref a8_9) E h (fun w h => List.mem_cons_of_mem _ (List.mem_append_right _ h)) 0 rfl rfl 9 (by decide) (List.mem_of_getElem? (i := 2) rfl) rfl dX8_reads_109 ?_
              refine lv_iload_n hx hb dX8_reads_112 rfl (lv_at hl 2 rfl) ?_
              refine k_iald (v := f8_9 p0.toNatClampNeg) E h 3 2 rfl rfl (vp_in_iff.mpr (by omega)) rfl dX8_reads_113 ?_
              refine lv_iadd hx hb dX8_reads_114 ?_
              refine lv_ishl hx hb dX8_reads_115 ?_
              refine lv_ior hx hb dX8_reads_116 ?_
              refine lv_istore_n (lv' := [(2, .int (((0 : Int32) ||| ((1 : Int32) <<< ((f8_10 p0.toNatClampNeg) &&& 31))) ||| ((1 : Int32) <<< ((8 + (f8_9 p0.toNatClampNeg)) &&& 31)))), (0, .ref o8), (1, .int p0)]) hx hb dX8_reads_117 rfl hl (by decide) rfl (fun ls hl => ?_)
              refine W.eq (g2 := F0 m 118 ls []) rfl ?_
              refine lv_iload_n hx hb dX8_reads_118 rfl (lv_at hl 0 rfl) ?_
              have hP9 := h.2.1.sub [0, 1, 2, 3, 4] rfl
              have hD9 := h.2.2.1.sub (ws' := [(o8, .inr (8, [.ref a8_0, .ref a8_1, .ref a8_2, .ref a8_3, .ref a8_4, .ref a8_5, .int v8_6, .ref a8_7, .ref a8_8, .ref a8_9, .ref a8_10, .ref a8_11, .int v8_12, .ref a8_13, .ref a8_14, .ref a8_15, .ref a8_16, .ref a8_17, .ref a8_18, .ref a8_19, .ref a8_20, .ref a8_21, .ref a8_22, .ref a8_23, .ref a8_24, .int v8_25, .int v8_26, .ref a8_27, .ref a8_28, .ref a8_29, .ref a8_30, .ref a8_31, .int v8_32, .int v8_33, .int v8_34, .int v8_35, .ref a8_36, .ref a8_37, .int v8_38, .int v8_39, .int v8_40, .ref a8_41, .ref a8_42, .int v8_43])), (a8_7, .inl (c8_7, 120, .inl f8_7)), (a8_8, .inl (c8_8, 120, .inl f8_8)), (a8_9, .inl (c8_9, 120, .inl f8_9)), (a8_10, .inl (c8_10, 120, .inl f8_10))]) [0, 1, 2, 3, 4] (by decide) rfl
              exact W.iret (v := ((0 : Int32) ||| ((1 : Int32) <<< ((f8_10 p0.toNatClampNeg) &&& 31))) ||| ((1 : Int32) <<< ((8 + (f8_9 p0.toNatClampNeg)) &&& 31))) hx hb hr (fun t ht hW => ⟨⟨((0 : Int32) ||| ((1 : Int32) <<< ((f8_10 p0.toNatClampNeg) &&& 31))) ||| ((1 : Int32) <<< ((8 + (f8_9 p0.toNatClampNeg)) &&& 31)), (), rfl, trivial, (by rw [ht]; exact hP9), hD9⟩, h.2.2.2.1.F ht⟩) h.2.2.2.1.2.2 dX8_reads_119 hlocks
          · skip
            have i_27 : (f8_7 p0.toNatClampNeg).toInt = 7 := (fa_eq _ _).mp c_27
            refine lv_iload_n hx hb dX8_reads_87 rfl (lv_at hl 0 rfl) ?_
            refine lv_sipush (v := 1024) hx hb dX8_reads_88 (by decide) ?_
            refine lv_ior hx hb dX8_reads_91 ?_
            refine lv_istore_n (lv' := [(2, .int (((0 : Int32) ||| ((1 : Int32) <<< ((f8_10 p0.toNatClampNeg) &&& 31))) ||| (1024 : Int32))), (0, .ref o8), (1, .int p0)]) hx hb dX8_reads_92 rfl hl (by decide) rfl (fun ls hl => ?_)
            refine lv_aload_n hx hb dX8_reads_93 rfl (lv_at hl 1 rfl) ?_
            refine k_get (v := .ref a8_7) E h (fun w h => List.mem_cons_of_mem _ (List.mem_append_right _ h)) 0 rfl rfl 7 (by decide) (List.mem_of_getElem? (i := 1) rfl) rfl dX8_reads_94 ?_
            refine lv_iload_n hx hb dX8_reads_97 rfl (lv_at hl 2 rfl) ?_
            refine k_iald (v := f8_7 p0.toNatClampNeg) E h 1 0 rfl rfl (vp_in_iff.mpr (by omega)) rfl dX8_reads_98 ?_
            refine lv_bipush (v := 9) hx hb dX8_reads_99 (by decide) ?_
            refine lv_icmp_lt (tgt := 118) hx hb dX8_reads_101 (by decide) (fun c_29 => ?_) (fun c_29 => ?_)
            · skip
              have i_29 : (f8_7 p0.toNatClampNeg).toInt < 9 := (fa_lt _ _).mp c_29
              refine lv_iload_n hx hb dX8_reads_118 rfl (lv_at hl 0 rfl) ?_
              have hP9 := h.2.1.sub [0, 1, 2, 3, 4] rfl
              have hD9 := h.2.2.1.sub (ws' := [(o8, .inr (8, [.ref a8_0, .ref a8_1, .ref a8_2, .ref a8_3, .ref a8_4, .ref a8_5, .int v8_6, .ref a8_7, .ref a8_8, .ref a8_9, .ref a8_10, .ref a8_11, .int v8_12, .ref a8_13, .ref a8_14, .ref a8_15, .ref a8_16, .ref a8_17, .ref a8_18, .ref a8_19, .ref a8_20, .ref a8_21, .ref a8_22, .ref a8_23, .ref a8_24, .int v8_25, .int v8_26, .ref a8_27, .ref a8_28, .ref a8_29, .ref a8_30, .ref a8_31, .int v8_32, .int v8_33, .int v8_34, .int v8_35, .ref a8_36, .ref a8_37, .int v8_38, .int v8_39, .int v8_40, .ref a8_41, .ref a8_42, .int v8_43])), (a8_7, .inl (c8_7, 120, .inl f8_7)), (a8_8, .inl (c8_8, 120, .inl f8_8)), (a8_9, .inl (c8_9, 120, .inl f8_9)), (a8_10, .inl (c8_10, 120, .inl f8_10))]) [0, 1, 2, 3, 4] (by decide) rfl
              exact W.iret (v := ((0 : Int32) ||| ((1 : Int32) <<< ((f8_10 p0.toNatClampNeg) &&& 31))) ||| (1024 : Int32)) hx hb hr (fun t ht hW => ⟨⟨((0 : Int32) ||| ((1 : Int32) <<< ((f8_10 p0.toNatClampNeg) &&& 31))) ||| (1024 : Int32), (), rfl, trivial, (by rw [ht]; exact hP9), hD9⟩, h.2.2.2.1.F ht⟩) h.2.2.2.1.2.2 dX8_reads_119 hlocks
            · skip
              have i_29 : ¬ (f8_7 p0.toNatClampNeg).toInt < 9 := fun h9 => c_29 ((fa_lt _ _).mpr h9)
              refine lv_iload_n hx hb dX8_reads_104 rfl (lv_at hl 0 rfl) ?_
              refine lv_iconst (v := 1) hx hb dX8_reads_105 (by decide) ?_
              refine lv_bipush (v := 8) hx hb dX8_reads_106 (by decide) ?_
              refine lv_aload_n hx hb dX8_reads_108 rfl (lv_at hl 1 rfl) ?_
              refine k_get (v := .ref a8_9) E h (fun w h => List.mem_cons_of_mem _ (List.mem_append_right _ h)) 0 rfl rfl 9 (by decide) (List.mem_of_getElem? (i := 2) rfl) rfl dX8_reads_109 ?_
              refine lv_iload_n hx hb dX8_reads_112 rfl (lv_at hl 2 rfl) ?_
              refine k_iald (v := f8_9 p0.toNatClampNeg) E h 3 2 rfl rfl (vp_in_iff.mpr (by omega)) rfl dX8_reads_113 ?_
              refine lv_iadd hx hb dX8_reads_114 ?_
              refine lv_ishl hx hb dX8_reads_115 ?_
              refine lv_ior hx hb dX8_reads_116 ?_
              refine lv_istore_n (lv' := [(2, .int ((((0 : Int32) ||| ((1 : Int32) <<< ((f8_10 p0.toNatClampNeg) &&& 31))) ||| (1024 : Int32)) ||| ((1 : Int32) <<< ((8 + (f8_9 p0.toNatClampNeg)) &&& 31)))), (0, .ref o8), (1, .int p0)]) hx hb dX8_reads_117 rfl hl (by decide) rfl (fun ls hl => ?_)
              refine W.eq (g2 := F0 m 118 ls []) rfl ?_
              refine lv_iload_n hx hb dX8_reads_118 rfl (lv_at hl 0 rfl) ?_
              have hP9 := h.2.1.sub [0, 1, 2, 3, 4] rfl
              have hD9 := h.2.2.1.sub (ws' := [(o8, .inr (8, [.ref a8_0, .ref a8_1, .ref a8_2, .ref a8_3, .ref a8_4, .ref a8_5, .int v8_6, .ref a8_7, .ref a8_8, .ref a8_9, .ref a8_10, .ref a8_11, .int v8_12, .ref a8_13, .ref a8_14, .ref a8_15, .ref a8_16, .ref a8_17, .ref a8_18, .ref a8_19, .ref a8_20, .ref a8_21, .ref a8_22, .ref a8_23, .ref a8_24, .int v8_25, .int v8_26, .ref a8_27, .ref a8_28, .ref a8_29, .ref a8_30, .ref a8_31, .int v8_32, .int v8_33, .int v8_34, .int v8_35, .ref a8_36, .ref a8_37, .int v8_38, .int v8_39, .int v8_40, .ref a8_41, .ref a8_42, .int v8_43])), (a8_7, .inl (c8_7, 120, .inl f8_7)), (a8_8, .inl (c8_8, 120, .inl f8_8)), (a8_9, .inl (c8_9, 120, .inl f8_9)), (a8_10, .inl (c8_10, 120, .inl f8_10))]) [0, 1, 2, 3, 4] (by decide) rfl
              exact W.iret (v := (((0 : Int32) ||| ((1 : Int32) <<< ((f8_10 p0.toNatClampNeg) &&& 31))) ||| (1024 : Int32)) ||| ((1 : Int32) <<< ((8 + (f8_9 p0.toNatClampNeg)) &&& 31))) hx hb hr (fun t ht hW => ⟨⟨(((0 : Int32) ||| ((1 : Int32) <<< ((f8_10 p0.toNatClampNeg) &&& 31))) ||| (1024 : Int32)) ||| ((1 : Int32) <<< ((8 + (f8_9 p0.toNatClampNeg)) &&& 31)), (), rfl, trivial, (by rw [ht]; exact hP9), hD9⟩, h.2.2.2.1.F ht⟩) h.2.2.2.1.2.2 dX8_reads_119 hlocks
      · skip
        have i_22 : ¬ (f8_7 p0.toNatClampNeg).toInt < 2 := fun h9 => c_22 ((fa_lt _ _).mpr h9)
        refine lv_aload_n hx hb dX8_reads_44 rfl (lv_at hl 1 rfl) ?_
        refine k_get (v := .ref a8_7) E h (fun w h => List.mem_cons_of_mem _ (List.mem_append_right _ h)) 0 rfl rfl 7 (by decide) (List.mem_of_getElem? (i := 1) rfl) rfl dX8_reads_45 ?_
        refine lv_iload_n hx hb dX8_reads_48 rfl (lv_at hl 2 rfl) ?_
        refine k_iald (v := f8_7 p0.toNatClampNeg) E h 1 0 rfl rfl (vp_in_iff.mpr (by omega)) rfl dX8_reads_49 ?_
        refine lv_iconst (v := 5) hx hb dX8_reads_50 (by decide) ?_
        refine lv_icmp_le (tgt := 65) hx hb dX8_reads_51 (by decide) (fun c_30 => ?_) (fun c_30 => ?_)
        · skip
          have i_30 : (f8_7 p0.toNatClampNeg).toInt ≤ 5 := (fa_le _ _).mp c_30
          refine lv_iload_n hx hb dX8_reads_65 rfl (lv_at hl 0 rfl) ?_
          refine lv_iconst (v := 1) hx hb dX8_reads_66 (by decide) ?_
          refine lv_aload_n hx hb dX8_reads_67 rfl (lv_at hl 1 rfl) ?_
          refine k_get (v := .ref a8_10) E h (fun w h => List.mem_cons_of_mem _ (List.mem_append_right _ h)) 0 rfl rfl 10 (by decide) (List.mem_of_getElem? (i := 3) rfl) rfl dX8_reads_68 ?_
          refine lv_iload_n hx hb dX8_reads_71 rfl (lv_at hl 2 rfl) ?_
          refine k_iald (v := f8_10 p0.toNatClampNeg) E h 4 3 rfl rfl (vp_in_iff.mpr (by omega)) rfl dX8_reads_72 ?_
          refine lv_ishl hx hb dX8_reads_73 ?_
          refine lv_ior hx hb dX8_reads_74 ?_
          refine lv_istore_n (lv' := [(2, .int ((0 : Int32) ||| ((1 : Int32) <<< ((f8_10 p0.toNatClampNeg) &&& 31)))), (0, .ref o8), (1, .int p0)]) hx hb dX8_reads_75 rfl hl (by decide) rfl (fun ls hl => ?_)
          refine lv_aload_n hx hb dX8_reads_76 rfl (lv_at hl 1 rfl) ?_
          refine k_get (v := .ref a8_7) E h (fun w h => List.mem_cons_of_mem _ (List.mem_append_right _ h)) 0 rfl rfl 7 (by decide) (List.mem_of_getElem? (i := 1) rfl) rfl dX8_reads_77 ?_
          refine W.eq (g2 := F0 m 80 ls [.ref a8_7]) rfl ?_
          refine lv_iload_n hx hb dX8_reads_80 rfl (lv_at hl 2 rfl) ?_
          refine k_iald (v := f8_7 p0.toNatClampNeg) E h 1 0 rfl rfl (vp_in_iff.mpr (by omega)) rfl dX8_reads_81 ?_
          refine lv_bipush (v := 7) hx hb dX8_reads_82 (by decide) ?_
          refine lv_icmp_ne (tgt := 93) hx hb dX8_reads_84 (by decide) (fun c_31 => ?_) (fun c_31 => ?_)
          · skip
            have i_31 : ¬ (f8_7 p0.toNatClampNeg).toInt = 7 := fun h9 => c_31 ((fa_eq _ _).mpr h9)
            refine lv_aload_n hx hb dX8_reads_93 rfl (lv_at hl 1 rfl) ?_
            refine k_get (v := .ref a8_7) E h (fun w h => List.mem_cons_of_mem _ (List.mem_append_right _ h)) 0 rfl rfl 7 (by decide) (List.mem_of_getElem? (i := 1) rfl) rfl dX8_reads_94 ?_
            refine lv_iload_n hx hb dX8_reads_97 rfl (lv_at hl 2 rfl) ?_
            refine k_iald (v := f8_7 p0.toNatClampNeg) E h 1 0 rfl rfl (vp_in_iff.mpr (by omega)) rfl dX8_reads_98 ?_
            refine lv_bipush (v := 9) hx hb dX8_reads_99 (by decide) ?_
            refine lv_icmp_lt (tgt := 118) hx hb dX8_reads_101 (by decide) (fun c_32 => ?_) (fun c_32 => ?_)
            · skip
              have i_32 : (f8_7 p0.toNatClampNeg).toInt < 9 := (fa_lt _ _).mp c_32
              refine lv_iload_n hx hb dX8_reads_118 rfl (lv_at hl 0 rfl) ?_
              have hP9 := h.2.1.sub [0, 1, 2, 3, 4] rfl
              have hD9 := h.2.2.1.sub (ws' := [(o8, .inr (8, [.ref a8_0, .ref a8_1, .ref a8_2, .ref a8_3, .ref a8_4, .ref a8_5, .int v8_6, .ref a8_7, .ref a8_8, .ref a8_9, .ref a8_10, .ref a8_11, .int v8_12, .ref a8_13, .ref a8_14, .ref a8_15, .ref a8_16, .ref a8_17, .ref a8_18, .ref a8_19, .ref a8_20, .ref a8_21, .ref a8_22, .ref a8_23, .ref a8_24, .int v8_25, .int v8_26, .ref a8_27, .ref a8_28, .ref a8_29, .ref a8_30, .ref a8_31, .int v8_32, .int v8_33, .int v8_34, .int v8_35, .ref a8_36, .ref a8_37, .int v8_38, .int v8_39, .int v8_40, .ref a8_41, .ref a8_42, .int v8_43])), (a8_7, .inl (c8_7, 120, .inl f8_7)), (a8_8, .inl (c8_8, 120, .inl f8_8)), (a8_9, .inl (c8_9, 120, .inl f8_9)), (a8_10, .inl (c8_10, 120, .inl f8_10))]) [0, 1, 2, 3, 4] (by decide) rfl
              exact W.iret (v := (0 : Int32) ||| ((1 : Int32) <<< ((f8_10 p0.toNatClampNeg) &&& 31))) hx hb hr (fun t ht hW => ⟨⟨(0 : Int32) ||| ((1 : Int32) <<< ((f8_10 p0.toNatClampNeg) &&& 31)), (), rfl, trivial, (by rw [ht]; exact hP9), hD9⟩, h.2.2.2.1.F ht⟩) h.2.2.2.1.2.2 dX8_reads_119 hlocks
            · skip
              have i_32 : ¬ (f8_7 p0.toNatClampNeg).toInt < 9 := fun h9 => c_32 ((fa_lt _ _).mpr h9)
              refine lv_iload_n hx hb dX8_reads_104 rfl (lv_at hl 0 rfl) ?_
              refine lv_iconst (v := 1) hx hb dX8_reads_105 (by decide) ?_
              refine lv_bipush (v := 8) hx hb dX8_reads_106 (by decide) ?_
              refine lv_aload_n hx hb dX8_reads_108 rfl (lv_at hl 1 rfl) ?_
              refine k_get (v := .ref a8_9) E h (fun w h => List.mem_cons_of_mem _ (List.mem_append_right _ h)) 0 rfl rfl 9 (by decide) (List.mem_of_getElem? (i := 2) rfl) rfl dX8_reads_109 ?_
              refine lv_iload_n hx hb dX8_reads_112 rfl (lv_at hl 2 rfl) ?_
              refine k_iald (v := f8_9 p0.toNatClampNeg) E h 3 2 rfl rfl (vp_in_iff.mpr (by omega)) rfl dX8_reads_113 ?_
              refine lv_iadd hx hb dX8_reads_114 ?_
              refine lv_ishl hx hb dX8_reads_115 ?_
              refine lv_ior hx hb dX8_reads_116 ?_
              refine lv_istore_n (lv' := [(2, .int (((0 : Int32) ||| ((1 : Int32) <<< ((f8_10 p0.toNatClampNeg) &&& 31))) ||| ((1 : Int32) <<< ((8 + (f8_9 p0.toNatClampNeg)) &&& 31)))), (0, .ref o8), (1, .int p0)]) hx hb dX8_reads_117 rfl hl (by decide) rfl (fun ls hl => ?_)
              refine W.eq (g2 := F0 m 118 ls []) rfl ?_
              refine lv_iload_n hx hb dX8_reads_118 rfl (lv_at hl 0 rfl) ?_
              have hP9 := h.2.1.sub [0, 1, 2, 3, 4] rfl
              have hD9 := h.2.2.1.sub (ws' := [(o8, .inr (8, [.ref a8_0, .ref a8_1, .ref a8_2, .ref a8_3, .ref a8_4, .ref a8_5, .int v8_6, .ref a8_7, .ref a8_8, .ref a8_9, .ref a8_10, .ref a8_11, .int v8_12, .ref a8_13, .ref a8_14, .ref a8_15, .ref a8_16, .ref a8_17, .ref a8_18, .ref a8_19, .ref a8_20, .ref a8_21, .ref a8_22, .ref a8_23, .ref a8_24, .int v8_25, .int v8_26, .ref a8_27, .ref a8_28, .ref a8_29, .ref a8_30, .ref a8_31, .int v8_32, .int v8_33, .int v8_34, .int v8_35, .ref a8_36, .ref a8_37, .int v8_38, .int v8_39, .int v8_40, .ref a8_41, .ref a8_42, .int v8_43])), (a8_7, .inl (c8_7, 120, .inl f8_7)), (a8_8, .inl (c8_8, 120, .inl f8_8)), (a8_9, .inl (c8_9, 120, .inl f8_9)), (a8_10, .inl (c8_10, 120, .inl f8_10))]) [0, 1, 2, 3, 4] (by decide) rfl
              exact W.iret (v := ((0 : Int32) ||| ((1 : Int32) <<< ((f8_10 p0.toNatClampNeg) &&& 31))) ||| ((1 : Int32) <<< ((8 + (f8_9 p0.toNatClampNeg)) &&& 31))) hx hb hr (fun t ht hW => ⟨⟨((0 : Int32) ||| ((1 : Int32) <<< ((f8_10 p0.toNatClampNeg) &&& 31))) ||| ((1 : Int32) <<< ((8 + (f8_9 p0.toNatClampNeg)) &&& 31)), (), rfl, trivial, (by rw [ht]; exact hP9), hD9⟩, h.2.2.2.1.F ht⟩) h.2.2.2.1.2.2 dX8_reads_119 hlocks
          · skip
            have i_31 : (f8_7 p0.toNatClampNeg).toInt = 7 := (fa_eq _ _).mp c_31
            refine lv_iload_n hx hb dX8_reads_87 rfl (lv_at hl 0 rfl) ?_
            refine lv_sipush (v := 1024) hx hb dX8_reads_88 (by decide) ?_
            refine lv_ior hx hb dX8_reads_91 ?_
            refine lv_istore_n (lv' := [(2, .int (((0 : Int32) ||| ((1 : Int32) <<< ((f8_10 p0.toNatClampNeg) &&& 31))) ||| (1024 : Int32))), (0, .ref o8), (1, .int p0)]) hx hb dX8_reads_92 rfl hl (by decide) rfl (fun ls hl => ?_)
            refine lv_aload_n hx hb dX8_reads_93 rfl (lv_at hl 1 rfl) ?_
            refine k_get (v := .ref a8_7) E h (fun w h => List.mem_cons_of_mem _ (List.mem_append_right _ h)) 0 rfl rfl 7 (by decide) (List.mem_of_getElem? (i := 1) rfl) rfl dX8_reads_94 ?_
            refine lv_iload_n hx hb dX8_reads_97 rfl (lv_at hl 2 rfl) ?_
            refine k_iald (v := f8_7 p0.toNatClampNeg) E h 1 0 rfl rfl (vp_in_iff.mpr (by omega)) rfl dX8_reads_98 ?_
            refine lv_bipush (v := 9) hx hb dX8_reads_99 (by decide) ?_
            refine lv_icmp_lt (tgt := 118) hx hb dX8_reads_101 (by decide) (fun c_33 => ?_) (fun c_33 => ?_)
            · skip
              have i_33 : (f8_7 p0.toNatClampNeg).toInt < 9 := (fa_lt _ _).mp c_33
              refine lv_iload_n hx hb dX8_reads_118 rfl (lv_at hl 0 rfl) ?_
              have hP9 := h.2.1.sub [0, 1, 2, 3, 4] rfl
              have hD9 := h.2.2.1.sub (ws' := [(o8, .inr (8, [.ref a8_0, .ref a8_1, .ref a8_2, .ref a8_3, .ref a8_4, .ref a8_5, .int v8_6, .ref a8_7, .ref a8_8, .ref a8_9, .ref a8_10, .ref a8_11, .int v8_12, .ref a8_13, .ref a8_14, .ref a8_15, .ref a8_16, .ref a8_17, .ref a8_18, .ref a8_19, .ref a8_20, .ref a8_21, .ref a8_22, .ref a8_23, .ref a8_24, .int v8_25, .int v8_26, .ref a8_27, .ref a8_28, .ref a8_29, .ref a8_30, .ref a8_31, .int v8_32, .int v8_33, .int v8_34, .int v8_35, .ref a8_36, .ref a8_37, .int v8_38, .int v8_39, .int v8_40, .ref a8_41, .ref a8_42, .int v8_43])), (a8_7, .inl (c8_7, 120, .inl f8_7)), (a8_8, .inl (c8_8, 120, .inl f8_8)), (a8_9, .inl (c8_9, 120, .inl f8_9)), (a8_10, .inl (c8_10, 120, .inl f8_10))]) [0, 1, 2, 3, 4] (by decide) rfl
              exact W.iret (v := ((0 : Int32) ||| ((1 : Int32) <<< ((f8_10 p0.toNatClampNeg) &&& 31))) ||| (1024 : Int32)) hx hb hr (fun t ht hW => ⟨⟨((0 : Int32) ||| ((1 : Int32) <<< ((f8_10 p0.toNatClampNeg) &&& 31))) ||| (1024 : Int32), (), rfl, trivial, (by rw [ht]; exact hP9), hD9⟩, h.2.2.2.1.F ht⟩) h.2.2.2.1.2.2 dX8_reads_119 hlocks
            · skip
              have i_33 : ¬ (f8_7 p0.toNatClampNeg).toInt < 9 := fun h9 => c_33 ((fa_lt _ _).mpr h9)
              refine lv_iload_n hx hb dX8_reads_104 rfl (lv_at hl 0 rfl) ?_
              refine lv_iconst (v := 1) hx hb dX8_reads_105 (by decide) ?_
              refine lv_bipush (v := 8) hx hb dX8_reads_106 (by decide) ?_
              refine lv_aload_n hx hb dX8_reads_108 rfl (lv_at hl 1 rfl) ?_
              refine k_get (v := .ref a8_9) E h (fun w h => List.mem_cons_of_mem _ (List.mem_append_right _ h)) 0 rfl rfl 9 (by decide) (List.mem_of_getElem? (i := 2) rfl) rfl dX8_reads_109 ?_
              refine lv_iload_n hx hb dX8_reads_112 rfl (lv_at hl 2 rfl) ?_
              refine k_iald (v := f8_9 p0.toNatClampNeg) E h 3 2 rfl rfl (vp_in_iff.mpr (by omega)) rfl dX8_reads_113 ?_
              refine lv_iadd hx hb dX8_reads_114 ?_
              refine lv_ishl hx hb dX8_reads_115 ?_
              refine lv_ior hx hb dX8_reads_116 ?_
              refine lv_istore_n (lv' := [(2, .int ((((0 : Int32) ||| ((1 : Int32) <<< ((f8_10 p0.toNatClampNeg) &&& 31))) ||| (1024 : Int32)) ||| ((1 : Int32) <<< ((8 + (f8_9 p0.toNatClampNeg)) &&& 31)))), (0, .ref o8), (1, .int p0)]) hx hb dX8_reads_117 rfl hl (by decide) rfl (fun ls hl => ?_)
              refine W.eq (g2 := F0 m 118 ls []) rfl ?_
              refine lv_iload_n hx hb dX8_reads_118 rfl (lv_at hl 0 rfl) ?_
              have hP9 := h.2.1.sub [0, 1, 2, 3, 4] rfl
              have hD9 := h.2.2.1.sub (ws' := [(o8, .inr (8, [.ref a8_0, .ref a8_1, .ref a8_2, .ref a8_3, .ref a8_4, .ref a8_5, .int v8_6, .ref a8_7, .ref a8_8, .ref a8_9, .ref a8_10, .ref a8_11, .int v8_12, .ref a8_13, .ref a8_14, .ref a8_15, .ref a8_16, .ref a8_17, .ref a8_18, .ref a8_19, .ref a8_20, .ref a8_21, .ref a8_22, .ref a8_23, .ref a8_24, .int v8_25, .int v8_26, .ref a8_27, .ref a8_28, .ref a8_29, .ref a8_30, .ref a8_31, .int v8_32, .int v8_33, .int v8_34, .int v8_35, .ref a8_36, .ref a8_37, .int v8_38, .int v8_39, .int v8_40, .ref a8_41, .ref a8_42, .int v8_43])), (a8_7, .inl (c8_7, 120, .inl f8_7)), (a8_8, .inl (c8_8, 120, .inl f8_8)), (a8_9, .inl (c8_9, 120, .inl f8_9)), (a8_10, .inl (c8_10, 120, .inl f8_10))]) [0, 1, 2, 3, 4] (by decide) rfl
              exact W.iret (v := (((0 : Int32) ||| ((1 : Int32) <<< ((f8_10 p0.toNatClampNeg) &&& 31))) ||| (1024 : Int32)) ||| ((1 : Int32) <<< ((8 + (f8_9 p0.toNatClampNeg)) &&& 31))) hx hb hr (fun t ht hW => ⟨⟨(((0 : Int32) ||| ((1 : Int32) <<< ((f8_10 p0.toNatClampNeg) &&& 31))) ||| (1024 : Int32)) ||| ((1 : Int32) <<< ((8 + (f8_9 p0.toNatClampNeg)) &&& 31)), (), rfl, trivial, (by rw [ht]; exact hP9), hD9⟩, h.2.2.2.1.F ht⟩) h.2.2.2.1.2.2 dX8_reads_119 hlocks
        · skip
          have i_30 : ¬ (f8_7 p0.toNatClampNeg).toInt ≤ 5 := fun h9 => c_30 ((fa_le _ _).mpr h9)
          refine lv_aload_n hx hb dX8_reads_54 rfl (lv_at hl 1 rfl) ?_
          refine k_get (v := .ref a8_7) E h (fun w h => List.mem_cons_of_mem _ (List.mem_append_right _ h)) 0 rfl rfl 7 (by decide) (List.mem_of_getElem? (i := 1) rfl) rfl dX8_reads_55 ?_
          refine lv_iload_n hx hb dX8_reads_58 rfl (lv_at hl 2 rfl) ?_
          refine k_iald (v := f8_7 p0.toNatClampNeg) E h 1 0 rfl rfl (vp_in_iff.mpr (by omega)) rfl dX8_reads_59 ?_
          refine lv_bipush (v := 8) hx hb dX8_reads_60 (by decide) ?_
          refine lv_icmp_ne (tgt := 76) hx hb dX8_reads_62 (by decide) (fun c_34 => ?_) (fun c_34 => ?_)
          · skip
            have i_34 : ¬ (f8_7 p0.toNatClampNeg).toInt = 8 := fun h9 => c_34 ((fa_eq _ _).mpr h9)
            refine lv_aload_n hx hb dX8_reads_76 rfl (lv_at hl 1 rfl) ?_
            refine k_get (v := .ref a8_7) E h (fun w h => List.mem_cons_of_mem _ (List.mem_append_right _ h)) 0 rfl rfl 7 (by decide) (List.mem_of_getElem? (i := 1) rfl) rfl dX8_reads_77 ?_
            refine lv_iload_n hx hb dX8_reads_80 rfl (lv_at hl 2 rfl) ?_
            refine k_iald (v := f8_7 p0.toNatClampNeg) E h 1 0 rfl rfl (vp_in_iff.mpr (by omega)) rfl dX8_reads_81 ?_
            refine lv_bipush (v := 7) hx hb dX8_reads_82 (by decide) ?_
            refine lv_icmp_ne (tgt := 93) hx hb dX8_reads_84 (by decide) (fun c_35 => ?_) (fun c_35 => ?_)
            · skip
              have i_35 : ¬ (f8_7 p0.toNatClampNeg).toInt = 7 := fun h9 => c_35 ((fa_eq _ _).mpr h9)
              refine lv_aload_n hx hb dX8_reads_93 rfl (lv_at hl 1 rfl) ?_
              refine k_get (v := .ref a8_7) E h (fun w h => List.mem_cons_of_mem _ (List.mem_append_right _ h)) 0 rfl rfl 7 (by decide) (List.mem_of_getElem? (i := 1) rfl) rfl dX8_reads_94 ?_
              refine lv_iload_n hx hb dX8_reads_97 rfl (lv_at hl 2 rfl) ?_
              refine k_iald (v := f8_7 p0.toNatClampNeg) E h 1 0 rfl rfl (vp_in_iff.mpr (by omega)) rfl dX8_reads_98 ?_
              refine lv_bipush (v := 9) hx hb dX8_reads_99 (by decide) ?_
              refine lv_icmp_lt (tgt := 118) hx hb dX8_reads_101 (by decide) (fun c_36 => ?_) (fun c_36 => ?_)
              · skip
                have i_36 : (f8_7 p0.toNatClampNeg).toInt < 9 := (fa_lt _ _).mp c_36
                refine lv_iload_n hx hb dX8_reads_118 rfl (lv_at hl 0 rfl) ?_
                have hP9 := h.2.1.sub [0, 1, 2, 3, 4] rfl
                have hD9 := h.2.2.1.sub (ws' := [(o8, .inr (8, [.ref a8_0, .ref a8_1, .ref a8_2, .ref a8_3, .ref a8_4, .ref a8_5, .int v8_6, .ref a8_7, .ref a8_8, .ref a8_9, .ref a8_10, .ref a8_11, .int v8_12, .ref a8_13, .ref a8_14, .ref a8_15, .ref a8_16, .ref a8_17, .ref a8_18, .ref a8_19, .ref a8_20, .ref a8_21, .ref a8_22, .ref a8_23, .ref a8_24, .int v8_25, .int v8_26, .ref a8_27, .ref a8_28, .ref a8_29, .ref a8_30, .ref a8_31, .int v8_32, .int v8_33, .int v8_34, .int v8_35, .ref a8_36, .ref a8_37, .int v8_38, .int v8_39, .int v8_40, .ref a8_41, .ref a8_42, .int v8_43])), (a8_7, .inl (c8_7, 120, .inl f8_7)), (a8_8, .inl (c8_8, 120, .inl f8_8)), (a8_9, .inl (c8_9, 120, .inl f8_9)), (a8_10, .inl (c8_10, 120, .inl f8_10))]) [0, 1, 2, 3, 4] (by decide) rfl
                exact W.iret (v := 0) hx hb hr (fun t ht hW => ⟨⟨0, (), rfl, trivial, (by rw [ht]; exact hP9), hD9⟩, h.2.2.2.1.F ht⟩) h.2.2.2.1.2.2 dX8_reads_119 hlocks
              · skip
                have i_36 : ¬ (f8_7 p0.toNatClampNeg).toInt < 9 := fun h9 => c_36 ((fa_lt _ _).mpr h9)
                refine lv_iload_n hx hb dX8_reads_104 rfl (lv_at hl 0 rfl) ?_
                refine lv_iconst (v := 1) hx hb dX8_reads_105 (by decide) ?_
                refine lv_bipush (v := 8) hx hb dX8_reads_106 (by decide) ?_
                refine lv_aload_n hx hb dX8_reads_108 rfl (lv_at hl 1 rfl) ?_
                refine k_get (v := .ref a8_9) E h (fun w h => List.mem_cons_of_mem _ (List.mem_append_right _ h)) 0 rfl rfl 9 (by decide) (List.mem_of_getElem? (i := 2) rfl) rfl dX8_reads_109 ?_
                refine lv_iload_n hx hb dX8_reads_112 rfl (lv_at hl 2 rfl) ?_
                refine k_iald (v := f8_9 p0.toNatClampNeg) E h 3 2 rfl rfl (vp_in_iff.mpr (by omega)) rfl dX8_reads_113 ?_
                refine lv_iadd hx hb dX8_reads_114 ?_
                refine lv_ishl hx hb dX8_reads_115 ?_
                refine lv_ior hx hb dX8_reads_116 ?_
                refine lv_istore_n (lv' := [(2, .int ((0 : Int32) ||| ((1 : Int32) <<< ((8 + (f8_9 p0.toNatClampNeg)) &&& 31)))), (0, .ref o8), (1, .int p0)]) hx hb dX8_reads_117 rfl hl (by decide) rfl (fun ls hl => ?_)
                refine W.eq (g2 := F0 m 118 ls []) rfl ?_
                refine lv_iload_n hx hb dX8_reads_118 rfl (lv_at hl 0 rfl) ?_
                have hP9 := h.2.1.sub [0, 1, 2, 3, 4] rfl
                have hD9 := h.2.2.1.sub (ws' := [(o8, .inr (8, [.ref a8_0, .ref a8_1, .ref a8_2, .ref a8_3, .ref a8_4, .ref a8_5, .int v8_6, .ref a8_7, .ref a8_8, .ref a8_9, .ref a8_10, .ref a8_11, .int v8_12, .ref a8_13, .ref a8_14, .ref a8_15, .ref a8_16, .ref a8_17, .ref a8_18, .ref a8_19, .ref a8_20, .ref a8_21, .ref a8_22, .ref a8_23, .ref a8_24, .int v8_25, .int v8_26, .ref a8_27, .ref a8_28, .ref a8_29, .ref a8_30, .ref a8_31, .int v8_32, .int v8_33, .int v8_34, .int v8_35, .ref a8_36, .ref a8_37, .int v8_38, .int v8_39, .int v8_40, .ref a8_41, .ref a8_42, .int v8_43])), (a8_7, .inl (c8_7, 120, .inl f8_7)), (a8_8, .inl (c8_8, 120, .inl f8_8)), (a8_9, .inl (c8_9, 120, .inl f8_9)), (a8_10, .inl (c8_10, 120, .inl f8_10))]) [0, 1, 2, 3, 4] (by decide) rfl
                exact W.iret (v := (0 : Int32) ||| ((1 : Int32) <<< ((8 + (f8_9 p0.toNatClampNeg)) &&& 31))) hx hb hr (fun t ht hW => ⟨⟨(0 : Int32) ||| ((1 : Int32) <<< ((8 + (f8_9 p0.toNatClampNeg)) &&& 31)), (), rfl, trivial, (by rw [ht]; exact hP9), hD9⟩, h.2.2.2.1.F ht⟩) h.2.2.2.1.2.2 dX8_reads_119 hlocks
            · skip
              have i_35 : (f8_7 p0.toNatClampNeg).toInt = 7 := (fa_eq _ _).mp c_35
              refine lv_iload_n hx hb dX8_reads_87 rfl (lv_at hl 0 rfl) ?_
              refine lv_sipush (v := 1024) hx hb dX8_reads_88 (by decide) ?_
              refine lv_ior hx hb dX8_reads_91 ?_
              refine k_topi (y := 1024) (by decide) ?_
              refine lv_istore_n (lv' := [(2, .int 1024), (0, .ref o8), (1, .int p0)]) hx hb dX8_reads_92 rfl hl (by decide) rfl (fun ls hl => ?_)
              refine lv_aload_n hx hb dX8_reads_93 rfl (lv_at hl 1 rfl) ?_
              refine k_get (v := .ref a8_7) E h (fun w h => List.mem_cons_of_mem _ (List.mem_append_right _ h)) 0 rfl rfl 7 (by decide) (List.mem_of_getElem? (i := 1) rfl) rfl dX8_reads_94 ?_
              refine lv_iload_n hx hb dX8_reads_97 rfl (lv_at hl 2 rfl) ?_
              refine k_iald (v := f8_7 p0.toNatClampNeg) E h 1 0 rfl rfl (vp_in_iff.mpr (by omega)) rfl dX8_reads_98 ?_
              refine lv_bipush (v := 9) hx hb dX8_reads_99 (by decide) ?_
              refine lv_icmp_lt (tgt := 118) hx hb dX8_reads_101 (by decide) (fun c_37 => ?_) (fun c_37 => ?_)
              · skip
                have i_37 : (f8_7 p0.toNatClampNeg).toInt < 9 := (fa_lt _ _).mp c_37
                refine lv_iload_n hx hb dX8_reads_118 rfl (lv_at hl 0 rfl) ?_
                have hP9 := h.2.1.sub [0, 1, 2, 3, 4] rfl
                have hD9 := h.2.2.1.sub (ws' := [(o8, .inr (8, [.ref a8_0, .ref a8_1, .ref a8_2, .ref a8_3, .ref a8_4, .ref a8_5, .int v8_6, .ref a8_7, .ref a8_8, .ref a8_9, .ref a8_10, .ref a8_11, .int v8_12, .ref a8_13, .ref a8_14, .ref a8_15, .ref a8_16, .ref a8_17, .ref a8_18, .ref a8_19, .ref a8_20, .ref a8_21, .ref a8_22, .ref a8_23, .ref a8_24, .int v8_25, .int v8_26, .ref a8_27, .ref a8_28, .ref a8_29, .ref a8_30, .ref a8_31, .int v8_32, .int v8_33, .int v8_34, .int v8_35, .ref a8_36, .ref a8_37, .int v8_38, .int v8_39, .int v8_40, .ref a8_41, .ref a8_42, .int v8_43])), (a8_7, .inl (c8_7, 120, .inl f8_7)), (a8_8, .inl (c8_8, 120, .inl f8_8)), (a8_9, .inl (c8_9, 120, .inl f8_9)), (a8_10, .inl (c8_10, 120, .inl f8_10))]) [0, 1, 2, 3, 4] (by decide) rfl
                exact W.iret (v := 1024) hx hb hr (fun t ht hW => ⟨⟨1024, (), rfl, trivial, (by rw [ht]; exact hP9), hD9⟩, h.2.2.2.1.F ht⟩) h.2.2.2.1.2.2 dX8_reads_119 hlocks
              · skip
                have i_37 : ¬ (f8_7 p0.toNatClampNeg).toInt < 9 := fun h9 => c_37 ((fa_lt _ _).mpr h9)
                refine lv_iload_n hx hb dX8_reads_104 rfl (lv_at hl 0 rfl) ?_
                refine lv_iconst (v := 1) hx hb dX8_reads_105 (by decide) ?_
                refine lv_bipush (v := 8) hx hb dX8_reads_106 (by decide) ?_
                refine lv_aload_n hx hb dX8_reads_108 rfl (lv_at hl 1 rfl) ?_
                refine k_get (v := .ref a8_9) E h (fun w h => List.mem_cons_of_mem _ (List.mem_append_right _ h)) 0 rfl rfl 9 (by decide) (List.mem_of_getElem? (i := 2) rfl) rfl dX8_reads_109 ?_
                refine lv_iload_n hx hb dX8_reads_112 rfl (lv_at hl 2 rfl) ?_
                refine k_iald (v := f8_9 p0.toNatClampNeg) E h 3 2 rfl rfl (vp_in_iff.mpr (by omega)) rfl dX8_reads_113 ?_
                refine lv_iadd hx hb dX8_reads_114 ?_
                refine lv_ishl hx hb dX8_reads_115 ?_
                refine lv_ior hx hb dX8_reads_116 ?_
                refine lv_istore_n (lv' := [(2, .int ((1024 : Int32) ||| ((1 : Int32) <<< ((8 + (f8_9 p0.toNatClampNeg)) &&& 31)))), (0, .ref o8), (1, .int p0)]) hx hb dX8_reads_117 rfl hl (by decide) rfl (fun ls hl => ?_)
                refine W.eq (g2 := F0 m 118 ls []) rfl ?_
                refine lv_iload_n hx hb dX8_reads_118 rfl (lv_at hl 0 rfl) ?_
                have hP9 := h.2.1.sub [0, 1, 2, 3, 4] rfl
                have hD9 := h.2.2.1.sub (ws' := [(o8, .inr (8, [.ref a8_0, .ref a8_1, .ref a8_2, .ref a8_3, .ref a8_4, .ref a8_5, .int v8_6, .ref a8_7, .ref a8_8, .ref a8_9, .ref a8_10, .ref a8_11, .int v8_12, .ref a8_13, .ref a8_14, .ref a8_15, .ref a8_16, .ref a8_17, .ref a8_18, .ref a8_19, .ref a8_20, .ref a8_21, .ref a8_22, .ref a8_23, .ref a8_24, .int v8_25, .int v8_26, .ref a8_27, .ref a8_28, .ref a8_29, .ref a8_30, .ref a8_31, .int v8_32, .int v8_33, .int v8_34, .int v8_35, .ref a8_36, .ref a8_37, .int v8_38, .int v8_39, .int v8_40, .ref a8_41, .ref a8_42, .int v8_43])), (a8_7, .inl (c8_7, 120, .inl f8_7)), (a8_8, .inl (c8_8, 120, .inl f8_8)), (a8_9, .inl (c8_9, 120, .inl f8_9)), (a8_10, .inl (c8_10, 120, .inl f8_10))]) [0, 1, 2, 3, 4] (by decide) rfl
                exact W.iret (v := (1024 : Int32) ||| ((1 : Int32) <<< ((8 + (f8_9 p0.toNatClampNeg)) &&& 31))) hx hb hr (fun t ht hW => ⟨⟨(1024 : Int32) ||| ((1 : Int32) <<< ((8 + (f8_9 p0.toNatClampNeg)) &&& 31)), (), rfl, trivial, (by rw [ht]; exact hP9), hD9⟩, h.2.2.2.1.F ht⟩) h.2.2.2.1.2.2 dX8_reads_119 hlocks
          · skip
            have i_34 : (f8_7 p0.toNatClampNeg).toInt = 8 := (fa_eq _ _).mp c_34
            refine lv_iload_n hx hb dX8_reads_65 rfl (lv_at hl 0 rfl) ?_
            refine lv_iconst (v := 1) hx hb dX8_reads_66 (by decide) ?_
            refine lv_aload_n hx hb dX8_reads_67 rfl (lv_at hl 1 rfl) ?_
            refine k_get (v := .ref a8_10) E h (fun w h => List.mem_cons_of_mem _ (List.mem_append_right _ h)) 0 rfl rfl 10 (by decide) (List.mem_of_getElem? (i := 3) rfl) rfl dX8_reads_68 ?_
            refine lv_iload_n hx hb dX8_reads_71 rfl (lv_at hl 2 rfl) ?_
            refine k_iald (v := f8_10 p0.toNatClampNeg) E h 4 3 rfl rfl (vp_in_iff.mpr (by omega)) rfl dX8_reads_72 ?_
            refine lv_ishl hx hb dX8_reads_73 ?_
            refine lv_ior hx hb dX8_reads_74 ?_
            refine lv_istore_n (lv' := [(2, .int ((0 : Int32) ||| ((1 : Int32) <<< ((f8_10 p0.toNatClampNeg) &&& 31)))), (0, .ref o8), (1, .int p0)]) hx hb dX8_reads_75 rfl hl (by decide) rfl (fun ls hl => ?_)
            refine lv_aload_n hx hb dX8_reads_76 rfl (lv_at hl 1 rfl) ?_
            refine k_get (v := .ref a8_7) E h (fun w h => List.mem_cons_of_mem _ (List.mem_append_right _ h)) 0 rfl rfl 7 (by decide) (List.mem_of_getElem? (i := 1) rfl) rfl dX8_reads_77 ?_
            refine W.eq (g2 := F0 m 80 ls [.ref a8_7]) rfl ?_
            refine lv_iload_n hx hb dX8_reads_80 rfl (lv_at hl 2 rfl) ?_
            refine k_iald (v := f8_7 p0.toNatClampNeg) E h 1 0 rfl rfl (vp_in_iff.mpr (by omega)) rfl dX8_reads_81 ?_
            refine lv_bipush (v := 7) hx hb dX8_reads_82 (by decide) ?_
            refine lv_icmp_ne (tgt := 93) hx hb dX8_reads_84 (by decide) (fun c_38 => ?_) (fun c_38 => ?_)
            · skip
              have i_38 : ¬ (f8_7 p0.toNatClampNeg).toInt = 7 := fun h9 => c_38 ((fa_eq _ _).mpr h9)
              refine lv_aload_n hx hb dX8_reads_93 rfl (lv_at hl 1 rfl) ?_
              refine k_get (v := .ref a8_7) E h (fun w h => List.mem_cons_of_mem _ (List.mem_append_right _ h)) 0 rfl rfl 7 (by decide) (List.mem_of_getElem? (i := 1) rfl) rfl dX8_reads_94 ?_
              refine lv_iload_n hx hb dX8_reads_97 rfl (lv_at hl 2 rfl) ?_
              refine k_iald (v := f8_7 p0.toNatClampNeg) E h 1 0 rfl rfl (vp_in_iff.mpr (by omega)) rfl dX8_reads_98 ?_
              refine lv_bipush (v := 9) hx hb dX8_reads_99 (by decide) ?_
              refine lv_icmp_lt (tgt := 118) hx hb dX8_reads_101 (by decide) (fun c_39 => ?_) (fun c_39 => ?_)
              · skip
                have i_39 : (f8_7 p0.toNatClampNeg).toInt < 9 := (fa_lt _ _).mp c_39
                refine lv_iload_n hx hb dX8_reads_118 rfl (lv_at hl 0 rfl) ?_
                have hP9 := h.2.1.sub [0, 1, 2, 3, 4] rfl
                have hD9 := h.2.2.1.sub (ws' := [(o8, .inr (8, [.ref a8_0, .ref a8_1, .ref a8_2, .ref a8_3, .ref a8_4, .ref a8_5, .int v8_6, .ref a8_7, .ref a8_8, .ref a8_9, .ref a8_10, .ref a8_11, .int v8_12, .ref a8_13, .ref a8_14, .ref a8_15, .ref a8_16, .ref a8_17, .ref a8_18, .ref a8_19, .ref a8_20, .ref a8_21, .ref a8_22, .ref a8_23, .ref a8_24, .int v8_25, .int v8_26, .ref a8_27, .ref a8_28, .ref a8_29, .ref a8_30, .ref a8_31, .int v8_32, .int v8_33, .int v8_34, .int v8_35, .ref a8_36, .ref a8_37, .int v8_38, .int v8_39, .int v8_40, .ref a8_41, .ref a8_42, .int v8_43])), (a8_7, .inl (c8_7, 120, .inl f8_7)), (a8_8, .inl (c8_8, 120, .inl f8_8)), (a8_9, .inl (c8_9, 120, .inl f8_9)), (a8_10, .inl (c8_10, 120, .inl f8_10))]) [0, 1, 2, 3, 4] (by decide) rfl
                exact W.iret (v := (0 : Int32) ||| ((1 : Int32) <<< ((f8_10 p0.toNatClampNeg) &&& 31))) hx hb hr (fun t ht hW => ⟨⟨(0 : Int32) ||| ((1 : Int32) <<< ((f8_10 p0.toNatClampNeg) &&& 31)), (), rfl, trivial, (by rw [ht]; exact hP9), hD9⟩, h.2.2.2.1.F ht⟩) h.2.2.2.1.2.2 dX8_reads_119 hlocks
              · skip
                have i_39 : ¬ (f8_7 p0.toNatClampNeg).toInt < 9 := fun h9 => c_39 ((fa_lt _ _).mpr h9)
                refine lv_iload_n hx hb dX8_reads_104 rfl (lv_at hl 0 rfl) ?_
                refine lv_iconst (v := 1) hx hb dX8_reads_105 (by decide) ?_
                refine lv_bipush (v := 8) hx hb dX8_reads_106 (by decide) ?_
                refine lv_aload_n hx hb dX8_reads_108 rfl (lv_at hl 1 rfl) ?_
                refine k_get (v := .ref a8_9) E h (fun w h => List.mem_cons_of_mem _ (List.mem_append_right _ h)) 0 rfl rfl 9 (by decide) (List.mem_of_getElem? (i := 2) rfl) rfl dX8_reads_109 ?_
                refine lv_iload_n hx hb dX8_reads_112 rfl (lv_at hl 2 rfl) ?_
                refine k_iald (v := f8_9 p0.toNatClampNeg) E h 3 2 rfl rfl (vp_in_iff.mpr (by omega)) rfl dX8_reads_113 ?_
                refine lv_iadd hx hb dX8_reads_114 ?_
                refine lv_ishl hx hb dX8_reads_115 ?_
                refine lv_ior hx hb dX8_reads_116 ?_
                refine lv_istore_n (lv' := [(2, .int (((0 : Int32) ||| ((1 : Int32) <<< ((f8_10 p0.toNatClampNeg) &&& 31))) ||| ((1 : Int32) <<< ((8 + (f8_9 p0.toNatClampNeg)) &&& 31)))), (0, .ref o8), (1, .int p0)]) hx hb dX8_reads_117 rfl hl (by decide) rfl (fun ls hl => ?_)
                refine W.eq (g2 := F0 m 118 ls []) rfl ?_
                refine lv_iload_n hx hb dX8_reads_118 rfl (lv_at hl 0 rfl) ?_
                have hP9 := h.2.1.sub [0, 1, 2, 3, 4] rfl
                have hD9 := h.2.2.1.sub (ws' := [(o8, .inr (8, [.ref a8_0, .ref a8_1, .ref a8_2, .ref a8_3, .ref a8_4, .ref a8_5, .int v8_6, .ref a8_7, .ref a8_8, .ref a8_9, .ref a8_10, .ref a8_11, .int v8_12, .ref a8_13, .ref a8_14, .ref a8_15, .ref a8_16, .ref a8_17, .ref a8_18, .ref a8_19, .ref a8_20, .ref a8_21, .ref a8_22, .ref a8_23, .ref a8_24, .int v8_25, .int v8_26, .ref a8_27, .ref a8_28, .ref a8_29, .ref a8_30, .ref a8_31, .int v8_32, .int v8_33, .int v8_34, .int v8_35, .ref a8_36, .ref a8_37, .int v8_38, .int v8_39, .int v8_40, .ref a8_41, .ref a8_42, .int v8_43])), (a8_7, .inl (c8_7, 120, .inl f8_7)), (a8_8, .inl (c8_8, 120, .inl f8_8)), (a8_9, .inl (c8_9, 120, .inl f8_9)), (a8_10, .inl (c8_10, 120, .inl f8_10))]) [0, 1, 2, 3, 4] (by decide) rfl
                exact W.iret (v := ((0 : Int32) ||| ((1 : Int32) <<< ((f8_10 p0.toNatClampNeg) &&& 31))) ||| ((1 : Int32) <<< ((8 + (f8_9 p0.toNatClampNeg)) &&& 31))) hx hb hr (fun t ht hW => ⟨⟨((0 : Int32) ||| ((1 : Int32) <<< ((f8_10 p0.toNatClampNeg) &&& 31))) ||| ((1 : Int32) <<< ((8 + (f8_9 p0.toNatClampNeg)) &&& 31)), (), rfl, trivial, (by rw [ht]; exact hP9), hD9⟩, h.2.2.2.1.F ht⟩) h.2.2.2.1.2.2 dX8_reads_119 hlocks
            · skip
              have i_38 : (f8_7 p0.toNatClampNeg).toInt = 7 := (fa_eq _ _).mp c_38
              refine lv_iload_n hx hb dX8_reads_87 rfl (lv_at hl 0 rfl) ?_
              refine lv_sipush (v := 1024) hx hb dX8_reads_88 (by decide) ?_
              refine lv_ior hx hb dX8_reads_91 ?_
              refine lv_istore_n (lv' := [(2, .int (((0 : Int32) ||| ((1 : Int32) <<< ((f8_10 p0.toNatClampNeg) &&& 31))) ||| (1024 : Int32))), (0, .ref o8), (1, .int p0)]) hx hb dX8_reads_92 rfl hl (by decide) rfl (fun ls hl => ?_)
              refine lv_aload_n hx hb dX8_reads_93 rfl (lv_at hl 1 rfl) ?_
              refine k_get (v := .ref a8_7) E h (fun w h => List.mem_cons_of_mem _ (List.mem_append_right _ h)) 0 rfl rfl 7 (by decide) (List.mem_of_getElem? (i := 1) rfl) rfl dX8_reads_94 ?_
              refine lv_iload_n hx hb dX8_reads_97 rfl (lv_at hl 2 rfl) ?_
              refine k_iald (v := f8_7 p0.toNatClampNeg) E h 1 0 rfl rfl (vp_in_iff.mpr (by omega)) rfl dX8_reads_98 ?_
              refine lv_bipush (v := 9) hx hb dX8_reads_99 (by decide) ?_
              refine lv_icmp_lt (tgt := 118) hx hb dX8_reads_101 (by decide) (fun c_40 => ?_) (fun c_40 => ?_)
              · skip
                have i_40 : (f8_7 p0.toNatClampNeg).toInt < 9 := (fa_lt _ _).mp c_40
                refine lv_iload_n hx hb dX8_reads_118 rfl (lv_at hl 0 rfl) ?_
                have hP9 := h.2.1.sub [0, 1, 2, 3, 4] rfl
                have hD9 := h.2.2.1.sub (ws' := [(o8, .inr (8, [.ref a8_0, .ref a8_1, .ref a8_2, .ref a8_3, .ref a8_4, .ref a8_5, .int v8_6, .ref a8_7, .ref a8_8, .ref a8_9, .ref a8_10, .ref a8_11, .int v8_12, .ref a8_13, .ref a8_14, .ref a8_15, .ref a8_16, .ref a8_17, .ref a8_18, .ref a8_19, .ref a8_20, .ref a8_21, .ref a8_22, .ref a8_23, .ref a8_24, .int v8_25, .int v8_26, .ref a8_27, .ref a8_28, .ref a8_29, .ref a8_30, .ref a8_31, .int v8_32, .int v8_33, .int v8_34, .int v8_35, .ref a8_36, .ref a8_37, .int v8_38, .int v8_39, .int v8_40, .ref a8_41, .ref a8_42, .int v8_43])), (a8_7, .inl (c8_7, 120, .inl f8_7)), (a8_8, .inl (c8_8, 120, .inl f8_8)), (a8_9, .inl (c8_9, 120, .inl f8_9)), (a8_10, .inl (c8_10, 120, .inl f8_10))]) [0, 1, 2, 3, 4] (by decide) rfl
                exact W.iret (v := ((0 : Int32) ||| ((1 : Int32) <<< ((f8_10 p0.toNatClampNeg) &&& 31))) ||| (1024 : Int32)) hx hb hr (fun t ht hW => ⟨⟨((0 : Int32) ||| ((1 : Int32) <<< ((f8_10 p0.toNatClampNeg) &&& 31))) ||| (1024 : Int32), (), rfl, trivial, (by rw [ht]; exact hP9), hD9⟩, h.2.2.2.1.F ht⟩) h.2.2.2.1.2.2 dX8_reads_119 hlocks
              · skip
                have i_40 : ¬ (f8_7 p0.toNatClampNeg).toInt < 9 := fun h9 => c_40 ((fa_lt _ _).mpr h9)
                refine lv_iload_n hx hb dX8_reads_104 rfl (lv_at hl 0 rfl) ?_
                refine lv_iconst (v := 1) hx hb dX8_reads_105 (by decide) ?_
                refine lv_bipush (v := 8) hx hb dX8_reads_106 (by decide) ?_
                refine lv_aload_n hx hb dX8_reads_108 rfl (lv_at hl 1 rfl) ?_
                refine k_get (v := .ref a8_9) E h (fun w h => List.mem_cons_of_mem _ (List.mem_append_right _ h)) 0 rfl rfl 9 (by decide) (List.mem_of_getElem? (i := 2) rfl) rfl dX8_reads_109 ?_
                refine lv_iload_n hx hb dX8_reads_112 rfl (lv_at hl 2 rfl) ?_
                refine k_iald (v := f8_9 p0.toNatClampNeg) E h 3 2 rfl rfl (vp_in_iff.mpr (by omega)) rfl dX8_reads_113 ?_
                refine lv_iadd hx hb dX8_reads_114 ?_
                refine lv_ishl hx hb dX8_reads_115 ?_
                refine lv_ior hx hb dX8_reads_116 ?_
                refine lv_istore_n (lv' := [(2, .int ((((0 : Int32) ||| ((1 : Int32) <<< ((f8_10 p0.toNatClampNeg) &&& 31))) ||| (1024 : Int32)) ||| ((1 : Int32) <<< ((8 + (f8_9 p0.toNatClampNeg)) &&& 31)))), (0, .ref o8), (1, .int p0)]) hx hb dX8_reads_117 rfl hl (by decide) rfl (fun ls hl => ?_)
                refine W.eq (g2 := F0 m 118 ls []) rfl ?_
                refine lv_iload_n hx hb dX8_reads_118 rfl (lv_at hl 0 rfl) ?_
                have hP9 := h.2.1.sub [0, 1, 2, 3, 4] rfl
                have hD9 := h.2.2.1.sub (ws' := [(o8, .inr (8, [.ref a8_0, .ref a8_1, .ref a8_2, .ref a8_3, .ref a8_4, .ref a8_5, .int v8_6, .ref a8_7, .ref a8_8, .ref a8_9, .ref a8_10, .ref a8_11, .int v8_12, .ref a8_13, .ref a8_14, .ref a8_15, .ref a8_16, .ref a8_17, .ref a8_18, .ref a8_19, .ref a8_20, .ref a8_21, .ref a8_22, .ref a8_23, .ref a8_24, .int v8_25, .int v8_26, .ref a8_27, .ref a8_28, .ref a8_29, .ref a8_30, .ref a8_31, .int v8_32, .int v8_33, .int v8_34, .int v8_35, .ref a8_36, .ref a8_37, .int v8_38, .int v8_39, .int v8_40, .ref a8_41, .ref a8_42, .int v8_43])), (a8_7, .inl (c8_7, 120, .inl f8_7)), (a8_8, .inl (c8_8, 120, .inl f8_8)), (a8_9, .inl (c8_9, 120, .inl f8_9)), (a8_10, .inl (c8_10, 120, .inl f8_10))]) [0, 1, 2, 3, 4] (by decide) rfl
                exact W.iret (v := (((0 : Int32) ||| ((1 : Int32) <<< ((f8_10 p0.toNatClampNeg) &&& 31))) ||| (1024 : Int32)) ||| ((1 : Int32) <<< ((8 + (f8_9 p0.toNatClampNeg)) &&& 31))) hx hb hr (fun t ht hW => ⟨⟨(((0 : Int32) ||| ((1 : Int32) <<< ((f8_10 p0.toNatClampNeg) &&& 31))) ||| (1024 : Int32)) ||| ((1 : Int32) <<< ((8 + (f8_9 p0.toNatClampNeg)) &&& 31)), (), rfl, trivial, (by rw [ht]; exact hP9), hD9⟩, h.2.2.2.1.F ht⟩) h.2.2.2.1.2.2 dX8_reads_119 hlocks
    · skip
      have i_21 : ¬ 8 < (f8_7 p0.toNatClampNeg).toInt := fun h9 => c_21 ((fa_lt _ _).mpr h9)
      refine lv_iload_n hx hb dX8_reads_23 rfl (lv_at hl 0 rfl) ?_
      refine lv_iconst (v := 1) hx hb dX8_reads_24 (by decide) ?_
      refine lv_aload_n hx hb dX8_reads_25 rfl (lv_at hl 1 rfl) ?_
      refine k_get (v := .ref a8_9) E h (fun w h => List.mem_cons_of_mem _ (List.mem_append_right _ h)) 0 rfl rfl 9 (by decide) (List.mem_of_getElem? (i := 2) rfl) rfl dX8_reads_26 ?_
      refine lv_iload_n hx hb dX8_reads_29 rfl (lv_at hl 2 rfl) ?_
      refine k_iald (v := f8_9 p0.toNatClampNeg) E h 3 2 rfl rfl (vp_in_iff.mpr (by omega)) rfl dX8_reads_30 ?_
      refine lv_ishl hx hb dX8_reads_31 ?_
      refine lv_ior hx hb dX8_reads_32 ?_
      refine lv_istore_n (lv' := [(2, .int ((0 : Int32) ||| ((1 : Int32) <<< ((f8_9 p0.toNatClampNeg) &&& 31)))), (0, .ref o8), (1, .int p0)]) hx hb dX8_reads_33 rfl hl (by decide) rfl (fun ls hl => ?_)
      refine lv_aload_n hx hb dX8_reads_34 rfl (lv_at hl 1 rfl) ?_
      refine k_get (v := .ref a8_7) E h (fun w h => List.mem_cons_of_mem _ (List.mem_append_right _ h)) 0 rfl rfl 7 (by decide) (List.mem_of_getElem? (i := 1) rfl) rfl dX8_reads_35 ?_
      refine W.eq (g2 := F0 m 38 ls [.ref a8_7]) rfl ?_
      refine lv_iload_n hx hb dX8_reads_38 rfl (lv_at hl 2 rfl) ?_
      refine k_iald (v := f8_7 p0.toNatClampNeg) E h 1 0 rfl rfl (vp_in_iff.mpr (by omega)) rfl dX8_reads_39 ?_
      refine lv_iconst (v := 2) hx hb dX8_reads_40 (by decide) ?_
      refine lv_icmp_lt (tgt := 54) hx hb dX8_reads_41 (by decide) (fun c_41 => ?_) (fun c_41 => ?_)
      · skip
        have i_41 : (f8_7 p0.toNatClampNeg).toInt < 2 := (fa_lt _ _).mp c_41
        refine lv_aload_n hx hb dX8_reads_54 rfl (lv_at hl 1 rfl) ?_
        refine k_get (v := .ref a8_7) E h (fun w h => List.mem_cons_of_mem _ (List.mem_append_right _ h)) 0 rfl rfl 7 (by decide) (List.mem_of_getElem? (i := 1) rfl) rfl dX8_reads_55 ?_
        refine lv_iload_n hx hb dX8_reads_58 rfl (lv_at hl 2 rfl) ?_
        refine k_iald (v := f8_7 p0.toNatClampNeg) E h 1 0 rfl rfl (vp_in_iff.mpr (by omega)) rfl dX8_reads_59 ?_
        refine lv_bipush (v := 8) hx hb dX8_reads_60 (by decide) ?_
        refine lv_icmp_ne (tgt := 76) hx hb dX8_reads_62 (by decide) (fun c_42 => ?_) (fun c_42 => ?_)
        · skip
          have i_42 : ¬ (f8_7 p0.toNatClampNeg).toInt = 8 := fun h9 => c_42 ((fa_eq _ _).mpr h9)
          refine lv_aload_n hx hb dX8_reads_76 rfl (lv_at hl 1 rfl) ?_
          refine k_get (v := .ref a8_7) E h (fun w h => List.mem_cons_of_mem _ (List.mem_append_right _ h)) 0 rfl rfl 7 (by decide) (List.mem_of_getElem? (i := 1) rfl) rfl dX8_reads_77 ?_
          refine lv_iload_n hx hb dX8_reads_80 rfl (lv_at hl 2 rfl) ?_
          refine k_iald (v := f8_7 p0.toNatClampNeg) E h 1 0 rfl rfl (vp_in_iff.mpr (by omega)) rfl dX8_reads_81 ?_
          refine lv_bipush (v := 7) hx hb dX8_reads_82 (by decide) ?_
          refine lv_icmp_ne (tgt := 93) hx hb dX8_reads_84 (by decide) (fun c_43 => ?_) (fun c_43 => ?_)
          · skip
            have i_43 : ¬ (f8_7 p0.toNatClampNeg).toInt = 7 := fun h9 => c_43 ((fa_eq _ _).mpr h9)
            refine lv_aload_n hx hb dX8_reads_93 rfl (lv_at hl 1 rfl) ?_
            refine k_get (v := .ref a8_7) E h (fun w h => List.mem_cons_of_mem _ (List.mem_append_right _ h)) 0 rfl rfl 7 (by decide) (List.mem_of_getElem? (i := 1) rfl) rfl dX8_reads_94 ?_
            refine lv_iload_n hx hb dX8_reads_97 rfl (lv_at hl 2 rfl) ?_
            refine k_iald (v := f8_7 p0.toNatClampNeg) E h 1 0 rfl rfl (vp_in_iff.mpr (by omega)) rfl dX8_reads_98 ?_
            refine lv_bipush (v := 9) hx hb dX8_reads_99 (by decide) ?_
            refine lv_icmp_lt (tgt := 118) hx hb dX8_reads_101 (by decide) (fun c_44 => ?_) (fun c_44 => ?_)
            · skip
              have i_44 : (f8_7 p0.toNatClampNeg).toInt < 9 := (fa_lt _ _).mp c_44
              refine lv_iload_n hx hb dX8_reads_118 rfl (lv_at hl 0 rfl) ?_
              have hP9 := h.2.1.sub [0, 1, 2, 3, 4] rfl
              have hD9 := h.2.2.1.sub (ws' := [(o8, .inr (8, [.ref a8_0, .ref a8_1, .ref a8_2, .ref a8_3, .ref a8_4, .ref a8_5, .int v8_6, .ref a8_7, .ref a8_8, .ref a8_9, .ref a8_10, .ref a8_11, .int v8_12, .ref a8_13, .ref a8_14, .ref a8_15, .ref a8_16, .ref a8_17, .ref a8_18, .ref a8_19, .ref a8_20, .ref a8_21, .ref a8_22, .ref a8_23, .ref a8_24, .int v8_25, .int v8_26, .ref a8_27, .ref a8_28, .ref a8_29, .ref a8_30, .ref a8_31, .int v8_32, .int v8_33, .int v8_34, .int v8_35, .ref a8_36, .ref a8_37, .int v8_38, .int v8_39, .int v8_40, .ref a8_41, .ref a8_42, .int v8_43])), (a8_7, .inl (c8_7, 120, .inl f8_7)), (a8_8, .inl (c8_8, 120, .inl f8_8)), (a8_9, .inl (c8_9, 120, .inl f8_9)), (a8_10, .inl (c8_10, 120, .inl f8_10))]) [0, 1, 2, 3, 4] (by decide) rfl
              exact W.iret (v := (0 : Int32) ||| ((1 : Int32) <<< ((f8_9 p0.toNatClampNeg) &&& 31))) hx hb hr (fun t ht hW => ⟨⟨(0 : Int32) ||| ((1 : Int32) <<< ((f8_9 p0.toNatClampNeg) &&& 31)), (), rfl, trivial, (by rw [ht]; exact hP9), hD9⟩, h.2.2.2.1.F ht⟩) h.2.2.2.1.2.2 dX8_reads_119 hlocks
            · skip
              have i_44 : ¬ (f8_7 p0.toNatClampNeg).toInt < 9 := fun h9 => c_44 ((fa_lt _ _).mpr h9)
              refine lv_iload_n hx hb dX8_reads_104 rfl (lv_at hl 0 rfl) ?_
              refine lv_iconst (v := 1) hx hb dX8_reads_105 (by decide) ?_
              refine lv_bipush (v := 8) hx hb dX8_reads_106 (by decide) ?_
              refine lv_aload_n hx hb dX8_reads_108 rfl (lv_at hl 1 rfl) ?_
              refine k_get (v := .ref a8_9) E h (fun w h => List.mem_cons_of_mem _ (List.mem_append_right _ h)) 0 rfl rfl 9 (by decide) (List.mem_of_getElem? (i := 2) rfl) rfl dX8_reads_109 ?_
              refine lv_iload_n hx hb dX8_reads_112 rfl (lv_at hl 2 rfl) ?_
              refine k_iald (v := f8_9 p0.toNatClampNeg) E h 3 2 rfl rfl (vp_in_iff.mpr (by omega)) rfl dX8_reads_113 ?_
              refine lv_iadd hx hb dX8_reads_114 ?_
              refine lv_ishl hx hb dX8_reads_115 ?_
              refine lv_ior hx hb dX8_reads_116 ?_
              refine lv_istore_n (lv' := [(2, .int (((0 : Int32) ||| ((1 : Int32) <<< ((f8_9 p0.toNatClampNeg) &&& 31))) ||| ((1 : Int32) <<< ((8 + (f8_9 p0.toNatClampNeg)) &&& 31)))), (0, .ref o8), (1, .int p0)]) hx hb dX8_reads_117 rfl hl (by decide) rfl (fun ls hl => ?_)
              refine W.eq (g2 := F0 m 118 ls []) rfl ?_
              refine lv_iload_n hx hb dX8_reads_118 rfl (lv_at hl 0 rfl) ?_
              have hP9 := h.2.1.sub [0, 1, 2, 3, 4] rfl
              have hD9 := h.2.2.1.sub (ws' := [(o8, .inr (8, [.ref a8_0, .ref a8_1, .ref a8_2, .ref a8_3, .ref a8_4, .ref a8_5, .int v8_6, .ref a8_7, .ref a8_8, .ref a8_9, .ref a8_10, .ref a8_11, .int v8_12, .ref a8_13, .ref a8_14, .ref a8_15, .ref a8_16, .ref a8_17, .ref a8_18, .ref a8_19, .ref a8_20, .ref a8_21, .ref a8_22, .ref a8_23, .ref a8_24, .int v8_25, .int v8_26, .ref a8_27, .ref a8_28, .ref a8_29, .ref a8_30, .ref a8_31, .int v8_32, .int v8_33, .int v8_34, .int v8_35, .ref a8_36, .ref a8_37, .int v8_38, .int v8_39, .int v8_40, .ref a8_41, .ref a8_42, .int v8_43])), (a8_7, .inl (c8_7, 120, .inl f8_7)), (a8_8, .inl (c8_8, 120, .inl f8_8)), (a8_9, .inl (c8_9, 120, .inl f8_9)), (a8_10, .inl (c8_10, 120, .inl f8_10))]) [0, 1, 2, 3, 4] (by decide) rfl
              exact W.iret (v := ((0 : Int32) ||| ((1 : Int32) <<< ((f8_9 p0.toNatClampNeg) &&& 31))) ||| ((1 : Int32) <<< ((8 + (f8_9 p0.toNatClampNeg)) &&& 31))) hx hb hr (fun t ht hW => ⟨⟨((0 : Int32) ||| ((1 : Int32) <<< ((f8_9 p0.toNatClampNeg) &&& 31))) ||| ((1 : Int32) <<< ((8 + (f8_9 p0.toNatClampNeg)) &&& 31)), (), rfl, trivial, (by rw [ht]; exact hP9), hD9⟩, h.2.2.2.1.F ht⟩) h.2.2.2.1.2.2 dX8_reads_119 hlocks
          · skip
            have i_43 : (f8_7 p0.toNatClampNeg).toInt = 7 := (fa_eq _ _).mp c_43
            refine lv_iload_n hx hb dX8_reads_87 rfl (lv_at hl 0 rfl) ?_
            refine lv_sipush (v := 1024) hx hb dX8_reads_88 (by decide) ?_
            refine lv_ior hx hb dX8_reads_91 ?_
            refine lv_istore_n (lv' := [(2, .int (((0 : Int32) ||| ((1 : Int32) <<< ((f8_9 p0.toNatClampNeg) &&& 31))) ||| (1024 : Int32))), (0, .ref o8), (1, .int p0)]) hx hb dX8_reads_92 rfl hl (by decide) rfl (fun ls hl => ?_)
            refine lv_aload_n hx hb dX8_reads_93 rfl (lv_at hl 1 rfl) ?_
            refine k_get (v := .ref a8_7) E h (fun w h => List.mem_cons_of_mem _ (List.mem_append_right _ h)) 0 rfl rfl 7 (by decide) (List.mem_of_getElem? (i := 1) rfl) rfl dX8_reads_94 ?_
            refine lv_iload_n hx hb dX8_reads_97 rfl (lv_at hl 2 rfl) ?_
            refine k_iald (v := f8_7 p0.toNatClampNeg) E h 1 0 rfl rfl (vp_in_iff.mpr (by omega)) rfl dX8_reads_98 ?_
            refine lv_bipush (v := 9) hx hb dX8_reads_99 (by decide) ?_
            refine lv_icmp_lt (tgt := 118) hx hb dX8_reads_101 (by decide) (fun c_45 => ?_) (fun c_45 => ?_)
            · skip
              have i_45 : (f8_7 p0.toNatClampNeg).toInt < 9 := (fa_lt _ _).mp c_45
              refine lv_iload_n hx hb dX8_reads_118 rfl (lv_at hl 0 rfl) ?_
              have hP9 := h.2.1.sub [0, 1, 2, 3, 4] rfl
              have hD9 := h.2.2.1.sub (ws' := [(o8, .inr (8, [.ref a8_0, .ref a8_1, .ref a8_2, .ref a8_3, .ref a8_4, .ref a8_5, .int v8_6, .ref a8_7, .ref a8_8, .ref a8_9, .ref a8_10, .ref a8_11, .int v8_12, .ref a8_13, .ref a8_14, .ref a8_15, .ref a8_16, .ref a8_17, .ref a8_18, .ref a8_19, .ref a8_20, .ref a8_21, .ref a8_22, .ref a8_23, .ref a8_24, .int v8_25, .int v8_26, .ref a8_27, .ref a8_28, .ref a8_29, .ref a8_30, .ref a8_31, .int v8_32, .int v8_33, .int v8_34, .int v8_35, .ref a8_36, .ref a8_37, .int v8_38, .int v8_39, .int v8_40, .ref a8_41, .ref a8_42, .int v8_43])), (a8_7, .inl (c8_7, 120, .inl f8_7)), (a8_8, .inl (c8_8, 120, .inl f8_8)), (a8_9, .inl (c8_9, 120, .inl f8_9)), (a8_10, .inl (c8_10, 120, .inl f8_10))]) [0, 1, 2, 3, 4] (by decide) rfl
              exact W.iret (v := ((0 : Int32) ||| ((1 : Int32) <<< ((f8_9 p0.toNatClampNeg) &&& 31))) ||| (1024 : Int32)) hx hb hr (fun t ht hW => ⟨⟨((0 : Int32) ||| ((1 : Int32) <<< ((f8_9 p0.toNatClampNeg) &&& 31))) ||| (1024 : Int32), (), rfl, trivial, (by rw [ht]; exact hP9), hD9⟩, h.2.2.2.1.F ht⟩) h.2.2.2.1.2.2 dX8_reads_119 hlocks
            · skip
              have i_45 : ¬ (f8_7 p0.toNatClampNeg).toInt < 9 := fun h9 => c_45 ((fa_lt _ _).mpr h9)
              refine lv_iload_n hx hb dX8_reads_104 rfl (lv_at hl 0 rfl) ?_
              refine lv_iconst (v := 1) hx hb dX8_reads_105 (by decide) ?_
              refine lv_bipush (v := 8) hx hb dX8_reads_106 (by decide) ?_
              refine lv_aload_n hx hb dX8_reads_108 rfl (lv_at hl 1 rfl) ?_
              refine k_get (v := .ref a8_9) E h (fun w h => List.mem_cons_of_mem _ (List.mem_append_right _ h)) 0 rfl rfl 9 (by decide) (List.mem_of_getElem? (i := 2) rfl) rfl dX8_reads_109 ?_
              refine lv_iload_n hx hb dX8_reads_112 rfl (lv_at hl 2 rfl) ?_
              refine k_iald (v := f8_9 p0.toNatClampNeg) E h 3 2 rfl rfl (vp_in_iff.mpr (by omega)) rfl dX8_reads_113 ?_
              refine lv_iadd hx hb dX8_reads_114 ?_
              refine lv_ishl hx hb dX8_reads_115 ?_
              refine lv_ior hx hb dX8_reads_116 ?_
              refine lv_istore_n (lv' := [(2, .int ((((0 : Int32) ||| ((1 : Int32) <<< ((f8_9 p0.toNatClampNeg) &&& 31))) ||| (1024 : Int32)) ||| ((1 : Int32) <<< ((8 + (f8_9 p0.toNatClampNeg)) &&& 31)))), (0, .ref o8), (1, .int p0)]) hx hb dX8_reads_117 rfl hl (by decide) rfl (fun ls hl => ?_)
              refine W.eq (g2 := F0 m 118 ls []) rfl ?_
              refine lv_iload_n hx hb dX8_reads_118 rfl (lv_at hl 0 rfl) ?_
              have hP9 := h.2.1.sub [0, 1, 2, 3, 4] rfl
              have hD9 := h.2.2.1.sub (ws' := [(o8, .inr (8, [.ref a8_0, .ref a8_1, .ref a8_2, .ref a8_3, .ref a8_4, .ref a8_5, .int v8_6, .ref a8_7, .ref a8_8, .ref a8_9, .ref a8_10, .ref a8_11, .int v8_12, .ref a8_13, .ref a8_14, .ref a8_15, .ref a8_16, .ref a8_17, .ref a8_18, .ref a8_19, .ref a8_20, .ref a8_21, .ref a8_22, .ref a8_23, .ref a8_24, .int v8_25, .int v8_26, .ref a8_27, .ref a8_28, .ref a8_29, .ref a8_30, .ref a8_31, .int v8_32, .int v8_33, .int v8_34, .int v8_35, .ref a8_36, .ref a8_37, .int v8_38, .int v8_39, .int v8_40, .ref a8_41, .ref a8_42, .int v8_43])), (a8_7, .inl (c8_7, 120, .inl f8_7)), (a8_8, .inl (c8_8, 120, .inl f8_8)), (a8_9, .inl (c8_9, 120, .inl f8_9)), (a8_10, .inl (c8_10, 120, .inl f8_10))]) [0, 1, 2, 3, 4] (by decide) rfl
              exact W.iret (v := (((0 : Int32) ||| ((1 : Int32) <<< ((f8_9 p0.toNatClampNeg) &&& 31))) ||| (1024 : Int32)) ||| ((1 : Int32) <<< ((8 + (f8_9 p0.toNatClampNeg)) &&& 31))) hx hb hr (fun t ht hW => ⟨⟨(((0 : Int32) ||| ((1 : Int32) <<< ((f8_9 p0.toNatClampNeg) &&& 31))) ||| (1024 : Int32)) ||| ((1 : Int32) <<< ((8 + (f8_9 p0.toNatClampNeg)) &&& 31)), (), rfl, trivial, (by rw [ht]; exact hP9), hD9⟩, h.2.2.2.1.F ht⟩) h.2.2.2.1.2.2 dX8_reads_119 hlocks
        · skip
          have i_42 : (f8_7 p0.toNatClampNeg).toInt = 8 := (fa_eq _ _).mp c_42
          refine lv_iload_n hx hb dX8_reads_65 rfl (lv_at hl 0 rfl) ?_
          refine lv_iconst (v := 1) hx hb dX8_reads_66 (by decide) ?_
          refine lv_aload_n hx hb dX8_reads_67 rfl (lv_at hl 1 rfl) ?_
          refine k_get (v := .ref a8_10) E h (fun w h => List.mem_cons_of_mem _ (List.mem_append_right _ h)) 0 rfl rfl 10 (by decide) (List.mem_of_getElem? (i := 3) rfl) rfl dX8_reads_68 ?_
          refine lv_iload_n hx hb dX8_reads_71 rfl (lv_at hl 2 rfl) ?_
          refine k_iald (v := f8_10 p0.toNatClampNeg) E h 4 3 rfl rfl (vp_in_iff.mpr (by omega)) rfl dX8_reads_72 ?_
          refine lv_ishl hx hb dX8_reads_73 ?_
          refine lv_ior hx hb dX8_reads_74 ?_
          refine lv_istore_n (lv' := [(2, .int (((0 : Int32) ||| ((1 : Int32) <<< ((f8_9 p0.toNatClampNeg) &&& 31))) ||| ((1 : Int32) <<< ((f8_10 p0.toNatClampNeg) &&& 31)))), (0, .ref o8), (1, .int p0)]) hx hb dX8_reads_75 rfl hl (by decide) rfl (fun ls hl => ?_)
          refine lv_aload_n hx hb dX8_reads_76 rfl (lv_at hl 1 rfl) ?_
          refine k_get (v := .ref a8_7) E h (fun w h => List.mem_cons_of_mem _ (List.mem_append_right _ h)) 0 rfl rfl 7 (by decide) (List.mem_of_getElem? (i := 1) rfl) rfl dX8_reads_77 ?_
          refine W.eq (g2 := F0 m 80 ls [.ref a8_7]) rfl ?_
          refine lv_iload_n hx hb dX8_reads_80 rfl (lv_at hl 2 rfl) ?_
          refine k_iald (v := f8_7 p0.toNatClampNeg) E h 1 0 rfl rfl (vp_in_iff.mpr (by omega)) rfl dX8_reads_81 ?_
          refine lv_bipush (v := 7) hx hb dX8_reads_82 (by decide) ?_
          refine lv_icmp_ne (tgt := 93) hx hb dX8_reads_84 (by decide) (fun c_46 => ?_) (fun c_46 => ?_)
          · skip
            have i_46 : ¬ (f8_7 p0.toNatClampNeg).toInt = 7 := fun h9 => c_46 ((fa_eq _ _).mpr h9)
            refine lv_aload_n hx hb dX8_reads_93 rfl (lv_at hl 1 rfl) ?_
            refine k_get (v := .ref a8_7) E h (fun w h => List.mem_cons_of_mem _ (List.mem_append_right _ h)) 0 rfl rfl 7 (by decide) (List.mem_of_getElem? (i := 1) rfl) rfl dX8_reads_94 ?_
            refine lv_iload_n hx hb dX8_reads_97 rfl (lv_at hl 2 rfl) ?_
            refine k_iald (v := f8_7 p0.toNatClampNeg) E h 1 0 rfl rfl (vp_in_iff.mpr (by omega)) rfl dX8_reads_98 ?_
            refine lv_bipush (v := 9) hx hb dX8_reads_99 (by decide) ?_
            refine lv_icmp_lt (tgt := 118) hx hb dX8_reads_101 (by decide) (fun c_47 => ?_) (fun c_47 => ?_)
            · skip
              have i_47 : (f8_7 p0.toNatClampNeg).toInt < 9 := (fa_lt _ _).mp c_47
              refine lv_iload_n hx hb dX8_reads_118 rfl (lv_at hl 0 rfl) ?_
              have hP9 := h.2.1.sub [0, 1, 2, 3, 4] rfl
              have hD9 := h.2.2.1.sub (ws' := [(o8, .inr (8, [.ref a8_0, .ref a8_1, .ref a8_2, .ref a8_3, .ref a8_4, .ref a8_5, .int v8_6, .ref a8_7, .ref a8_8, .ref a8_9, .ref a8_10, .ref a8_11, .int v8_12, .ref a8_13, .ref a8_14, .ref a8_15, .ref a8_16, .ref a8_17, .ref a8_18, .ref a8_19, .ref a8_20, .ref a8_21, .ref a8_22, .ref a8_23, .ref a8_24, .int v8_25, .int v8_26, .ref a8_27, .ref a8_28, .ref a8_29, .ref a8_30, .ref a8_31, .int v8_32, .int v8_33, .int v8_34, .int v8_35, .ref a8_36, .ref a8_37, .int v8_38, .int v8_39, .int v8_40, .ref a8_41, .ref a8_42, .int v8_43])), (a8_7, .inl (c8_7, 120, .inl f8_7)), (a8_8, .inl (c8_8, 120, .inl f8_8)), (a8_9, .inl (c8_9, 120, .inl f8_9)), (a8_10, .inl (c8_10, 120, .inl f8_10))]) [0, 1, 2, 3, 4] (by decide) rfl
              exact W.iret (v := ((0 : Int32) ||| ((1 : Int32) <<< ((f8_9 p0.toNatClampNeg) &&& 31))) ||| ((1 : Int32) <<< ((f8_10 p0.toNatClampNeg) &&& 31))) hx hb hr (fun t ht hW => ⟨⟨((0 : Int32) ||| ((1 : Int32) <<< ((f8_9 p0.toNatClampNeg) &&& 31))) ||| ((1 : Int32) <<< ((f8_10 p0.toNatClampNeg) &&& 31)), (), rfl, trivial, (by rw [ht]; exact hP9), hD9⟩, h.2.2.2.1.F ht⟩) h.2.2.2.1.2.2 dX8_reads_119 hlocks
            · skip
              have i_47 : ¬ (f8_7 p0.toNatClampNeg).toInt < 9 := fun h9 => c_47 ((fa_lt _ _).mpr h9)
              refine lv_iload_n hx hb dX8_reads_104 rfl (lv_at hl 0 rfl) ?_
              refine lv_iconst (v := 1) hx hb dX8_reads_105 (by decide) ?_
              refine lv_bipush (v := 8) hx hb dX8_reads_106 (by decide) ?_
              refine lv_aload_n hx hb dX8_reads_108 rfl (lv_at hl 1 rfl) ?_
              refine k_get (v := .ref a8_9) E h (fun w h => List.mem_cons_of_mem _ (List.mem_append_right _ h)) 0 rfl rfl 9 (by decide) (List.mem_of_getElem? (i := 2) rfl) rfl dX8_reads_109 ?_
              refine lv_iload_n hx hb dX8_reads_112 rfl (lv_at hl 2 rfl) ?_
              refine k_iald (v := f8_9 p0.toNatClampNeg) E h 3 2 rfl rfl (vp_in_iff.mpr (by omega)) rfl dX8_reads_113 ?_
              refine lv_iadd hx hb dX8_reads_114 ?_
              refine lv_ishl hx hb dX8_reads_115 ?_
              refine lv_ior hx hb dX8_reads_116 ?_
              refine lv_istore_n (lv' := [(2, .int ((((0 : Int32) ||| ((1 : Int32) <<< ((f8_9 p0.toNatClampNeg) &&& 31))) ||| ((1 : Int32) <<< ((f8_10 p0.toNatClampNeg) &&& 31))) ||| ((1 : Int32) <<< ((8 + (f8_9 p0.toNatClampNeg)) &&& 31)))), (0, .ref o8), (1, .int p0)]) hx hb dX8_reads_117 rfl hl (by decide) rfl (fun ls hl => ?_)
              refine W.eq (g2 := F0 m 118 ls []) rfl ?_
              refine lv_iload_n hx hb dX8_reads_118 rfl (lv_at hl 0 rfl) ?_
              have hP9 := h.2.1.sub [0, 1, 2, 3, 4] rfl
              have hD9 := h.2.2.1.sub (ws' := [(o8, .inr (8, [.ref a8_0, .ref a8_1, .ref a8_2, .ref a8_3, .ref a8_4, .ref a8_5, .int v8_6, .ref a8_7, .ref a8_8, .ref a8_9, .ref a8_10, .ref a8_11, .int v8_12, .ref a8_13, .ref a8_14, .ref a8_15, .ref a8_16, .ref a8_17, .ref a8_18, .ref a8_19, .ref a8_20, .ref a8_21, .ref a8_22, .ref a8_23, .ref a8_24, .int v8_25, .int v8_26, .ref a8_27, .ref a8_28, .ref a8_29, .ref a8_30, .ref a8_31, .int v8_32, .int v8_33, .int v8_34, .int v8_35, .ref a8_36, .ref a8_37, .int v8_38, .int v8_39, .int v8_40, .ref a8_41, .ref a8_42, .int v8_43])), (a8_7, .inl (c8_7, 120, .inl f8_7)), (a8_8, .inl (c8_8, 120, .inl f8_8)), (a8_9, .inl (c8_9, 120, .inl f8_9)), (a8_10, .inl (c8_10, 120, .inl f8_10))]) [0, 1, 2, 3, 4] (by decide) rfl
              exact W.iret (v := (((0 : Int32) ||| ((1 : Int32) <<< ((f8_9 p0.toNatClampNeg) &&& 31))) ||| ((1 : Int32) <<< ((f8_10 p0.toNatClampNeg) &&& 31))) ||| ((1 : Int32) <<< ((8 + (f8_9 p0.toNatClampNeg)) &&& 31))) hx hb hr (fun t ht hW => ⟨⟨(((0 : Int32) ||| ((1 : Int32) <<< ((f8_9 p0.toNatClampNeg) &&& 31))) ||| ((1 : Int32) <<< ((f8_10 p0.toNatClampNeg) &&& 31))) ||| ((1 : Int32) <<< ((8 + (f8_9 p0.toNatClampNeg)) &&& 31)), (), rfl, trivial, (by rw [ht]; exact hP9), hD9⟩, h.2.2.2.1.F ht⟩) h.2.2.2.1.2.2 dX8_reads_119 hlocks
          · skip
            have i_46 : (f8_7 p0.toNatClampNeg).toInt = 7 := (fa_eq _ _).mp c_46
            refine lv_iload_n hx hb dX8_reads_87 rfl (lv_at hl 0 rfl) ?_
            refine lv_sipush (v := 1024) hx hb dX8_reads_88 (by decide) ?_
            refine lv_ior hx hb dX8_reads_91 ?_
            refine lv_istore_n (lv' := [(2, .int ((((0 : Int32) ||| ((1 : Int32) <<< ((f8_9 p0.toNatClampNeg) &&& 31))) ||| ((1 : Int32) <<< ((f8_10 p0.toNatClampNeg) &&& 31))) ||| (1024 : Int32))), (0, .ref o8), (1, .int p0)]) hx hb dX8_reads_92 rfl hl (by decide) rfl (fun ls hl => ?_)
            refine lv_aload_n hx hb dX8_reads_93 rfl (lv_at hl 1 rfl) ?_
            refine k_get (v := .ref a8_7) E h (fun w h => List.mem_cons_of_mem _ (List.mem_append_right _ h)) 0 rfl rfl 7 (by decide) (List.mem_of_getElem? (i := 1) rfl) rfl dX8_reads_94 ?_
            refine lv_iload_n hx hb dX8_reads_97 rfl (lv_at hl 2 rfl) ?_
            refine k_iald (v := f8_7 p0.toNatClampNeg) E h 1 0 rfl rfl (vp_in_iff.mpr (by omega)) rfl dX8_reads_98 ?_
            refine lv_bipush (v := 9) hx hb dX8_reads_99 (by decide) ?_
            refine lv_icmp_lt (tgt := 118) hx hb dX8_reads_101 (by decide) (fun c_48 => ?_) (fun c_48 => ?_)
            · skip
              have i_48 : (f8_7 p0.toNatClampNeg).toInt < 9 := (fa_lt _ _).mp c_48
              refine lv_iload_n hx hb dX8_reads_118 rfl (lv_at hl 0 rfl) ?_
              have hP9 := h.2.1.sub [0, 1, 2, 3, 4] rfl
              have hD9 := h.2.2.1.sub (ws' := [(o8, .inr (8, [.ref a8_0, .ref a8_1, .ref a8_2, .ref a8_3, .ref a8_4, .ref a8_5, .int v8_6, .ref a8_7, .ref a8_8, .ref a8_9, .ref a8_10, .ref a8_11, .int v8_12, .ref a8_13, .ref a8_14, .ref a8_15, .ref a8_16, .ref a8_17, .ref a8_18, .ref a8_19, .ref a8_20, .ref a8_21, .ref a8_22, .ref a8_23, .ref a8_24, .int v8_25, .int v8_26, .ref a8_27, .ref a8_28, .ref a8_29, .ref a8_30, .ref a8_31, .int v8_32, .int v8_33, .int v8_34, .int v8_35, .ref a8_36, .ref a8_37, .int v8_38, .int v8_39, .int v8_40, .ref a8_41, .ref a8_42, .int v8_43])), (a8_7, .inl (c8_7, 120, .inl f8_7)), (a8_8, .inl (c8_8, 120, .inl f8_8)), (a8_9, .inl (c8_9, 120, .inl f8_9)), (a8_10, .inl (c8_10, 120, .inl f8_10))]) [0, 1, 2, 3, 4] (by decide) rfl
              exact W.iret (v := (((0 : Int32) ||| ((1 : Int32) <<< ((f8_9 p0.toNatClampNeg) &&& 31))) ||| ((1 : Int32) <<< ((f8_10 p0.toNatClampNeg) &&& 31))) ||| (1024 : Int32)) hx hb hr (fun t ht hW => ⟨⟨(((0 : Int32) ||| ((1 : Int32) <<< ((f8_9 p0.toNatClampNeg) &&& 31))) ||| ((1 : Int32) <<< ((f8_10 p0.toNatClampNeg) &&& 31))) ||| (1024 : Int32), (), rfl, trivial, (by rw [ht]; exact hP9), hD9⟩, h.2.2.2.1.F ht⟩) h.2.2.2.1.2.2 dX8_reads_119 hlocks
            · skip
              have i_48 : ¬ (f8_7 p0.toNatClampNeg).toInt < 9 := fun h9 => c_48 ((fa_lt _ _).mpr h9)
              refine lv_iload_n hx hb dX8_reads_104 rfl (lv_at hl 0 rfl) ?_
              refine lv_iconst (v := 1) hx hb dX8_reads_105 (by decide) ?_
              refine lv_bipush (v := 8) hx hb dX8_reads_106 (by decide) ?_
              refine lv_aload_n hx hb dX8_reads_108 rfl (lv_at hl 1 rfl) ?_
              refine k_get (v := .ref a8_9) E h (fun w h => List.mem_cons_of_mem _ (List.mem_append_right _ h)) 0 rfl rfl 9 (by decide) (List.mem_of_getElem? (i := 2) rfl) rfl dX8_reads_109 ?_
              refine lv_iload_n hx hb dX8_reads_112 rfl (lv_at hl 2 rfl) ?_
              refine k_iald (v := f8_9 p0.toNatClampNeg) E h 3 2 rfl rfl (vp_in_iff.mpr (by omega)) rfl dX8_reads_113 ?_
              refine lv_iadd hx hb dX8_reads_114 ?_
              refine lv_ishl hx hb dX8_reads_115 ?_
              refine lv_ior hx hb dX8_reads_116 ?_
              refine lv_istore_n (lv' := [(2, .int (((((0 : Int32) ||| ((1 : Int32) <<< ((f8_9 p0.toNatClampNeg) &&& 31))) ||| ((1 : Int32) <<< ((f8_10 p0.toNatClampNeg) &&& 31))) ||| (1024 : Int32)) ||| ((1 : Int32) <<< ((8 + (f8_9 p0.toNatClampNeg)) &&& 31)))), (0, .ref o8), (1, .int p0)]) hx hb dX8_reads_117 rfl hl (by decide) rfl (fun ls hl => ?_)
              refine W.eq (g2 := F0 m 118 ls []) rfl ?_
              refine lv_iload_n hx hb dX8_reads_118 rfl (lv_at hl 0 rfl) ?_
              have hP9 := h.2.1.sub [0, 1, 2, 3, 4] rfl
              have hD9 := h.2.2.1.sub (ws' := [(o8, .inr (8, [.ref a8_0, .ref a8_1, .ref a8_2, .ref a8_3, .ref a8_4, .ref a8_5, .int v8_6, .ref a8_7, .ref a8_8, .ref a8_9, .ref a8_10, .ref a8_11, .int v8_12, .ref a8_13, .ref a8_14, .ref a8_15, .ref a8_16, .ref a8_17, .ref a8_18, .ref a8_19, .ref a8_20, .ref a8_21, .ref a8_22, .ref a8_23, .ref a8_24, .int v8_25, .int v8_26, .ref a8_27, .ref a8_28, .ref a8_29, .ref a8_30, .ref a8_31, .int v8_32, .int v8_33, .int v8_34, .int v8_35, .ref a8_36, .ref a8_37, .int v8_38, .int v8_39, .int v8_40, .ref a8_41, .ref a8_42, .int v8_43])), (a8_7, .inl (c8_7, 120, .inl f8_7)), (a8_8, .inl (c8_8, 120, .inl f8_8)), (a8_9, .inl (c8_9, 120, .inl f8_9)), (a8_10, .inl (c8_10, 120, .inl f8_10))]) [0, 1, 2, 3, 4] (by decide) rfl
              exact W.iret (v := ((((0 : Int32) ||| ((1 : Int32) <<< ((f8_9 p0.toNatClampNeg) &&& 31))) ||| ((1 : Int32) <<< ((f8_10 p0.toNatClampNeg) &&& 31))) ||| (1024 : Int32)) ||| ((1 : Int32) <<< ((8 + (f8_9 p0.toNatClampNeg)) &&& 31))) hx hb hr (fun t ht hW => ⟨⟨((((0 : Int32) ||| ((1 : Int32) <<< ((f8_9 p0.toNatClampNeg) &&& 31))) ||| ((1 : Int32) <<< ((f8_10 p0.toNatClampNeg) &&& 31))) ||| (1024 : Int32)) ||| ((1 : Int32) <<< ((8 + (f8_9 p0.toNatClampNeg)) &&& 31)), (), rfl, trivial, (by rw [ht]; exact hP9), hD9⟩, h.2.2.2.1.F ht⟩) h.2.2.2.1.2.2 dX8_reads_119 hlocks
      · skip
        have i_41 : ¬ (f8_7 p0.toNatClampNeg).toInt < 2 := fun h9 => c_41 ((fa_lt _ _).mpr h9)
        refine lv_aload_n hx hb dX8_reads_44 rfl (lv_at hl 1 rfl) ?_
        refine k_get (v := .ref a8_7) E h (fun w h => List.mem_cons_of_mem _ (List.mem_append_right _ h)) 0 rfl rfl 7 (by decide) (List.mem_of_getElem? (i := 1) rfl) rfl dX8_reads_45 ?_
        refine lv_iload_n hx hb dX8_reads_48 rfl (lv_at hl 2 rfl) ?_
        refine k_iald (v := f8_7 p0.toNatClampNeg) E h 1 0 rfl rfl (vp_in_iff.mpr (by omega)) rfl dX8_reads_49 ?_
        refine lv_iconst (v := 5) hx hb dX8_reads_50 (by decide) ?_
        refine lv_icmp_le (tgt := 65) hx hb dX8_reads_51 (by decide) (fun c_49 => ?_) (fun c_49 => ?_)
        · skip
          have i_49 : (f8_7 p0.toNatClampNeg).toInt ≤ 5 := (fa_le _ _).mp c_49
          refine lv_iload_n hx hb dX8_reads_65 rfl (lv_at hl 0 rfl) ?_
          refine lv_iconst (v := 1) hx hb dX8_reads_66 (by decide) ?_
          refine lv_aload_n hx hb dX8_reads_67 rfl (lv_at hl 1 rfl) ?_
          refine k_get (v := .ref a8_10) E h (fun w h => List.mem_cons_of_mem _ (List.mem_append_right _ h)) 0 rfl rfl 10 (by decide) (List.mem_of_getElem? (i := 3) rfl) rfl dX8_reads_68 ?_
          refine lv_iload_n hx hb dX8_reads_71 rfl (lv_at hl 2 rfl) ?_
          refine k_iald (v := f8_10 p0.toNatClampNeg) E h 4 3 rfl rfl (vp_in_iff.mpr (by omega)) rfl dX8_reads_72 ?_
          refine lv_ishl hx hb dX8_reads_73 ?_
          refine lv_ior hx hb dX8_reads_74 ?_
          refine lv_istore_n (lv' := [(2, .int (((0 : Int32) ||| ((1 : Int32) <<< ((f8_9 p0.toNatClampNeg) &&& 31))) ||| ((1 : Int32) <<< ((f8_10 p0.toNatClampNeg) &&& 31)))), (0, .ref o8), (1, .int p0)]) hx hb dX8_reads_75 rfl hl (by decide) rfl (fun ls hl => ?_)
          refine lv_aload_n hx hb dX8_reads_76 rfl (lv_at hl 1 rfl) ?_
          refine k_get (v := .ref a8_7) E h (fun w h => List.mem_cons_of_mem _ (List.mem_append_right _ h)) 0 rfl rfl 7 (by decide) (List.mem_of_getElem? (i := 1) rfl) rfl dX8_reads_77 ?_
          refine W.eq (g2 := F0 m 80 ls [.ref a8_7]) rfl ?_
          refine lv_iload_n hx hb dX8_reads_80 rfl (lv_at hl 2 rfl) ?_
          refine k_iald (v := f8_7 p0.toNatClampNeg) E h 1 0 rfl rfl (vp_in_iff.mpr (by omega)) rfl dX8_reads_81 ?_
          refine lv_bipush (v := 7) hx hb dX8_reads_82 (by decide) ?_
          refine lv_icmp_ne (tgt := 93) hx hb dX8_reads_84 (by decide) (fun c_50 => ?_) (fun c_50 => ?_)
          · skip
            have i_50 : ¬ (f8_7 p0.toNatClampNeg).toInt = 7 := fun h9 => c_50 ((fa_eq _ _).mpr h9)
            refine lv_aload_n hx hb dX8_reads_93 rfl (lv_at hl 1 rfl) ?_
            refine k_get (v := .ref a8_7) E h (fun w h => List.mem_cons_of_mem _ (List.mem_append_right _ h)) 0 rfl rfl 7 (by decide) (List.mem_of_getElem? (i := 1) rfl) rfl dX8_reads_94 ?_
            refine lv_iload_n hx hb dX8_reads_97 rfl (lv_at hl 2 rfl) ?_
            refine k_iald (v := f8_7 p0.toNatClampNeg) E h 1 0 rfl rfl (vp_in_iff.mpr (by omega)) rfl dX8_reads_98 ?_
            refine lv_bipush (v := 9) hx hb dX8_reads_99 (by decide) ?_
            refine lv_icmp_lt (tgt := 118) hx hb dX8_reads_101 (by decide) (fun c_51 => ?_) (fun c_51 => ?_)
            · skip
              have i_51 : (f8_7 p0.toNatClampNeg).toInt < 9 := (fa_lt _ _).mp c_51
              refine lv_iload_n hx hb dX8_reads_118 rfl (lv_at hl 0 rfl) ?_
              have hP9 := h.2.1.sub [0, 1, 2, 3, 4] rfl
              have hD9 := h.2.2.1.sub (ws' := [(o8, .inr (8, [.ref a8_0, .ref a8_1, .ref a8_2, .ref a8_3, .ref a8_4, .ref a8_5, .int v8_6, .ref a8_7, .ref a8_8, .ref a8_9, .ref a8_10, .ref a8_11, .int v8_12, .ref a8_13, .ref a8_14, .ref a8_15, .ref a8_16, .ref a8_17, .ref a8_18, .ref a8_19, .ref a8_20, .ref a8_21, .ref a8_22, .ref a8_23, .ref a8_24, .int v8_25, .int v8_26, .ref a8_27, .ref a8_28, .ref a8_29, .ref a8_30, .ref a8_31, .int v8_32, .int v8_33, .int v8_34, .int v8_35, .ref a8_36, .ref a8_37, .int v8_38, .int v8_39, .int v8_40, .ref a8_41, .ref a8_42, .int v8_43])), (a8_7, .inl (c8_7, 120, .inl f8_7)), (a8_8, .inl (c8_8, 120, .inl f8_8)), (a8_9, .inl (c8_9, 120, .inl f8_9)), (a8_10, .inl (c8_10, 120, .inl f8_10))]) [0, 1, 2, 3, 4] (by decide) rfl
              exact W.iret (v := ((0 : Int32) ||| ((1 : Int32) <<< ((f8_9 p0.toNatClampNeg) &&& 31))) ||| ((1 : Int32) <<< ((f8_10 p0.toNatClampNeg) &&& 31))) hx hb hr (fun t ht hW => ⟨⟨((0 : Int32) ||| ((1 : Int32) <<< ((f8_9 p0.toNatClampNeg) &&& 31))) ||| ((1 : Int32) <<< ((f8_10 p0.toNatClampNeg) &&& 31)), (), rfl, trivial, (by rw [ht]; exact hP9), hD9⟩, h.2.2.2.1.F ht⟩) h.2.2.2.1.2.2 dX8_reads_119 hlocks
            · skip
              have i_51 : ¬ (f8_7 p0.toNatClampNeg).toInt < 9 := fun h9 => c_51 ((fa_lt _ _).mpr h9)
              refine lv_iload_n hx hb dX8_reads_104 rfl (lv_at hl 0 rfl) ?_
              refine lv_iconst (v := 1) hx hb dX8_reads_105 (by decide) ?_
              refine lv_bipush (v := 8) hx hb dX8_reads_106 (by decide) ?_
              refine lv_aload_n hx hb dX8_reads_108 rfl (lv_at hl 1 rfl) ?_
              refine k_get (v := .ref a8_9) E h (fun w h => List.mem_cons_of_mem _ (List.mem_append_right _ h)) 0 rfl rfl 9 (by decide) (List.mem_of_getElem? (i := 2) rfl) rfl dX8_reads_109 ?_
              refine lv_iload_n hx hb dX8_reads_112 rfl (lv_at hl 2 rfl) ?_
              refine k_iald (v := f8_9 p0.toNatClampNeg) E h 3 2 rfl rfl (vp_in_iff.mpr (by omega)) rfl dX8_reads_113 ?_
              refine lv_iadd hx hb dX8_reads_114 ?_
              refine lv_ishl hx hb dX8_reads_115 ?_
              refine lv_ior hx hb dX8_reads_116 ?_
              refine lv_istore_n (lv' := [(2, .int ((((0 : Int32) ||| ((1 : Int32) <<< ((f8_9 p0.toNatClampNeg) &&& 31))) ||| ((1 : Int32) <<< ((f8_10 p0.toNatClampNeg) &&& 31))) ||| ((1 : Int32) <<< ((8 + (f8_9 p0.toNatClampNeg)) &&& 31)))), (0, .ref o8), (1, .int p0)]) hx hb dX8_reads_117 rfl hl (by decide) rfl (fun ls hl => ?_)
              refine W.eq (g2 := F0 m 118 ls []) rfl ?_
              refine lv_iload_n hx hb dX8_reads_118 rfl (lv_at hl 0 rfl) ?_
              have hP9 := h.2.1.sub [0, 1, 2, 3, 4] rfl
              have hD9 := h.2.2.1.sub (ws' := [(o8, .inr (8, [.ref a8_0, .ref a8_1, .ref a8_2, .ref a8_3, .ref a8_4, .ref a8_5, .int v8_6, .ref a8_7, .ref a8_8, .ref a8_9, .ref a8_10, .ref a8_11, .int v8_12, .ref a8_13, .ref a8_14, .ref a8_15, .ref a8_16, .ref a8_17, .ref a8_18, .ref a8_19, .ref a8_20, .ref a8_21, .ref a8_22, .ref a8_23, .ref a8_24, .int v8_25, .int v8_26, .ref a8_27, .ref a8_28, .ref a8_29, .ref a8_30, .ref a8_31, .int v8_32, .int v8_33, .int v8_34, .int v8_35, .ref a8_36, .ref a8_37, .int v8_38, .int v8_39, .int v8_40, .ref a8_41, .ref a8_42, .int v8_43])), (a8_7, .inl (c8_7, 120, .inl f8_7)), (a8_8, .inl (c8_8, 120, .inl f8_8)), (a8_9, .inl (c8_9, 120, .inl f8_9)), (a8_10, .inl (c8_10, 120, .inl f8_10))]) [0, 1, 2, 3, 4] (by decide) rfl
              exact W.iret (v := (((0 : Int32) ||| ((1 : Int32) <<< ((f8_9 p0.toNatClampNeg) &&& 31))) ||| ((1 : Int32) <<< ((f8_10 p0.toNatClampNeg) &&& 31))) ||| ((1 : Int32) <<< ((8 + (f8_9 p0.toNatClampNeg)) &&& 31))) hx hb hr (fun t ht hW => ⟨⟨(((0 : Int32) ||| ((1 : Int32) <<< ((f8_9 p0.toNatClampNeg) &&& 31))) ||| ((1 : Int32) <<< ((f8_10 p0.toNatClampNeg) &&& 31))) ||| ((1 : Int32) <<< ((8 + (f8_9 p0.toNatClampNeg)) &&& 31)), (), rfl, trivial, (by rw [ht]; exact hP9), hD9⟩, h.2.2.2.1.F ht⟩) h.2.2.2.1.2.2 dX8_reads_119 hlocks
          · skip
            have i_50 : (f8_7 p0.toNatClampNeg).toInt = 7 := (fa_eq _ _).mp c_50
            refine lv_iload_n hx hb dX8_reads_87 rfl (lv_at hl 0 rfl) ?_
            refine lv_sipush (v := 1024) hx hb dX8_reads_88 (by decide) ?_
            refine lv_ior hx hb dX8_reads_91 ?_
            refine lv_istore_n (lv' := [(2, .int ((((0 : Int32) ||| ((1 : Int32) <<< ((f8_9 p0.toNatClampNeg) &&& 31))) ||| ((1 : Int32) <<< ((f8_10 p0.toNatClampNeg) &&& 31))) ||| (1024 : Int32))), (0, .ref o8), (1, .int p0)]) hx hb dX8_reads_92 rfl hl (by decide) rfl (fun ls hl => ?_)
            refine lv_aload_n hx hb dX8_reads_93 rfl (lv_at hl 1 rfl) ?_
            refine k_get (v := .ref a8_7) E h (fun w h => List.mem_cons_of_mem _ (List.mem_append_right _ h)) 0 rfl rfl 7 (by decide) (List.mem_of_getElem? (i := 1) rfl) rfl dX8_reads_94 ?_
            refine lv_iload_n hx hb dX8_reads_97 rfl (lv_at hl 2 rfl) ?_
            refine k_iald (v := f8_7 p0.toNatClampNeg) E h 1 0 rfl rfl (vp_in_iff.mpr (by omega)) rfl dX8_reads_98 ?_
            refine lv_bipush (v := 9) hx hb dX8_reads_99 (by decide) ?_
            refine lv_icmp_lt (tgt := 118) hx hb dX8_reads_101 (by decide) (fun c_52 => ?_) (fun c_52 => ?_)
            · skip
              have i_52 : (f8_7 p0.toNatClampNeg).toInt < 9 := (fa_lt _ _).mp c_52
              refine lv_iload_n hx hb dX8_reads_118 rfl (lv_at hl 0 rfl) ?_
              have hP9 := h.2.1.sub [0, 1, 2, 3, 4] rfl
              have hD9 := h.2.2.1.sub (ws' := [(o8, .inr (8, [.ref a8_0, .ref a8_1, .ref a8_2, .ref a8_3, .ref a8_4, .ref a8_5, .int v8_6, .ref a8_7, .ref a8_8, .ref a8_9, .ref a8_10, .ref a8_11, .int v8_12, .ref a8_13, .ref a8_14, .ref a8_15, .ref a8_16, .ref a8_17, .ref a8_18, .ref a8_19, .ref a8_20, .ref a8_21, .ref a8_22, .ref a8_23, .ref a8_24, .int v8_25, .int v8_26, .ref a8_27, .ref a8_28, .ref a8_29, .ref a8_30, .ref a8_31, .int v8_32, .int v8_33, .int v8_34, .int v8_35, .ref a8_36, .ref a8_37, .int v8_38, .int v8_39, .int v8_40, .ref a8_41, .ref a8_42, .int v8_43])), (a8_7, .inl (c8_7, 120, .inl f8_7)), (a8_8, .inl (c8_8, 120, .inl f8_8)), (a8_9, .inl (c8_9, 120, .inl f8_9)), (a8_10, .inl (c8_10, 120, .inl f8_10))]) [0, 1, 2, 3, 4] (by decide) rfl
              exact W.iret (v := (((0 : Int32) ||| ((1 : Int32) <<< ((f8_9 p0.toNatClampNeg) &&& 31))) ||| ((1 : Int32) <<< ((f8_10 p0.toNatClampNeg) &&& 31))) ||| (1024 : Int32)) hx hb hr (fun t ht hW => ⟨⟨(((0 : Int32) ||| ((1 : Int32) <<< ((f8_9 p0.toNatClampNeg) &&& 31))) ||| ((1 : Int32) <<< ((f8_10 p0.toNatClampNeg) &&& 31))) ||| (1024 : Int32), (), rfl, trivial, (by rw [ht]; exact hP9), hD9⟩, h.2.2.2.1.F ht⟩) h.2.2.2.1.2.2 dX8_reads_119 hlocks
            · skip
              have i_52 : ¬ (f8_7 p0.toNatClampNeg).toInt < 9 := fun h9 => c_52 ((fa_lt _ _).mpr h9)
              refine lv_iload_n hx hb dX8_reads_104 rfl (lv_at hl 0 rfl) ?_
              refine lv_iconst (v := 1) hx hb dX8_reads_105 (by decide) ?_
              refine lv_bipush (v := 8) hx hb dX8_reads_106 (by decide) ?_
              refine lv_aload_n hx hb dX8_reads_108 rfl (lv_at hl 1 rfl) ?_
              refine k_get (v := .ref a8_9) E h (fun w h => List.mem_cons_of_mem _ (List.mem_append_right _ h)) 0 rfl rfl 9 (by decide) (List.mem_of_getElem? (i := 2) rfl) rfl dX8_reads_109 ?_
              refine lv_iload_n hx hb dX8_reads_112 rfl (lv_at hl 2 rfl) ?_
              refine k_iald (v := f8_9 p0.toNatClampNeg) E h 3 2 rfl rfl (vp_in_iff.mpr (by omega)) rfl dX8_reads_113 ?_
              refine lv_iadd hx hb dX8_reads_114 ?_
              refine lv_ishl hx hb dX8_reads_115 ?_
              refine lv_ior hx hb dX8_reads_116 ?_
              refine lv_istore_n (lv' := [(2, .int (((((0 : Int32) ||| ((1 : Int32) <<< ((f8_9 p0.toNatClampNeg) &&& 31))) ||| ((1 : Int32) <<< ((f8_10 p0.toNatClampNeg) &&& 31))) ||| (1024 : Int32)) ||| ((1 : Int32) <<< ((8 + (f8_9 p0.toNatClampNeg)) &&& 31)))), (0, .ref o8), (1, .int p0)]) hx hb dX8_reads_117 rfl hl (by decide) rfl (fun ls hl => ?_)
              refine W.eq (g2 := F0 m 118 ls []) rfl ?_
              refine lv_iload_n hx hb dX8_reads_118 rfl (lv_at hl 0 rfl) ?_
              have hP9 := h.2.1.sub [0, 1, 2, 3, 4] rfl
              have hD9 := h.2.2.1.sub (ws' := [(o8, .inr (8, [.ref a8_0, .ref a8_1, .ref a8_2, .ref a8_3, .ref a8_4, .ref a8_5, .int v8_6, .ref a8_7, .ref a8_8, .ref a8_9, .ref a8_10, .ref a8_11, .int v8_12, .ref a8_13, .ref a8_14, .ref a8_15, .ref a8_16, .ref a8_17, .ref a8_18, .ref a8_19, .ref a8_20, .ref a8_21, .ref a8_22, .ref a8_23, .ref a8_24, .int v8_25, .int v8_26, .ref a8_27, .ref a8_28, .ref a8_29, .ref a8_30, .ref a8_31, .int v8_32, .int v8_33, .int v8_34, .int v8_35, .ref a8_36, .ref a8_37, .int v8_38, .int v8_39, .int v8_40, .ref a8_41, .ref a8_42, .int v8_43])), (a8_7, .inl (c8_7, 120, .inl f8_7)), (a8_8, .inl (c8_8, 120, .inl f8_8)), (a8_9, .inl (c8_9, 120, .inl f8_9)), (a8_10, .inl (c8_10, 120, .inl f8_10))]) [0, 1, 2, 3, 4] (by decide) rfl
              exact W.iret (v := ((((0 : Int32) ||| ((1 : Int32) <<< ((f8_9 p0.toNatClampNeg) &&& 31))) ||| ((1 : Int32) <<< ((f8_10 p0.toNatClampNeg) &&& 31))) ||| (1024 : Int32)) ||| ((1 : Int32) <<< ((8 + (f8_9 p0.toNatClampNeg)) &&& 31))) hx hb hr (fun t ht hW => ⟨⟨((((0 : Int32) ||| ((1 : Int32) <<< ((f8_9 p0.toNatClampNeg) &&& 31))) ||| ((1 : Int32) <<< ((f8_10 p0.toNatClampNeg) &&& 31))) ||| (1024 : Int32)) ||| ((1 : Int32) <<< ((8 + (f8_9 p0.toNatClampNeg)) &&& 31)), (), rfl, trivial, (by rw [ht]; exact hP9), hD9⟩, h.2.2.2.1.F ht⟩) h.2.2.2.1.2.2 dX8_reads_119 hlocks
        · skip
          have i_49 : ¬ (f8_7 p0.toNatClampNeg).toInt ≤ 5 := fun h9 => c_49 ((fa_le _ _).mpr h9)
          refine lv_aload_n hx hb dX8_reads_54 rfl (lv_at hl 1 rfl) ?_
          refine k_get (v := .ref a8_7) E h (fun w h => List.mem_cons_of_mem _ (List.mem_append_right _ h)) 0 rfl rfl 7 (by decide) (List.mem_of_getElem? (i := 1) rfl) rfl dX8_reads_55 ?_
          refine lv_iload_n hx hb dX8_reads_58 rfl (lv_at hl 2 rfl) ?_
          refine k_iald (v := f8_7 p0.toNatClampNeg) E h 1 0 rfl rfl (vp_in_iff.mpr (by omega)) rfl dX8_reads_59 ?_
          refine lv_bipush (v := 8) hx hb dX8_reads_60 (by decide) ?_
          refine lv_icmp_ne (tgt := 76) hx hb dX8_reads_62 (by decide) (fun c_53 => ?_) (fun c_53 => ?_)
          · skip
            have i_53 : ¬ (f8_7 p0.toNatClampNeg).toInt = 8 := fun h9 => c_53 ((fa_eq _ _).mpr h9)
            refine lv_aload_n hx hb dX8_reads_76 rfl (lv_at hl 1 rfl) ?_
            refine k_get (v := .ref a8_7) E h (fun w h => List.mem_cons_of_mem _ (List.mem_append_right _ h)) 0 rfl rfl 7 (by decide) (List.mem_of_getElem? (i := 1) rfl) rfl dX8_reads_77 ?_
            refine lv_iload_n hx hb dX8_reads_80 rfl (lv_at hl 2 rfl) ?_
            refine k_iald (v := f8_7 p0.toNatClampNeg) E h 1 0 rfl rfl (vp_in_iff.mpr (by omega)) rfl dX8_reads_81 ?_
            refine lv_bipush (v := 7) hx hb dX8_reads_82 (by decide) ?_
            refine lv_icmp_ne (tgt := 93) hx hb dX8_reads_84 (by decide) (fun c_54 => ?_) (fun c_54 => ?_)
            · skip
              have i_54 : ¬ (f8_7 p0.toNatClampNeg).toInt = 7 := fun h9 => c_54 ((fa_eq _ _).mpr h9)
              refine lv_aload_n hx hb dX8_reads_93 rfl (lv_at hl 1 rfl) ?_
              refine k_get (v := .ref a8_7) E h (fun w h => List.mem_cons_of_mem _ (List.mem_append_right _ h)) 0 rfl rfl 7 (by decide) (List.mem_of_getElem? (i := 1) rfl) rfl dX8_reads_94 ?_
              refine lv_iload_n hx hb dX8_reads_97 rfl (lv_at hl 2 rfl) ?_
              refine k_iald (v := f8_7 p0.toNatClampNeg) E h 1 0 rfl rfl (vp_in_iff.mpr (by omega)) rfl dX8_reads_98 ?_
              refine lv_bipush (v := 9) hx hb dX8_reads_99 (by decide) ?_
              refine lv_icmp_lt (tgt := 118) hx hb dX8_reads_101 (by decide) (fun c_55 => ?_) (fun c_55 => ?_)
              · skip
                have i_55 : (f8_7 p0.toNatClampNeg).toInt < 9 := (fa_lt _ _).mp c_55
                refine lv_iload_n hx hb dX8_reads_118 rfl (lv_at hl 0 rfl) ?_
                have hP9 := h.2.1.sub [0, 1, 2, 3, 4] rfl
                have hD9 := h.2.2.1.sub (ws' := [(o8, .inr (8, [.ref a8_0, .ref a8_1, .ref a8_2, .ref a8_3, .ref a8_4, .ref a8_5, .int v8_6, .ref a8_7, .ref a8_8, .ref a8_9, .ref a8_10, .ref a8_11, .int v8_12, .ref a8_13, .ref a8_14, .ref a8_15, .ref a8_16, .ref a8_17, .ref a8_18, .ref a8_19, .ref a8_20, .ref a8_21, .ref a8_22, .ref a8_23, .ref a8_24, .int v8_25, .int v8_26, .ref a8_27, .ref a8_28, .ref a8_29, .ref a8_30, .ref a8_31, .int v8_32, .int v8_33, .int v8_34, .int v8_35, .ref a8_36, .ref a8_37, .int v8_38, .int v8_39, .int v8_40, .ref a8_41, .ref a8_42, .int v8_43])), (a8_7, .inl (c8_7, 120, .inl f8_7)), (a8_8, .inl (c8_8, 120, .inl f8_8)), (a8_9, .inl (c8_9, 120, .inl f8_9)), (a8_10, .inl (c8_10, 120, .inl f8_10))]) [0, 1, 2, 3, 4] (by decide) rfl
                exact W.iret (v := (0 : Int32) ||| ((1 : Int32) <<< ((f8_9 p0.toNatClampNeg) &&& 31))) hx hb hr (fun t ht hW => ⟨⟨(0 : Int32) ||| ((1 : Int32) <<< ((f8_9 p0.toNatClampNeg) &&& 31)), (), rfl, trivial, (by rw [ht]; exact hP9), hD9⟩, h.2.2.2.1.F ht⟩) h.2.2.2.1.2.2 dX8_reads_119 hlocks
              · skip
                have i_55 : ¬ (f8_7 p0.toNatClampNeg).toInt < 9 := fun h9 => c_55 ((fa_lt _ _).mpr h9)
                refine lv_iload_n hx hb dX8_reads_104 rfl (lv_at hl 0 rfl) ?_
                refine lv_iconst (v := 1) hx hb dX8_reads_105 (by decide) ?_
                refine lv_bipush (v := 8) hx hb dX8_reads_106 (by decide) ?_
                refine lv_aload_n hx hb dX8_reads_108 rfl (lv_at hl 1 rfl) ?_
                refine k_get (v := .ref a8_9) E h (fun w h => List.mem_cons_of_mem _ (List.mem_append_right _ h)) 0 rfl rfl 9 (by decide) (List.mem_of_getElem? (i := 2) rfl) rfl dX8_reads_109 ?_
                refine lv_iload_n hx hb dX8_reads_112 rfl (lv_at hl 2 rfl) ?_
                refine k_iald (v := f8_9 p0.toNatClampNeg) E h 3 2 rfl rfl (vp_in_iff.mpr (by omega)) rfl dX8_reads_113 ?_
                refine lv_iadd hx hb dX8_reads_114 ?_
                refine lv_ishl hx hb dX8_reads_115 ?_
                refine lv_ior hx hb dX8_reads_116 ?_
                refine lv_istore_n (lv' := [(2, .int (((0 : Int32) ||| ((1 : Int32) <<< ((f8_9 p0.toNatClampNeg) &&& 31))) ||| ((1 : Int32) <<< ((8 + (f8_9 p0.toNatClampNeg)) &&& 31)))), (0, .ref o8), (1, .int p0)]) hx hb dX8_reads_117 rfl hl (by decide) rfl (fun ls hl => ?_)
                refine W.eq (g2 := F0 m 118 ls []) rfl ?_
                refine lv_iload_n hx hb dX8_reads_118 rfl (lv_at hl 0 rfl) ?_
                have hP9 := h.2.1.sub [0, 1, 2, 3, 4] rfl
                have hD9 := h.2.2.1.sub (ws' := [(o8, .inr (8, [.ref a8_0, .ref a8_1, .ref a8_2, .ref a8_3, .ref a8_4, .ref a8_5, .int v8_6, .ref a8_7, .ref a8_8, .ref a8_9, .ref a8_10, .ref a8_11, .int v8_12, .ref a8_13, .ref a8_14, .ref a8_15, .ref a8_16, .ref a8_17, .ref a8_18, .ref a8_19, .ref a8_20, .ref a8_21, .ref a8_22, .ref a8_23, .ref a8_24, .int v8_25, .int v8_26, .ref a8_27, .ref a8_28, .ref a8_29, .ref a8_30, .ref a8_31, .int v8_32, .int v8_33, .int v8_34, .int v8_35, .ref a8_36, .ref a8_37, .int v8_38, .int v8_39, .int v8_40, .ref a8_41, .ref a8_42, .int v8_43])), (a8_7, .inl (c8_7, 120, .inl f8_7)), (a8_8, .inl (c8_8, 120, .inl f8_8)), (a8_9, .inl (c8_9, 120, .inl f8_9)), (a8_10, .inl (c8_10, 120, .inl f8_10))]) [0, 1, 2, 3, 4] (by decide) rfl
                exact W.iret (v := ((0 : Int32) ||| ((1 : Int32) <<< ((f8_9 p0.toNatClampNeg) &&& 31))) ||| ((1 : Int32) <<< ((8 + (f8_9 p0.toNatClampNeg)) &&& 31))) hx hb hr (fun t ht hW => ⟨⟨((0 : Int32) ||| ((1 : Int32) <<< ((f8_9 p0.toNatClampNeg) &&& 31))) ||| ((1 : Int32) <<< ((8 + (f8_9 p0.toNatClampNeg)) &&& 31)), (), rfl, trivial, (by rw [ht]; exact hP9), hD9⟩, h.2.2.2.1.F ht⟩) h.2.2.2.1.2.2 dX8_reads_119 hlocks
            · skip
              have i_54 : (f8_7 p0.toNatClampNeg).toInt = 7 := (fa_eq _ _).mp c_54
              refine lv_iload_n hx hb dX8_reads_87 rfl (lv_at hl 0 rfl) ?_
              refine lv_sipush (v := 1024) hx hb dX8_reads_88 (by decide) ?_
              refine lv_ior hx hb dX8_reads_91 ?_
              refine lv_istore_n (lv' := [(2, .int (((0 : Int32) ||| ((1 : Int32) <<< ((f8_9 p0.toNatClampNeg) &&& 31))) ||| (1024 : Int32))), (0, .ref o8), (1, .int p0)]) hx hb dX8_reads_92 rfl hl (by decide) rfl (fun ls hl => ?_)
              refine lv_aload_n hx hb dX8_reads_93 rfl (lv_at hl 1 rfl) ?_
              refine k_get (v := .ref a8_7) E h (fun w h => List.mem_cons_of_mem _ (List.mem_append_right _ h)) 0 rfl rfl 7 (by decide) (List.mem_of_getElem? (i := 1) rfl) rfl dX8_reads_94 ?_
              refine lv_iload_n hx hb dX8_reads_97 rfl (lv_at hl 2 rfl) ?_
              refine k_iald (v := f8_7 p0.toNatClampNeg) E h 1 0 rfl rfl (vp_in_iff.mpr (by omega)) rfl dX8_reads_98 ?_
              refine lv_bipush (v := 9) hx hb dX8_reads_99 (by decide) ?_
              refine lv_icmp_lt (tgt := 118) hx hb dX8_reads_101 (by decide) (fun c_56 => ?_) (fun c_56 => ?_)
              · skip
                have i_56 : (f8_7 p0.toNatClampNeg).toInt < 9 := (fa_lt _ _).mp c_56
                refine lv_iload_n hx hb dX8_reads_118 rfl (lv_at hl 0 rfl) ?_
                have hP9 := h.2.1.sub [0, 1, 2, 3, 4] rfl
                have hD9 := h.2.2.1.sub (ws' := [(o8, .inr (8, [.ref a8_0, .ref a8_1, .ref a8_2, .ref a8_3, .ref a8_4, .ref a8_5, .int v8_6, .ref a8_7, .ref a8_8, .ref a8_9, .ref a8_10, .ref a8_11, .int v8_12, .ref a8_13, .ref a8_14, .ref a8_15, .ref a8_16, .ref a8_17, .ref a8_18, .ref a8_19, .ref a8_20, .ref a8_21, .ref a8_22, .ref a8_23, .ref a8_24, .int v8_25, .int v8_26, .ref a8_27, .ref a8_28, .ref a8_29, .ref a8_30, .ref a8_31, .int v8_32, .int v8_33, .int v8_34, .int v8_35, .ref a8_36, .ref a8_37, .int v8_38, .int v8_39, .int v8_40, .ref a8_41, .ref a8_42, .int v8_43])), (a8_7, .inl (c8_7, 120, .inl f8_7)), (a8_8, .inl (c8_8, 120, .inl f8_8)), (a8_9, .inl (c8_9, 120, .inl f8_9)), (a8_10, .inl (c8_10, 120, .inl f8_10))]) [0, 1, 2, 3, 4] (by decide) rfl
                exact W.iret (v := ((0 : Int32) ||| ((1 : Int32) <<< ((f8_9 p0.toNatClampNeg) &&& 31))) ||| (1024 : Int32)) hx hb hr (fun t ht hW => ⟨⟨((0 : Int32) ||| ((1 : Int32) <<< ((f8_9 p0.toNatClampNeg) &&& 31))) ||| (1024 : Int32), (), rfl, trivial, (by rw [ht]; exact hP9), hD9⟩, h.2.2.2.1.F ht⟩) h.2.2.2.1.2.2 dX8_reads_119 hlocks
              · skip
                have i_56 : ¬ (f8_7 p0.toNatClampNeg).toInt < 9 := fun h9 => c_56 ((fa_lt _ _).mpr h9)
                refine lv_iload_n hx hb dX8_reads_104 rfl (lv_at hl 0 rfl) ?_
                refine lv_iconst (v := 1) hx hb dX8_reads_105 (by decide) ?_
                refine lv_bipush (v := 8) hx hb dX8_reads_106 (by decide) ?_
                refine lv_aload_n hx hb dX8_reads_108 rfl (lv_at hl 1 rfl) ?_
                refine k_get (v := .ref a8_9) E h (fun w h => List.mem_cons_of_mem _ (List.mem_append_right _ h)) 0 rfl rfl 9 (by decide) (List.mem_of_getElem? (i := 2) rfl) rfl dX8_reads_109 ?_
                refine lv_iload_n hx hb dX8_reads_112 rfl (lv_at hl 2 rfl) ?_
                refine k_iald (v := f8_9 p0.toNatClampNeg) E h 3 2 rfl rfl (vp_in_iff.mpr (by omega)) rfl dX8_reads_113 ?_
                refine lv_iadd hx hb dX8_reads_114 ?_
                refine lv_ishl hx hb dX8_reads_115 ?_
                refine lv_ior hx hb dX8_reads_116 ?_
                refine lv_istore_n (lv' := [(2, .int ((((0 : Int32) ||| ((1 : Int32) <<< ((f8_9 p0.toNatClampNeg) &&& 31))) ||| (1024 : Int32)) ||| ((1 : Int32) <<< ((8 + (f8_9 p0.toNatClampNeg)) &&& 31)))), (0, .ref o8), (1, .int p0)]) hx hb dX8_reads_117 rfl hl (by decide) rfl (fun ls hl => ?_)
                refine W.eq (g2 := F0 m 118 ls []) rfl ?_
                refine lv_iload_n hx hb dX8_reads_118 rfl (lv_at hl 0 rfl) ?_
                have hP9 := h.2.1.sub [0, 1, 2, 3, 4] rfl
                have hD9 := h.2.2.1.sub (ws' := [(o8, .inr (8, [.ref a8_0, .ref a8_1, .ref a8_2, .ref a8_3, .ref a8_4, .ref a8_5, .int v8_6, .ref a8_7, .ref a8_8, .ref a8_9, .ref a8_10, .ref a8_11, .int v8_12, .ref a8_13, .ref a8_14, .ref a8_15, .ref a8_16, .ref a8_17, .ref a8_18, .ref a8_19, .ref a8_20, .ref a8_21, .ref a8_22, .ref a8_23, .ref a8_24, .int v8_25, .int v8_26, .ref a8_27, .ref a8_28, .ref a8_29, .ref a8_30, .ref a8_31, .int v8_32, .int v8_33, .int v8_34, .int v8_35, .ref a8_36, .ref a8_37, .int v8_38, .int v8_39, .int v8_40, .ref a8_41, .ref a8_42, .int v8_43])), (a8_7, .inl (c8_7, 120, .inl f8_7)), (a8_8, .inl (c8_8, 120, .inl f8_8)), (a8_9, .inl (c8_9, 120, .inl f8_9)), (a8_10, .inl (c8_10, 120, .inl f8_10))]) [0, 1, 2, 3, 4] (by decide) rfl
                exact W.iret (v := (((0 : Int32) ||| ((1 : Int32) <<< ((f8_9 p0.toNatClampNeg) &&& 31))) ||| (1024 : Int32)) ||| ((1 : Int32) <<< ((8 + (f8_9 p0.toNatClampNeg)) &&& 31))) hx hb hr (fun t ht hW => ⟨⟨(((0 : Int32) ||| ((1 : Int32) <<< ((f8_9 p0.toNatClampNeg) &&& 31))) ||| (1024 : Int32)) ||| ((1 : Int32) <<< ((8 + (f8_9 p0.toNatClampNeg)) &&& 31)), (), rfl, trivial, (by rw [ht]; exact hP9), hD9⟩, h.2.2.2.1.F ht⟩) h.2.2.2.1.2.2 dX8_reads_119 hlocks
          · skip
            have i_53 : (f8_7 p0.toNatClampNeg).toInt = 8 := (fa_eq _ _).mp c_53
            refine lv_iload_n hx hb dX8_reads_65 rfl (lv_at hl 0 rfl) ?_
            refine lv_iconst (v := 1) hx hb dX8_reads_66 (by decide) ?_
            refine lv_aload_n hx hb dX8_reads_67 rfl (lv_at hl 1 rfl) ?_
            refine k_get (v := .ref a8_10) E h (fun w h => List.mem_cons_of_mem _ (List.mem_append_right _ h)) 0 rfl rfl 10 (by decide) (List.mem_of_getElem? (i := 3) rfl) rfl dX8_reads_68 ?_
            refine lv_iload_n hx hb dX8_reads_71 rfl (lv_at hl 2 rfl) ?_
            refine k_iald (v := f8_10 p0.toNatClampNeg) E h 4 3 rfl rfl (vp_in_iff.mpr (by omega)) rfl dX8_reads_72 ?_
            refine lv_ishl hx hb dX8_reads_73 ?_
            refine lv_ior hx hb dX8_reads_74 ?_
            refine lv_istore_n (lv' := [(2, .int (((0 : Int32) ||| ((1 : Int32) <<< ((f8_9 p0.toNatClampNeg) &&& 31))) ||| ((1 : Int32) <<< ((f8_10 p0.toNatClampNeg) &&& 31)))), (0, .ref o8), (1, .int p0)]) hx hb dX8_reads_75 rfl hl (by decide) rfl (fun ls hl => ?_)
            refine lv_aload_n hx hb dX8_reads_76 rfl (lv_at hl 1 rfl) ?_
            refine k_get (v := .ref a8_7) E h (fun w h => List.mem_cons_of_mem _ (List.mem_append_right _ h)) 0 rfl rfl 7 (by decide) (List.mem_of_getElem? (i := 1) rfl) rfl dX8_reads_77 ?_
            refine W.eq (g2 := F0 m 80 ls [.ref a8_7]) rfl ?_
            refine lv_iload_n hx hb dX8_reads_80 rfl (lv_at hl 2 rfl) ?_
            refine k_iald (v := f8_7 p0.toNatClampNeg) E h 1 0 rfl rfl (vp_in_iff.mpr (by omega)) rfl dX8_reads_81 ?_
            refine lv_bipush (v := 7) hx hb dX8_reads_82 (by decide) ?_
            refine lv_icmp_ne (tgt := 93) hx hb dX8_reads_84 (by decide) (fun c_57 => ?_) (fun c_57 => ?_)
            · skip
              have i_57 : ¬ (f8_7 p0.toNatClampNeg).toInt = 7 := fun h9 => c_57 ((fa_eq _ _).mpr h9)
              refine lv_aload_n hx hb dX8_reads_93 rfl (lv_at hl 1 rfl) ?_
              refine k_get (v := .ref a8_7) E h (fun w h => List.mem_cons_of_mem _ (List.mem_append_right _ h)) 0 rfl rfl 7 (by decide) (List.mem_of_getElem? (i := 1) rfl) rfl dX8_reads_94 ?_
              refine lv_iload_n hx hb dX8_reads_97 rfl (lv_at hl 2 rfl) ?_
              refine k_iald (v := f8_7 p0.toNatClampNeg) E h 1 0 rfl rfl (vp_in_iff.mpr (by omega)) rfl dX8_reads_98 ?_
              refine lv_bipush (v := 9) hx hb dX8_reads_99 (by decide) ?_
              refine lv_icmp_lt (tgt := 118) hx hb dX8_reads_101 (by decide) (fun c_58 => ?_) (fun c_58 => ?_)
              · skip
                have i_58 : (f8_7 p0.toNatClampNeg).toInt < 9 := (fa_lt _ _).mp c_58
                refine lv_iload_n hx hb dX8_reads_118 rfl (lv_at hl 0 rfl) ?_
                have hP9 := h.2.1.sub [0, 1, 2, 3, 4] rfl
                have hD9 := h.2.2.1.sub (ws' := [(o8, .inr (8, [.ref a8_0, .ref a8_1, .ref a8_2, .ref a8_3, .ref a8_4, .ref a8_5, .int v8_6, .ref a8_7, .ref a8_8, .ref a8_9, .ref a8_10, .ref a8_11, .int v8_12, .ref a8_13, .ref a8_14, .ref a8_15, .ref a8_16, .ref a8_17, .ref a8_18, .ref a8_19, .ref a8_20, .ref a8_21, .ref a8_22, .ref a8_23, .ref a8_24, .int v8_25, .int v8_26, .ref a8_27, .ref a8_28, .ref a8_29, .ref a8_30, .ref a8_31, .int v8_32, .int v8_33, .int v8_34, .int v8_35, .ref a8_36, .ref a8_37, .int v8_38, .int v8_39, .int v8_40, .ref a8_41, .ref a8_42, .int v8_43])), (a8_7, .inl (c8_7, 120, .inl f8_7)), (a8_8, .inl (c8_8, 120, .inl f8_8)), (a8_9, .inl (c8_9, 120, .inl f8_9)), (a8_10, .inl (c8_10, 120, .inl f8_10))]) [0, 1, 2, 3, 4] (by decide) rfl
                exact W.iret (v := ((0 : Int32) ||| ((1 : Int32) <<< ((f8_9 p0.toNatClampNeg) &&& 31))) ||| ((1 : Int32) <<< ((f8_10 p0.toNatClampNeg) &&& 31))) hx hb hr (fun t ht hW => ⟨⟨((0 : Int32) ||| ((1 : Int32) <<< ((f8_9 p0.toNatClampNeg) &&& 31))) ||| ((1 : Int32) <<< ((f8_10 p0.toNatClampNeg) &&& 31)), (), rfl, trivial, (by rw [ht]; exact hP9), hD9⟩, h.2.2.2.1.F ht⟩) h.2.2.2.1.2.2 dX8_reads_119 hlocks
              · skip
                have i_58 : ¬ (f8_7 p0.toNatClampNeg).toInt < 9 := fun h9 => c_58 ((fa_lt _ _).mpr h9)
                refine lv_iload_n hx hb dX8_reads_104 rfl (lv_at hl 0 rfl) ?_
                refine lv_iconst (v := 1) hx hb dX8_reads_105 (by decide) ?_
                refine lv_bipush (v := 8) hx hb dX8_reads_106 (by decide) ?_
                refine lv_aload_n hx hb dX8_reads_108 rfl (lv_at hl 1 rfl) ?_
                refine k_get (v := .ref a8_9) E h (fun w h => List.mem_cons_of_mem _ (List.mem_append_right _ h)) 0 rfl rfl 9 (by decide) (List.mem_of_getElem? (i := 2) rfl) rfl dX8_reads_109 ?_
                refine lv_iload_n hx hb dX8_reads_112 rfl (lv_at hl 2 rfl) ?_
                refine k_iald (v := f8_9 p0.toNatClampNeg) E h 3 2 rfl rfl (vp_in_iff.mpr (by omega)) rfl dX8_reads_113 ?_
                refine lv_iadd hx hb dX8_reads_114 ?_
                refine lv_ishl hx hb dX8_reads_115 ?_
                refine lv_ior hx hb dX8_reads_116 ?_
                refine lv_istore_n (lv' := [(2, .int ((((0 : Int32) ||| ((1 : Int32) <<< ((f8_9 p0.toNatClampNeg) &&& 31))) ||| ((1 : Int32) <<< ((f8_10 p0.toNatClampNeg) &&& 31))) ||| ((1 : Int32) <<< ((8 + (f8_9 p0.toNatClampNeg)) &&& 31)))), (0, .ref o8), (1, .int p0)]) hx hb dX8_reads_117 rfl hl (by decide) rfl (fun ls hl => ?_)
                refine W.eq (g2 := F0 m 118 ls []) rfl ?_
                refine lv_iload_n hx hb dX8_reads_118 rfl (lv_at hl 0 rfl) ?_
                have hP9 := h.2.1.sub [0, 1, 2, 3, 4] rfl
                have hD9 := h.2.2.1.sub (ws' := [(o8, .inr (8, [.ref a8_0, .ref a8_1, .ref a8_2, .ref a8_3, .ref a8_4, .ref a8_5, .int v8_6, .ref a8_7, .ref a8_8, .ref a8_9, .ref a8_10, .ref a8_11, .int v8_12, .ref a8_13, .ref a8_14, .ref a8_15, .ref a8_16, .ref a8_17, .ref a8_18, .ref a8_19, .ref a8_20, .ref a8_21, .ref a8_22, .ref a8_23, .ref a8_24, .int v8_25, .int v8_26, .ref a8_27, .ref a8_28, .ref a8_29, .ref a8_30, .ref a8_31, .int v8_32, .int v8_33, .int v8_34, .int v8_35, .ref a8_36, .ref a8_37, .int v8_38, .int v8_39, .int v8_40, .ref a8_41, .ref a8_42, .int v8_43])), (a8_7, .inl (c8_7, 120, .inl f8_7)), (a8_8, .inl (c8_8, 120, .inl f8_8)), (a8_9, .inl (c8_9, 120, .inl f8_9)), (a8_10, .inl (c8_10, 120, .inl f8_10))]) [0, 1, 2, 3, 4] (by decide) rfl
                exact W.iret (v := (((0 : Int32) ||| ((1 : Int32) <<< ((f8_9 p0.toNatClampNeg) &&& 31))) ||| ((1 : Int32) <<< ((f8_10 p0.toNatClampNeg) &&& 31))) ||| ((1 : Int32) <<< ((8 + (f8_9 p0.toNatClampNeg)) &&& 31))) hx hb hr (fun t ht hW => ⟨⟨(((0 : Int32) ||| ((1 : Int32) <<< ((f8_9 p0.toNatClampNeg) &&& 31))) ||| ((1 : Int32) <<< ((f8_10 p0.toNatClampNeg) &&& 31))) ||| ((1 : Int32) <<< ((8 + (f8_9 p0.toNatClampNeg)) &&& 31)), (), rfl, trivial, (by rw [ht]; exact hP9), hD9⟩, h.2.2.2.1.F ht⟩) h.2.2.2.1.2.2 dX8_reads_119 hlocks
            · skip
              have i_57 : (f8_7 p0.toNatClampNeg).toInt = 7 := (fa_eq _ _).mp c_57
              refine lv_iload_n hx hb dX8_reads_87 rfl (lv_at hl 0 rfl) ?_
              refine lv_sipush (v := 1024) hx hb dX8_reads_88 (by decide) ?_
              refine lv_ior hx hb dX8_reads_91 ?_
              refine lv_istore_n (lv' := [(2, .int ((((0 : Int32) ||| ((1 : Int32) <<< ((f8_9 p0.toNatClampNeg) &&& 31))) ||| ((1 : Int32) <<< ((f8_10 p0.toNatClampNeg) &&& 31))) ||| (1024 : Int32))), (0, .ref o8), (1, .int p0)]) hx hb dX8_reads_92 rfl hl (by decide) rfl (fun ls hl => ?_)
              refine lv_aload_n hx hb dX8_reads_93 rfl (lv_at hl 1 rfl) ?_
              refine k_get (v := .ref a8_7) E h (fun w h => List.mem_cons_of_mem _ (List.mem_append_right _ h)) 0 rfl rfl 7 (by decide) (List.mem_of_getElem? (i := 1) rfl) rfl dX8_reads_94 ?_
              refine lv_iload_n hx hb dX8_reads_97 rfl (lv_at hl 2 rfl) ?_
              refine k_iald (v := f8_7 p0.toNatClampNeg) E h 1 0 rfl rfl (vp_in_iff.mpr (by omega)) rfl dX8_reads_98 ?_
              refine lv_bipush (v := 9) hx hb dX8_reads_99 (by decide) ?_
              refine lv_icmp_lt (tgt := 118) hx hb dX8_reads_101 (by decide) (fun c_59 => ?_) (fun c_59 => ?_)
              · skip
                have i_59 : (f8_7 p0.toNatClampNeg).toInt < 9 := (fa_lt _ _).mp c_59
                refine lv_iload_n hx hb dX8_reads_118 rfl (lv_at hl 0 rfl) ?_
                have hP9 := h.2.1.sub [0, 1, 2, 3, 4] rfl
                have hD9 := h.2.2.1.sub (ws' := [(o8, .inr (8, [.ref a8_0, .ref a8_1, .ref a8_2, .ref a8_3, .ref a8_4, .ref a8_5, .int v8_6, .ref a8_7, .ref a8_8, .ref a8_9, .ref a8_10, .ref a8_11, .int v8_12, .ref a8_13, .ref a8_14, .ref a8_15, .ref a8_16, .ref a8_17, .ref a8_18, .ref a8_19, .ref a8_20, .ref a8_21, .ref a8_22, .ref a8_23, .ref a8_24, .int v8_25, .int v8_26, .ref a8_27, .ref a8_28, .ref a8_29, .ref a8_30, .ref a8_31, .int v8_32, .int v8_33, .int v8_34, .int v8_35, .ref a8_36, .ref a8_37, .int v8_38, .int v8_39, .int v8_40, .ref a8_41, .ref a8_42, .int v8_43])), (a8_7, .inl (c8_7, 120, .inl f8_7)), (a8_8, .inl (c8_8, 120, .inl f8_8)), (a8_9, .inl (c8_9, 120, .inl f8_9)), (a8_10, .inl (c8_10, 120, .inl f8_10))]) [0, 1, 2, 3, 4] (by decide) rfl
                exact W.iret (v := (((0 : Int32) ||| ((1 : Int32) <<< ((f8_9 p0.toNatClampNeg) &&& 31))) ||| ((1 : Int32) <<< ((f8_10 p0.toNatClampNeg) &&& 31))) ||| (1024 : Int32)) hx hb hr (fun t ht hW => ⟨⟨(((0 : Int32) ||| ((1 : Int32) <<< ((f8_9 p0.toNatClampNeg) &&& 31))) ||| ((1 : Int32) <<< ((f8_10 p0.toNatClampNeg) &&& 31))) ||| (1024 : Int32), (), rfl, trivial, (by rw [ht]; exact hP9), hD9⟩, h.2.2.2.1.F ht⟩) h.2.2.2.1.2.2 dX8_reads_119 hlocks
              · skip
                have i_59 : ¬ (f8_7 p0.toNatClampNeg).toInt < 9 := fun h9 => c_59 ((fa_lt _ _).mpr h9)
                refine lv_iload_n hx hb dX8_reads_104 rfl (lv_at hl 0 rfl) ?_
                refine lv_iconst (v := 1) hx hb dX8_reads_105 (by decide) ?_
                refine lv_bipush (v := 8) hx hb dX8_reads_106 (by decide) ?_
                refine lv_aload_n hx hb dX8_reads_108 rfl (lv_at hl 1 rfl) ?_
                refine k_get (v := .ref a8_9) E h (fun w h => List.mem_cons_of_mem _ (List.mem_append_right _ h)) 0 rfl rfl 9 (by decide) (List.mem_of_getElem? (i := 2) rfl) rfl dX8_reads_109 ?_
                refine lv_iload_n hx hb dX8_reads_112 rfl (lv_at hl 2 rfl) ?_
                refine k_iald (v := f8_9 p0.toNatClampNeg) E h 3 2 rfl rfl (vp_in_iff.mpr (by omega)) rfl dX8_reads_113 ?_
                refine lv_iadd hx hb dX8_reads_114 ?_
                refine lv_ishl hx hb dX8_reads_115 ?_
                refine lv_ior hx hb dX8_reads_116 ?_
                refine lv_istore_n (lv' := [(2, .int (((((0 : Int32) ||| ((1 : Int32) <<< ((f8_9 p0.toNatClampNeg) &&& 31))) ||| ((1 : Int32) <<< ((f8_10 p0.toNatClampNeg) &&& 31))) ||| (1024 : Int32)) ||| ((1 : Int32) <<< ((8 + (f8_9 p0.toNatClampNeg)) &&& 31)))), (0, .ref o8), (1, .int p0)]) hx hb dX8_reads_117 rfl hl (by decide) rfl (fun ls hl => ?_)
                refine W.eq (g2 := F0 m 118 ls []) rfl ?_
                refine lv_iload_n hx hb dX8_reads_118 rfl (lv_at hl 0 rfl) ?_
                have hP9 := h.2.1.sub [0, 1, 2, 3, 4] rfl
                have hD9 := h.2.2.1.sub (ws' := [(o8, .inr (8, [.ref a8_0, .ref a8_1, .ref a8_2, .ref a8_3, .ref a8_4, .ref a8_5, .int v8_6, .ref a8_7, .ref a8_8, .ref a8_9, .ref a8_10, .ref a8_11, .int v8_12, .ref a8_13, .ref a8_14, .ref a8_15, .ref a8_16, .ref a8_17, .ref a8_18, .ref a8_19, .ref a8_20, .ref a8_21, .ref a8_22, .ref a8_23, .ref a8_24, .int v8_25, .int v8_26, .ref a8_27, .ref a8_28, .ref a8_29, .ref a8_30, .ref a8_31, .int v8_32, .int v8_33, .int v8_34, .int v8_35, .ref a8_36, .ref a8_37, .int v8_38, .int v8_39, .int v8_40, .ref a8_41, .ref a8_42, .int v8_43])), (a8_7, .inl (c8_7, 120, .inl f8_7)), (a8_8, .inl (c8_8, 120, .inl f8_8)), (a8_9, .inl (c8_9, 120, .inl f8_9)), (a8_10, .inl (c8_10, 120, .inl f8_10))]) [0, 1, 2, 3, 4] (by decide) rfl
                exact W.iret (v := ((((0 : Int32) ||| ((1 : Int32) <<< ((f8_9 p0.toNatClampNeg) &&& 31))) ||| ((1 : Int32) <<< ((f8_10 p0.toNatClampNeg) &&& 31))) ||| (1024 : Int32)) ||| ((1 : Int32) <<< ((8 + (f8_9 p0.toNatClampNeg)) &&& 31))) hx hb hr (fun t ht hW => ⟨⟨((((0 : Int32) ||| ((1 : Int32) <<< ((f8_9 p0.toNatClampNeg) &&& 31))) ||| ((1 : Int32) <<< ((f8_10 p0.toNatClampNeg) &&& 31))) ||| (1024 : Int32)) ||| ((1 : Int32) <<< ((8 + (f8_9 p0.toNatClampNeg)) &&& 31)), (), rfl, trivial, (by rw [ht]; exact hP9), hD9⟩, h.2.2.2.1.F ht⟩) h.2.2.2.1.2.2 dX8_reads_119 hlocks
set_option maxHeartbeats 4000000 in
set_option maxRecDepth 100000 in
theorem c_X8_writes (l : Launch) (dC : Nat → ClassId) (dI : Nat → Nat → Nat) (sz : Nat) (o8 : Nat) (a8_0 : Nat) (a8_1 : Nat) (a8_2 : Nat) (a8_3 : Nat) (a8_4 : Nat) (a8_5 : Nat) (v8_6 : Int32) (a8_7 : Nat) (a8_8 : Nat) (a8_9 : Nat) (a8_10 : Nat) (a8_11 : Nat) (v8_12 : Int32) (a8_13 : Nat) (a8_14 : Nat) (a8_15 : Nat) (a8_16 : Nat) (a8_17 : Nat) (a8_18 : Nat) (a8_19 : Nat) (a8_20 : Nat) (a8_21 : Nat) (a8_22 : Nat) (a8_23 : Nat) (a8_24 : Nat) (v8_25 : Int32) (v8_26 : Int32) (a8_27 : Nat) (a8_28 : Nat) (a8_29 : Nat) (a8_30 : Nat) (a8_31 : Nat) (v8_32 : Int32) (v8_33 : Int32) (v8_34 : Int32) (v8_35 : Int32) (a8_36 : Nat) (a8_37 : Nat) (v8_38 : Int32) (v8_39 : Int32) (v8_40 : Int32) (a8_41 : Nat) (a8_42 : Nat) (v8_43 : Int32) (c8_7 : ClassId) (f8_7 : Nat → Int32) (c8_8 : ClassId) (f8_8 : Nat → Int32) (c8_9 : ClassId) (f8_9 : Nat → Int32) (c8_10 : ClassId) (f8_10 : Nat → Int32) (p0 : Int32) (hp : 0 ≤ p0.toInt ∧ p0.toInt < 120) : Met l yX8_writes wsX8_writes ({ frames := 1, cells := 0, slots := 0, locals := 20 } : Room) (va_Pc [.ref o8, .int p0] (KPre (dC, dI) [(o8, .inr (8, [.ref a8_0, .ref a8_1, .ref a8_2, .ref a8_3, .ref a8_4, .ref a8_5, .int v8_6, .ref a8_7, .ref a8_8, .ref a8_9, .ref a8_10, .ref a8_11, .int v8_12, .ref a8_13, .ref a8_14, .ref a8_15, .ref a8_16, .ref a8_17, .ref a8_18, .ref a8_19, .ref a8_20, .ref a8_21, .ref a8_22, .ref a8_23, .ref a8_24, .int v8_25, .int v8_26, .ref a8_27, .ref a8_28, .ref a8_29, .ref a8_30, .ref a8_31, .int v8_32, .int v8_33, .int v8_34, .int v8_35, .ref a8_36, .ref a8_37, .int v8_38, .int v8_39, .int v8_40, .ref a8_41, .ref a8_42, .int v8_43])), (a8_7, .inl (c8_7, 120, .inl f8_7)), (a8_8, .inl (c8_8, 120, .inl f8_8)), (a8_9, .inl (c8_9, 120, .inl f8_9)), (a8_10, .inl (c8_10, 120, .inl f8_10))] [(c8_7, .int), (c8_8, .int), (c8_9, .int), (c8_10, .int)] sz (fun _ => True))) (va_Qi (fun (r : Int32) (u : Unit) => True) (KPost (dC, dI) (va_A [(o8, .inr (8, [.ref a8_0, .ref a8_1, .ref a8_2, .ref a8_3, .ref a8_4, .ref a8_5, .int v8_6, .ref a8_7, .ref a8_8, .ref a8_9, .ref a8_10, .ref a8_11, .int v8_12, .ref a8_13, .ref a8_14, .ref a8_15, .ref a8_16, .ref a8_17, .ref a8_18, .ref a8_19, .ref a8_20, .ref a8_21, .ref a8_22, .ref a8_23, .ref a8_24, .int v8_25, .int v8_26, .ref a8_27, .ref a8_28, .ref a8_29, .ref a8_30, .ref a8_31, .int v8_32, .int v8_33, .int v8_34, .int v8_35, .ref a8_36, .ref a8_37, .int v8_38, .int v8_39, .int v8_40, .ref a8_41, .ref a8_42, .int v8_43])), (a8_7, .inl (c8_7, 120, .inl f8_7)), (a8_8, .inl (c8_8, 120, .inl f8_8)), (a8_9, .inl (c8_9, 120, .inl f8_9)), (a8_10, .inl (c8_10, 120, .inl f8_10))] sz) (fun (u : Unit) => [(o8, .inr (8, [.ref a8_0, .ref a8_1, .ref a8_2, .ref a8_3, .ref a8_4, .ref a8_5, .int v8_6, .ref a8_7, .ref a8_8, .ref a8_9, .ref a8_10, .ref a8_11, .int v8_12, .ref a8_13, .ref a8_14, .ref a8_15, .ref a8_16, .ref a8_17, .ref a8_18, .ref a8_19, .ref a8_20, .ref a8_21, .ref a8_22, .ref a8_23, .ref a8_24, .int v8_25, .int v8_26, .ref a8_27, .ref a8_28, .ref a8_29, .ref a8_30, .ref a8_31, .int v8_32, .int v8_33, .int v8_34, .int v8_35, .ref a8_36, .ref a8_37, .int v8_38, .int v8_39, .int v8_40, .ref a8_41, .ref a8_42, .int v8_43])), (a8_7, .inl (c8_7, 120, .inl f8_7)), (a8_8, .inl (c8_8, 120, .inl f8_8)), (a8_9, .inl (c8_9, 120, .inl f8_9)), (a8_10, .inl (c8_10, 120, .inl f8_10))])) (va_A [(o8, .inr (8, [.ref a8_0, .ref a8_1, .ref a8_2, .ref a8_3, .ref a8_4, .ref a8_5, .int v8_6, .ref a8_7, .ref a8_8, .ref a8_9, .ref a8_10, .ref a8_11, .int v8_12, .ref a8_13, .ref a8_14, .ref a8_15, .ref a8_16, .ref a8_17, .ref a8_18, .ref a8_19, .ref a8_20, .ref a8_21, .ref a8_22, .ref a8_23, .ref a8_24, .int v8_25, .int v8_26, .ref a8_27, .ref a8_28, .ref a8_29, .ref a8_30, .ref a8_31, .int v8_32, .int v8_33, .int v8_34, .int v8_35, .ref a8_36, .ref a8_37, .int v8_38, .int v8_39, .int v8_40, .ref a8_41, .ref a8_42, .int v8_43])), (a8_7, .inl (c8_7, 120, .inl f8_7)), (a8_8, .inl (c8_8, 120, .inl f8_8)), (a8_9, .inl (c8_9, 120, .inl f8_9)), (a8_10, .inl (c8_10, 120, .inl f8_10))] sz)) 0 0 (va_A [(o8, .inr (8, [.ref a8_0, .ref a8_1, .ref a8_2, .ref a8_3, .ref a8_4, .ref a8_5, .int v8_6, .ref a8_7, .ref a8_8, .ref a8_9, .ref a8_10, .ref a8_11, .int v8_12, .ref a8_13, .ref a8_14, .ref a8_15, .ref a8_16, .ref a8_17, .ref a8_18, .ref a8_19, .ref a8_20, .ref a8_21, .ref a8_22, .ref a8_23, .ref a8_24, .int v8_25, .int v8_26, .ref a8_27, .ref a8_28, .ref a8_29, .ref a8_30, .ref a8_31, .int v8_32, .int v8_33, .int v8_34, .int v8_35, .ref a8_36, .ref a8_37, .int v8_38, .int v8_39, .int v8_40, .ref a8_41, .ref a8_42, .int v8_43])), (a8_7, .inl (c8_7, 120, .inl f8_7)), (a8_8, .inl (c8_8, 120, .inl f8_8)), (a8_9, .inl (c8_9, 120, .inl f8_9)), (a8_10, .inl (c8_10, 120, .inl f8_10))] sz) := by
  refine kMet (y := yX8_writes) (wsM := wsX8_writes) (cc := cX8_writes) (maxL := 3) (ret := (some .int)) (rm := ({ frames := 1, cells := 0, slots := 0, locals := 20 } : Room)) (mc := 0) (ms := 0) (av := [.ref o8, .int p0]) (D := (dC, dI)) (wc := [(o8, .inr (8, [.ref a8_0, .ref a8_1, .ref a8_2, .ref a8_3, .ref a8_4, .ref a8_5, .int v8_6, .ref a8_7, .ref a8_8, .ref a8_9, .ref a8_10, .ref a8_11, .int v8_12, .ref a8_13, .ref a8_14, .ref a8_15, .ref a8_16, .ref a8_17, .ref a8_18, .ref a8_19, .ref a8_20, .ref a8_21, .ref a8_22, .ref a8_23, .ref a8_24, .int v8_25, .int v8_26, .ref a8_27, .ref a8_28, .ref a8_29, .ref a8_30, .ref a8_31, .int v8_32, .int v8_33, .int v8_34, .int v8_35, .ref a8_36, .ref a8_37, .int v8_38, .int v8_39, .int v8_40, .ref a8_41, .ref a8_42, .int v8_43])), (a8_7, .inl (c8_7, 120, .inl f8_7)), (a8_8, .inl (c8_8, 120, .inl f8_8)), (a8_9, .inl (c8_9, 120, .inl f8_9)), (a8_10, .inl (c8_10, 120, .inl f8_10))]) (tc := [(c8_7, .int), (c8_8, .int), (c8_9, .int), (c8_10, .int)]) (sz := sz) (X := fun _ => True) (Qc := fun A => va_Qi (fun (r : Int32) (u : Unit) => True) (KPost (dC, dI) A (fun (u : Unit) => [(o8, .inr (8, [.ref a8_0, .ref a8_1, .ref a8_2, .ref a8_3, .ref a8_4, .ref a8_5, .int v8_6, .ref a8_7, .ref a8_8, .ref a8_9, .ref a8_10, .ref a8_11, .int v8_12, .ref a8_13, .ref a8_14, .ref a8_15, .ref a8_16, .ref a8_17, .ref a8_18, .ref a8_19, .ref a8_20, .ref a8_21, .ref a8_22, .ref a8_23, .ref a8_24, .int v8_25, .int v8_26, .ref a8_27, .ref a8_28, .ref a8_29, .ref a8_30, .ref a8_31, .int v8_32, .int v8_33, .int v8_34, .int v8_35, .ref a8_36, .ref a8_37, .int v8_38, .int v8_39, .int v8_40, .ref a8_41, .ref a8_42, .int v8_43])), (a8_7, .inl (c8_7, 120, .inl f8_7)), (a8_8, .inl (c8_8, 120, .inl f8_8)), (a8_9, .inl (c8_9, 120, .inl f8_9)), (a8_10, .inl (c8_10, 120, .inl f8_10))])) A) (by decide) rfl (Nat.le_of_ble_eq_true rfl) ?_
  intro p e s m below meth c A ls E hr hlocks hnm hsz hAe hX h hl
  have hx := E.1
  have hb := E.2.1
  have hl : lv_has ls 3 [(0, .ref o8), (1, .int p0)] := hl
  refine lv_aload_n hx hb dX8_writes_0 rfl (lv_at hl 0 rfl) ?_
  refine k_get (v := .ref a8_7) E h (fun w h => List.mem_cons_of_mem _ (List.mem_append_right _ h)) 0 rfl rfl 7 (by decide) (List.mem_of_getElem? (i := 1) rfl) rfl dX8_writes_1 ?_
  refine lv_iload_n hx hb dX8_writes_4 rfl (lv_at hl 1 rfl) ?_
  refine k_iald (v := f8_7 p0.toNatClampNeg) E h 1 0 rfl rfl (vp_in_iff.mpr (by omega)) rfl dX8_writes_5 ?_
  refine kc_i (wc := []) (wr := [(o8, .inr (8, [.ref a8_0, .ref a8_1, .ref a8_2, .ref a8_3, .ref a8_4, .ref a8_5, .int v8_6, .ref a8_7, .ref a8_8, .ref a8_9, .ref a8_10, .ref a8_11, .int v8_12, .ref a8_13, .ref a8_14, .ref a8_15, .ref a8_16, .ref a8_17, .ref a8_18, .ref a8_19, .ref a8_20, .ref a8_21, .ref a8_22, .ref a8_23, .ref a8_24, .int v8_25, .int v8_26, .ref a8_27, .ref a8_28, .ref a8_29, .ref a8_30, .ref a8_31, .int v8_32, .int v8_33, .int v8_34, .int v8_35, .ref a8_36, .ref a8_37, .int v8_38, .int v8_39, .int v8_40, .ref a8_41, .ref a8_42, .int v8_43])), (a8_7, .inl (c8_7, 120, .inl f8_7)), (a8_8, .inl (c8_8, 120, .inl f8_8)), (a8_9, .inl (c8_9, 120, .inl f8_9)), (a8_10, .inl (c8_10, 120, .inl f8_10))]) h (va_runS (As := [.int (f8_7 p0.toNatClampNeg)]) (rest := []) E (c_X8_hasD l dC dI _ (p0 := f8_7 p0.toNatClampNeg)  ) (va_cwS 1 E.2.2.2.2 gX8_writes_X8_hasD rfl rfl rfl (by decide +kernel) ⟨Nat.le_of_ble_eq_true rfl, Nat.le_of_ble_eq_true rfl⟩) (kPreS h KX_true (fun _ _ _ => trivial) [] [] (by decide) rfl rfl) rfl rfl hl.1 rfl (lv_room (Nat.le_of_ble_eq_true rfl)) dX8_writes_6 ⟨Nat.le_of_ble_eq_true rfl, Nat.le_of_ble_eq_true rfl⟩) [] [0, 1, 2, 3, 4] rfl rfl (by decide) (by decide) (fun r_1 u_1 H locs hw_1 h => ?_)
  have h : KS (dC, dI) A [(o8, .inr (8, [.ref a8_0, .ref a8_1, .ref a8_2, .ref a8_3, .ref a8_4, .ref a8_5, .int v8_6, .ref a8_7, .ref a8_8, .ref a8_9, .ref a8_10, .ref a8_11, .int v8_12, .ref a8_13, .ref a8_14, .ref a8_15, .ref a8_16, .ref a8_17, .ref a8_18, .ref a8_19, .ref a8_20, .ref a8_21, .ref a8_22, .ref a8_23, .ref a8_24, .int v8_25, .int v8_26, .ref a8_27, .ref a8_28, .ref a8_29, .ref a8_30, .ref a8_31, .int v8_32, .int v8_33, .int v8_34, .int v8_35, .ref a8_36, .ref a8_37, .int v8_38, .int v8_39, .int v8_40, .ref a8_41, .ref a8_42, .int v8_43])), (a8_7, .inl (c8_7, 120, .inl f8_7)), (a8_8, .inl (c8_8, 120, .inl f8_8)), (a8_9, .inl (c8_9, 120, .inl f8_9)), (a8_10, .inl (c8_10, 120, .inl f8_10))] [(c8_7, .int), (c8_8, .int), (c8_9, .int), (c8_10, .int)] s H locs := h
  have hw_1 : r_1 = if (f8_7 p0.toNatClampNeg).toInt ≤ 7 then 1 else 0 := by first | exact hw_1 | (simp only [Int32.toInt_toInt64] at hw_1; exact hw_1)
  refine W.eq (g2 := F0 m 9 ls [.int r_1]) rfl ?_
  refine lv_if_eq (tgt := 23) hx hb dX8_writes_9 (by decide) (fun c_2 => ?_) (fun c_2 => ?_)
  · skip
    have b_2 := kb0 hw_1 c_2
    refine lv_iconst (v := 0) hx hb dX8_writes_23 (by decide) ?_
    refine lv_istore_n (lv' := [(2, .int 0), (0, .ref o8), (1, .int p0)]) hx hb dX8_writes_24 rfl hl (by decide) rfl (fun ls hl => ?_)
    refine lv_aload_n hx hb dX8_writes_25 rfl (lv_at hl 1 rfl) ?_
    refine k_get (v := .ref a8_7) E h (fun w h => List.mem_cons_of_mem _ (List.mem_append_right _ h)) 0 rfl rfl 7 (by decide) (List.mem_of_getElem? (i := 1) rfl) rfl dX8_writes_26 ?_
    refine lv_iload_n hx hb dX8_writes_29 rfl (lv_at hl 2 rfl) ?_
    refine k_iald (v := f8_7 p0.toNatClampNeg) E h 1 0 rfl rfl (vp_in_iff.mpr (by omega)) rfl dX8_writes_30 ?_
    refine lv_iconst (v := 2) hx hb dX8_writes_31 (by decide) ?_
    refine lv_icmp_lt (tgt := 51) hx hb dX8_writes_32 (by decide) (fun c_3 => ?_) (fun c_3 => ?_)
    · skip
      have i_3 : (f8_7 p0.toNatClampNeg).toInt < 2 := (fa_lt _ _).mp c_3
      refine lv_aload_n hx hb dX8_writes_51 rfl (lv_at hl 1 rfl) ?_
      refine k_get (v := .ref a8_7) E h (fun w h => List.mem_cons_of_mem _ (List.mem_append_right _ h)) 0 rfl rfl 7 (by decide) (List.mem_of_getElem? (i := 1) rfl) rfl dX8_writes_52 ?_
      refine lv_iload_n hx hb dX8_writes_55 rfl (lv_at hl 2 rfl) ?_
      refine k_iald (v := f8_7 p0.toNatClampNeg) E h 1 0 rfl rfl (vp_in_iff.mpr (by omega)) rfl dX8_writes_56 ?_
      refine lv_bipush (v := 8) hx hb dX8_writes_57 (by decide) ?_
      refine lv_icmp_ne (tgt := 68) hx hb dX8_writes_59 (by decide) (fun c_4 => ?_) (fun c_4 => ?_)
      · skip
        have i_4 : ¬ (f8_7 p0.toNatClampNeg).toInt = 8 := fun h9 => c_4 ((fa_eq _ _).mpr h9)
        refine lv_iload_n hx hb dX8_writes_68 rfl (lv_at hl 0 rfl) ?_
        have hP9 := h.2.1.sub [0, 1, 2, 3, 4] rfl
        have hD9 := h.2.2.1.sub (ws' := [(o8, .inr (8, [.ref a8_0, .ref a8_1, .ref a8_2, .ref a8_3, .ref a8_4, .ref a8_5, .int v8_6, .ref a8_7, .ref a8_8, .ref a8_9, .ref a8_10, .ref a8_11, .int v8_12, .ref a8_13, .ref a8_14, .ref a8_15, .ref a8_16, .ref a8_17, .ref a8_18, .ref a8_19, .ref a8_20, .ref a8_21, .ref a8_22, .ref a8_23, .ref a8_24, .int v8_25, .int v8_26, .ref a8_27, .ref a8_28, .ref a8_29, .ref a8_30, .ref a8_31, .int v8_32, .int v8_33, .int v8_34, .int v8_35, .ref a8_36, .ref a8_37, .int v8_38, .int v8_39, .int v8_40, .ref a8_41, .ref a8_42, .int v8_43])), (a8_7, .inl (c8_7, 120, .inl f8_7)), (a8_8, .inl (c8_8, 120, .inl f8_8)), (a8_9, .inl (c8_9, 120, .inl f8_9)), (a8_10, .inl (c8_10, 120, .inl f8_10))]) [0, 1, 2, 3, 4] (by decide) rfl
        exact W.iret (v := 0) hx hb hr (fun t ht hW => ⟨⟨0, (), rfl, trivial, (by rw [ht]; exact hP9), hD9⟩, h.2.2.2.1.F ht⟩) h.2.2.2.1.2.2 dX8_writes_69 hlocks
      · skip
        have i_4 : (f8_7 p0.toNatClampNeg).toInt = 8 := (fa_eq _ _).mp c_4
        refine lv_iload_n hx hb dX8_writes_62 rfl (lv_at hl 0 rfl) ?_
        refine lv_sipush (v := 1024) hx hb dX8_writes_63 (by decide) ?_
        refine lv_ior hx hb dX8_writes_66 ?_
        refine k_topi (y := 1024) (by decide) ?_
        refine lv_istore_n (lv' := [(2, .int 1024), (0, .ref o8), (1, .int p0)]) hx hb dX8_writes_67 rfl hl (by decide) rfl (fun ls hl => ?_)
        refine lv_iload_n hx hb dX8_writes_68 rfl (lv_at hl 0 rfl) ?_
        have hP9 := h.2.1.sub [0, 1, 2, 3, 4] rfl
        have hD9 := h.2.2.1.sub (ws' := [(o8, .inr (8, [.ref a8_0, .ref a8_1, .ref a8_2, .ref a8_3, .ref a8_4, .ref a8_5, .int v8_6, .ref a8_7, .ref a8_8, .ref a8_9, .ref a8_10, .ref a8_11, .int v8_12, .ref a8_13, .ref a8_14, .ref a8_15, .ref a8_16, .ref a8_17, .ref a8_18, .ref a8_19, .ref a8_20, .ref a8_21, .ref a8_22, .ref a8_23, .ref a8_24, .int v8_25, .int v8_26, .ref a8_27, .ref a8_28, .ref a8_29, .ref a8_30, .ref a8_31, .int v8_32, .int v8_33, .int v8_34, .int v8_35, .ref a8_36, .ref a8_37, .int v8_38, .int v8_39, .int v8_40, .ref a8_41, .ref a8_42, .int v8_43])), (a8_7, .inl (c8_7, 120, .inl f8_7)), (a8_8, .inl (c8_8, 120, .inl f8_8)), (a8_9, .inl (c8_9, 120, .inl f8_9)), (a8_10, .inl (c8_10, 120, .inl f8_10))]) [0, 1, 2, 3, 4] (by decide) rfl
        exact W.iret (v := 1024) hx hb hr (fun t ht hW => ⟨⟨1024, (), rfl, trivial, (by rw [ht]; exact hP9), hD9⟩, h.2.2.2.1.F ht⟩) h.2.2.2.1.2.2 dX8_writes_69 hlocks
    · skip
      have i_3 : ¬ (f8_7 p0.toNatClampNeg).toInt < 2 := fun h9 => c_3 ((fa_lt _ _).mpr h9)
      refine lv_aload_n hx hb dX8_writes_35 rfl (lv_at hl 1 rfl) ?_
      refine k_get (v := .ref a8_7) E h (fun w h => List.mem_cons_of_mem _ (List.mem_append_right _ h)) 0 rfl rfl 7 (by decide) (List.mem_of_getElem? (i := 1) rfl) rfl dX8_writes_36 ?_
      refine lv_iload_n hx hb dX8_writes_39 rfl (lv_at hl 2 rfl) ?_
      refine k_iald (v := f8_7 p0.toNatClampNeg) E h 1 0 rfl rfl (vp_in_iff.mpr (by omega)) rfl dX8_writes_40 ?_
      refine lv_iconst (v := 5) hx hb dX8_writes_41 (by decide) ?_
      refine lv_icmp_gt (tgt := 51) hx hb dX8_writes_42 (by decide) (fun c_5 => ?_) (fun c_5 => ?_)
      · skip
        have i_5 : 5 < (f8_7 p0.toNatClampNeg).toInt := (fa_lt _ _).mp c_5
        refine lv_aload_n hx hb dX8_writes_51 rfl (lv_at hl 1 rfl) ?_
        refine k_get (v := .ref a8_7) E h (fun w h => List.mem_cons_of_mem _ (List.mem_append_right _ h)) 0 rfl rfl 7 (by decide) (List.mem_of_getElem? (i := 1) rfl) rfl dX8_writes_52 ?_
        refine lv_iload_n hx hb dX8_writes_55 rfl (lv_at hl 2 rfl) ?_
        refine k_iald (v := f8_7 p0.toNatClampNeg) E h 1 0 rfl rfl (vp_in_iff.mpr (by omega)) rfl dX8_writes_56 ?_
        refine lv_bipush (v := 8) hx hb dX8_writes_57 (by decide) ?_
        refine lv_icmp_ne (tgt := 68) hx hb dX8_writes_59 (by decide) (fun c_6 => ?_) (fun c_6 => ?_)
        · skip
          have i_6 : ¬ (f8_7 p0.toNatClampNeg).toInt = 8 := fun h9 => c_6 ((fa_eq _ _).mpr h9)
          refine lv_iload_n hx hb dX8_writes_68 rfl (lv_at hl 0 rfl) ?_
          have hP9 := h.2.1.sub [0, 1, 2, 3, 4] rfl
          have hD9 := h.2.2.1.sub (ws' := [(o8, .inr (8, [.ref a8_0, .ref a8_1, .ref a8_2, .ref a8_3, .ref a8_4, .ref a8_5, .int v8_6, .ref a8_7, .ref a8_8, .ref a8_9, .ref a8_10, .ref a8_11, .int v8_12, .ref a8_13, .ref a8_14, .ref a8_15, .ref a8_16, .ref a8_17, .ref a8_18, .ref a8_19, .ref a8_20, .ref a8_21, .ref a8_22, .ref a8_23, .ref a8_24, .int v8_25, .int v8_26, .ref a8_27, .ref a8_28, .ref a8_29, .ref a8_30, .ref a8_31, .int v8_32, .int v8_33, .int v8_34, .int v8_35, .ref a8_36, .ref a8_37, .int v8_38, .int v8_39, .int v8_40, .ref a8_41, .ref a8_42, .int v8_43])), (a8_7, .inl (c8_7, 120, .inl f8_7)), (a8_8, .inl (c8_8, 120, .inl f8_8)), (a8_9, .inl (c8_9, 120, .inl f8_9)), (a8_10, .inl (c8_10, 120, .inl f8_10))]) [0, 1, 2, 3, 4] (by decide) rfl
          exact W.iret (v := 0) hx hb hr (fun t ht hW => ⟨⟨0, (), rfl, trivial, (by rw [ht]; exact hP9), hD9⟩, h.2.2.2.1.F ht⟩) h.2.2.2.1.2.2 dX8_writes_69 hlocks
        · skip
          have i_6 : (f8_7 p0.toNatClampNeg).toInt = 8 := (fa_eq _ _).mp c_6
          refine lv_iload_n hx hb dX8_writes_62 rfl (lv_at hl 0 rfl) ?_
          refine lv_sipush (v := 1024) hx hb dX8_writes_63 (by decide) ?_
          refine lv_ior hx hb dX8_writes_66 ?_
          refine k_topi (y := 1024) (by decide) ?_
          refine lv_istore_n (lv' := [(2, .int 1024), (0, .ref o8), (1, .int p0)]) hx hb dX8_writes_67 rfl hl (by decide) rfl (fun ls hl => ?_)
          refine lv_iload_n hx hb dX8_writes_68 rfl (lv_at hl 0 rfl) ?_
          have hP9 := h.2.1.sub [0, 1, 2, 3, 4] rfl
          have hD9 := h.2.2.1.sub (ws' := [(o8, .inr (8, [.ref a8_0, .ref a8_1, .ref a8_2, .ref a8_3, .ref a8_4, .ref a8_5, .int v8_6, .ref a8_7, .ref a8_8, .ref a8_9, .ref a8_10, .ref a8_11, .int v8_12, .ref a8_13, .ref a8_14, .ref a8_15, .ref a8_16, .ref a8_17, .ref a8_18, .ref a8_19, .ref a8_20, .ref a8_21, .ref a8_22, .ref a8_23, .ref a8_24, .int v8_25, .int v8_26, .ref a8_27, .ref a8_28, .ref a8_29, .ref a8_30, .ref a8_31, .int v8_32, .int v8_33, .int v8_34, .int v8_35, .ref a8_36, .ref a8_37, .int v8_38, .int v8_39, .int v8_40, .ref a8_41, .ref a8_42, .int v8_43])), (a8_7, .inl (c8_7, 120, .inl f8_7)), (a8_8, .inl (c8_8, 120, .inl f8_8)), (a8_9, .inl (c8_9, 120, .inl f8_9)), (a8_10, .inl (c8_10, 120, .inl f8_10))]) [0, 1, 2, 3, 4] (by decide) rfl
          exact W.iret (v := 1024) hx hb hr (fun t ht hW => ⟨⟨1024, (), rfl, trivial, (by rw [ht]; exact hP9), hD9⟩, h.2.2.2.1.F ht⟩) h.2.2.2.1.2.2 dX8_writes_69 hlocks
      · skip
        have i_5 : ¬ 5 < (f8_7 p0.toNatClampNeg).toInt := fun h9 => c_5 ((fa_lt _ _).mpr h9)
        refine lv_iload_n hx hb dX8_writes_45 rfl (lv_at hl 0 rfl) ?_
        refine lv_sipush (v := 768) hx hb dX8_writes_46 (by decide) ?_
        refine lv_ior hx hb dX8_writes_49 ?_
        refine k_topi (y := 768) (by decide) ?_
        refine lv_istore_n (lv' := [(2, .int 768), (0, .ref o8), (1, .int p0)]) hx hb dX8_writes_50 rfl hl (by decide) rfl (fun ls hl => ?_)
        refine lv_aload_n hx hb dX8_writes_51 rfl (lv_at hl 1 rfl) ?_
        refine k_get (v := .ref a8_7) E h (fun w h => List.mem_cons_of_mem _ (List.mem_append_right _ h)) 0 rfl rfl 7 (by decide) (List.mem_of_getElem? (i := 1) rfl) rfl dX8_writes_52 ?_
        refine lv_iload_n hx hb dX8_writes_55 rfl (lv_at hl 2 rfl) ?_
        refine k_iald (v := f8_7 p0.toNatClampNeg) E h 1 0 rfl rfl (vp_in_iff.mpr (by omega)) rfl dX8_writes_56 ?_
        refine lv_bipush (v := 8) hx hb dX8_writes_57 (by decide) ?_
        refine lv_icmp_ne (tgt := 68) hx hb dX8_writes_59 (by decide) (fun c_7 => ?_) (fun c_7 => ?_)
        · skip
          have i_7 : ¬ (f8_7 p0.toNatClampNeg).toInt = 8 := fun h9 => c_7 ((fa_eq _ _).mpr h9)
          refine lv_iload_n hx hb dX8_writes_68 rfl (lv_at hl 0 rfl) ?_
          have hP9 := h.2.1.sub [0, 1, 2, 3, 4] rfl
          have hD9 := h.2.2.1.sub (ws' := [(o8, .inr (8, [.ref a8_0, .ref a8_1, .ref a8_2, .ref a8_3, .ref a8_4, .ref a8_5, .int v8_6, .ref a8_7, .ref a8_8, .ref a8_9, .ref a8_10, .ref a8_11, .int v8_12, .ref a8_13, .ref a8_14, .ref a8_15, .ref a8_16, .ref a8_17, .ref a8_18, .ref a8_19, .ref a8_20, .ref a8_21, .ref a8_22, .ref a8_23, .ref a8_24, .int v8_25, .int v8_26, .ref a8_27, .ref a8_28, .ref a8_29, .ref a8_30, .ref a8_31, .int v8_32, .int v8_33, .int v8_34, .int v8_35, .ref a8_36, .ref a8_37, .int v8_38, .int v8_39, .int v8_40, .ref a8_41, .ref a8_42, .int v8_43])), (a8_7, .inl (c8_7, 120, .inl f8_7)), (a8_8, .inl (c8_8, 120, .inl f8_8)), (a8_9, .inl (c8_9, 120, .inl f8_9)), (a8_10, .inl (c8_10, 120, .inl f8_10))]) [0, 1, 2, 3, 4] (by decide) rfl
          exact W.iret (v := 768) hx hb hr (fun t ht hW => ⟨⟨768, (), rfl, trivial, (by rw [ht]; exact hP9), hD9⟩, h.2.2.2.1.F ht⟩) h.2.2.2.1.2.2 dX8_writes_69 hlocks
        · skip
          have i_7 : (f8_7 p0.toNatClampNeg).toInt = 8 := (fa_eq _ _).mp c_7
          refine lv_iload_n hx hb dX8_writes_62 rfl (lv_at hl 0 rfl) ?_
          refine lv_sipush (v := 1024) hx hb dX8_writes_63 (by decide) ?_
          refine lv_ior hx hb dX8_writes_66 ?_
          refine k_topi (y := 1792) (by decide) ?_
          refine lv_istore_n (lv' := [(2, .int 1792), (0, .ref o8), (1, .int p0)]) hx hb dX8_writes_67 rfl hl (by decide) rfl (fun ls hl => ?_)
          refine lv_iload_n hx hb dX8_writes_68 rfl (lv_at hl 0 rfl) ?_
          have hP9 := h.2.1.sub [0, 1, 2, 3, 4] rfl
          have hD9 := h.2.2.1.sub (ws' := [(o8, .inr (8, [.ref a8_0, .ref a8_1, .ref a8_2, .ref a8_3, .ref a8_4, .ref a8_5, .int v8_6, .ref a8_7, .ref a8_8, .ref a8_9, .ref a8_10, .ref a8_11, .int v8_12, .ref a8_13, .ref a8_14, .ref a8_15, .ref a8_16, .ref a8_17, .ref a8_18, .ref a8_19, .ref a8_20, .ref a8_21, .ref a8_22, .ref a8_23, .ref a8_24, .int v8_25, .int v8_26, .ref a8_27, .ref a8_28, .ref a8_29, .ref a8_30, .ref a8_31, .int v8_32, .int v8_33, .int v8_34, .int v8_35, .ref a8_36, .ref a8_37, .int v8_38, .int v8_39, .int v8_40, .ref a8_41, .ref a8_42, .int v8_43])), (a8_7, .inl (c8_7, 120, .inl f8_7)), (a8_8, .inl (c8_8, 120, .inl f8_8)), (a8_9, .inl (c8_9, 120, .inl f8_9)), (a8_10, .inl (c8_10, 120, .inl f8_10))]) [0, 1, 2, 3, 4] (by decide) rfl
          exact W.iret (v := 1792) hx hb hr (fun t ht hW => ⟨⟨1792, (), rfl, trivial, (by rw [ht]; exact hP9), hD9⟩, h.2.2.2.1.F ht⟩) h.2.2.2.1.2.2 dX8_writes_69 hlocks
  · skip
    have b_2 := kb1 hw_1 c_2
    refine lv_iconst (v := 1) hx hb dX8_writes_12 (by decide) ?_
    refine lv_aload_n hx hb dX8_writes_13 rfl (lv_at hl 0 rfl) ?_
    refine k_get (v := .ref a8_8) E h (fun w h => List.mem_cons_of_mem _ (List.mem_append_right _ h)) 0 rfl rfl 8 (by decide) (List.mem_of_getElem? (i := 2) rfl) rfl dX8_writes_14 ?_
    refine lv_iload_n hx hb dX8_writes_17 rfl (lv_at hl 1 rfl) ?_
    refine k_iald (v := f8_8 p0.toNatClampNeg) E h 2 1 rfl rfl (vp_in_iff.mpr (by omega)) rfl dX8_writes_18 ?_
    refine lv_ishl hx hb dX8_writes_19 ?_
    refine lv_goto (tgt := 24) hx hb dX8_writes_20 (by decide) ?_
    refine lv_istore_n (lv' := [(2, .int ((1 : Int32) <<< ((f8_8 p0.toNatClampNeg) &&& 31))), (0, .ref o8), (1, .int p0)]) hx hb dX8_writes_24 rfl hl (by decide) rfl (fun ls hl => ?_)
    refine lv_aload_n hx hb dX8_writes_25 rfl (lv_at hl 1 rfl) ?_
    refine k_get (v := .ref a8_7) E h (fun w h => List.mem_cons_of_mem _ (List.mem_append_right _ h)) 0 rfl rfl 7 (by decide) (List.mem_of_getElem? (i := 1) rfl) rfl dX8_writes_26 ?_
    refine lv_iload_n hx hb dX8_writes_29 rfl (lv_at hl 2 rfl) ?_
    refine k_iald (v := f8_7 p0.toNatClampNeg) E h 1 0 rfl rfl (vp_in_iff.mpr (by omega)) rfl dX8_writes_30 ?_
    refine lv_iconst (v := 2) hx hb dX8_writes_31 (by decide) ?_
    refine lv_icmp_lt (tgt := 51) hx hb dX8_writes_32 (by decide) (fun c_8 => ?_) (fun c_8 => ?_)
    · skip
      have i_8 : (f8_7 p0.toNatClampNeg).toInt < 2 := (fa_lt _ _).mp c_8
      refine lv_aload_n hx hb dX8_writes_51 rfl (lv_at hl 1 rfl) ?_
      refine k_get (v := .ref a8_7) E h (fun w h => List.mem_cons_of_mem _ (List.mem_append_right _ h)) 0 rfl rfl 7 (by decide) (List.mem_of_getElem? (i := 1) rfl) rfl dX8_writes_52 ?_
      refine lv_iload_n hx hb dX8_writes_55 rfl (lv_at hl 2 rfl) ?_
      refine k_iald (v := f8_7 p0.toNatClampNeg) E h 1 0 rfl rfl (vp_in_iff.mpr (by omega)) rfl dX8_writes_56 ?_
      refine lv_bipush (v := 8) hx hb dX8_writes_57 (by decide) ?_
      refine lv_icmp_ne (tgt := 68) hx hb dX8_writes_59 (by decide) (fun c_9 => ?_) (fun c_9 => ?_)
      · skip
        have i_9 : ¬ (f8_7 p0.toNatClampNeg).toInt = 8 := fun h9 => c_9 ((fa_eq _ _).mpr h9)
        refine lv_iload_n hx hb dX8_writes_68 rfl (lv_at hl 0 rfl) ?_
        have hP9 := h.2.1.sub [0, 1, 2, 3, 4] rfl
        have hD9 := h.2.2.1.sub (ws' := [(o8, .inr (8, [.ref a8_0, .ref a8_1, .ref a8_2, .ref a8_3, .ref a8_4, .ref a8_5, .int v8_6, .ref a8_7, .ref a8_8, .ref a8_9, .ref a8_10, .ref a8_11, .int v8_12, .ref a8_13, .ref a8_14, .ref a8_15, .ref a8_16, .ref a8_17, .ref a8_18, .ref a8_19, .ref a8_20, .ref a8_21, .ref a8_22, .ref a8_23, .ref a8_24, .int v8_25, .int v8_26, .ref a8_27, .ref a8_28, .ref a8_29, .ref a8_30, .ref a8_31, .int v8_32, .int v8_33, .int v8_34, .int v8_35, .ref a8_36, .ref a8_37, .int v8_38, .int v8_39, .int v8_40, .ref a8_41, .ref a8_42, .int v8_43])), (a8_7, .inl (c8_7, 120, .inl f8_7)), (a8_8, .inl (c8_8, 120, .inl f8_8)), (a8_9, .inl (c8_9, 120, .inl f8_9)), (a8_10, .inl (c8_10, 120, .inl f8_10))]) [0, 1, 2, 3, 4] (by decide) rfl
        exact W.iret (v := (1 : Int32) <<< ((f8_8 p0.toNatClampNeg) &&& 31)) hx hb hr (fun t ht hW => ⟨⟨(1 : Int32) <<< ((f8_8 p0.toNatClampNeg) &&& 31), (), rfl, trivial, (by rw [ht]; exact hP9), hD9⟩, h.2.2.2.1.F ht⟩) h.2.2.2.1.2.2 dX8_writes_69 hlocks
      · skip
        have i_9 : (f8_7 p0.toNatClampNeg).toInt = 8 := (fa_eq _ _).mp c_9
        refine lv_iload_n hx hb dX8_writes_62 rfl (lv_at hl 0 rfl) ?_
        refine lv_sipush (v := 1024) hx hb dX8_writes_63 (by decide) ?_
        refine lv_ior hx hb dX8_writes_66 ?_
        refine lv_istore_n (lv' := [(2, .int (((1 : Int32) <<< ((f8_8 p0.toNatClampNeg) &&& 31)) ||| (1024 : Int32))), (0, .ref o8), (1, .int p0)]) hx hb dX8_writes_67 rfl hl (by decide) rfl (fun ls hl => ?_)
        refine lv_iload_n hx hb dX8_writes_68 rfl (lv_at hl 0 rfl) ?_
        have hP9 := h.2.1.sub [0, 1, 2, 3, 4] rfl
        have hD9 := h.2.2.1.sub (ws' := [(o8, .inr (8, [.ref a8_0, .ref a8_1, .ref a8_2, .ref a8_3, .ref a8_4, .ref a8_5, .int v8_6, .ref a8_7, .ref a8_8, .ref a8_9, .ref a8_10, .ref a8_11, .int v8_12, .ref a8_13, .ref a8_14, .ref a8_15, .ref a8_16, .ref a8_17, .ref a8_18, .ref a8_19, .ref a8_20, .ref a8_21, .ref a8_22, .ref a8_23, .ref a8_24, .int v8_25, .int v8_26, .ref a8_27, .ref a8_28, .ref a8_29, .ref a8_30, .ref a8_31, .int v8_32, .int v8_33, .int v8_34, .int v8_35, .ref a8_36, .ref a8_37, .int v8_38, .int v8_39, .int v8_40, .ref a8_41, .ref a8_42, .int v8_43])), (a8_7, .inl (c8_7, 120, .inl f8_7)), (a8_8, .inl (c8_8, 120, .inl f8_8)), (a8_9, .inl (c8_9, 120, .inl f8_9)), (a8_10, .inl (c8_10, 120, .inl f8_10))]) [0, 1, 2, 3, 4] (by decide) rfl
        exact W.iret (v := ((1 : Int32) <<< ((f8_8 p0.toNatClampNeg) &&& 31)) ||| (1024 : Int32)) hx hb hr (fun t ht hW => ⟨⟨((1 : Int32) <<< ((f8_8 p0.toNatClampNeg) &&& 31)) ||| (1024 : Int32), (), rfl, trivial, (by rw [ht]; exact hP9), hD9⟩, h.2.2.2.1.F ht⟩) h.2.2.2.1.2.2 dX8_writes_69 hlocks
    · skip
      have i_8 : ¬ (f8_7 p0.toNatClampNeg).toInt < 2 := fun h9 => c_8 ((fa_lt _ _).mpr h9)
      refine lv_aload_n hx hb dX8_writes_35 rfl (lv_at hl 1 rfl) ?_
      refine k_get (v := .ref a8_7) E h (fun w h => List.mem_cons_of_mem _ (List.mem_append_right _ h)) 0 rfl rfl 7 (by decide) (List.mem_of_getElem? (i := 1) rfl) rfl dX8_writes_36 ?_
      refine lv_iload_n hx hb dX8_writes_39 rfl (lv_at hl 2 rfl) ?_
      refine k_iald (v := f8_7 p0.toNatClampNeg) E h 1 0 rfl rfl (vp_in_iff.mpr (by omega)) rfl dX8_writes_40 ?_
      refine lv_iconst (v := 5) hx hb dX8_writes_41 (by decide) ?_
      refine lv_icmp_gt (tgt := 51) hx hb dX8_writes_42 (by decide) (fun c_10 => ?_) (fun c_10 => ?_)
      · skip
        have i_10 : 5 < (f8_7 p0.toNatClampNeg).toInt := (fa_lt _ _).mp c_10
        refine lv_aload_n hx hb dX8_writes_51 rfl (lv_at hl 1 rfl) ?_
        refine k_get (v := .ref a8_7) E h (fun w h => List.mem_cons_of_mem _ (List.mem_append_right _ h)) 0 rfl rfl 7 (by decide) (List.mem_of_getElem? (i := 1) rfl) rfl dX8_writes_52 ?_
        refine lv_iload_n hx hb dX8_writes_55 rfl (lv_at hl 2 rfl) ?_
        refine k_iald (v := f8_7 p0.toNatClampNeg) E h 1 0 rfl rfl (vp_in_iff.mpr (by omega)) rfl dX8_writes_56 ?_
        refine lv_bipush (v := 8) hx hb dX8_writes_57 (by decide) ?_
        refine lv_icmp_ne (tgt := 68) hx hb dX8_writes_59 (by decide) (fun c_11 => ?_) (fun c_11 => ?_)
        · skip
          have i_11 : ¬ (f8_7 p0.toNatClampNeg).toInt = 8 := fun h9 => c_11 ((fa_eq _ _).mpr h9)
          refine lv_iload_n hx hb dX8_writes_68 rfl (lv_at hl 0 rfl) ?_
          have hP9 := h.2.1.sub [0, 1, 2, 3, 4] rfl
          have hD9 := h.2.2.1.sub (ws' := [(o8, .inr (8, [.ref a8_0, .ref a8_1, .ref a8_2, .ref a8_3, .ref a8_4, .ref a8_5, .int v8_6, .ref a8_7, .ref a8_8, .ref a8_9, .ref a8_10, .ref a8_11, .int v8_12, .ref a8_13, .ref a8_14, .ref a8_15, .ref a8_16, .ref a8_17, .ref a8_18, .ref a8_19, .ref a8_20, .ref a8_21, .ref a8_22, .ref a8_23, .ref a8_24, .int v8_25, .int v8_26, .ref a8_27, .ref a8_28, .ref a8_29, .ref a8_30, .ref a8_31, .int v8_32, .int v8_33, .int v8_34, .int v8_35, .ref a8_36, .ref a8_37, .int v8_38, .int v8_39, .int v8_40, .ref a8_41, .ref a8_42, .int v8_43])), (a8_7, .inl (c8_7, 120, .inl f8_7)), (a8_8, .inl (c8_8, 120, .inl f8_8)), (a8_9, .inl (c8_9, 120, .inl f8_9)), (a8_10, .inl (c8_10, 120, .inl f8_10))]) [0, 1, 2, 3, 4] (by decide) rfl
          exact W.iret (v := (1 : Int32) <<< ((f8_8 p0.toNatClampNeg) &&& 31)) hx hb hr (fun t ht hW => ⟨⟨(1 : Int32) <<< ((f8_8 p0.toNatClampNeg) &&& 31), (), rfl, trivial, (by rw [ht]; exact hP9), hD9⟩, h.2.2.2.1.F ht⟩) h.2.2.2.1.2.2 dX8_writes_69 hlocks
        · skip
          have i_11 : (f8_7 p0.toNatClampNeg).toInt = 8 := (fa_eq _ _).mp c_11
          refine lv_iload_n hx hb dX8_writes_62 rfl (lv_at hl 0 rfl) ?_
          refine lv_sipush (v := 1024) hx hb dX8_writes_63 (by decide) ?_
          refine lv_ior hx hb dX8_writes_66 ?_
          refine lv_istore_n (lv' := [(2, .int (((1 : Int32) <<< ((f8_8 p0.toNatClampNeg) &&& 31)) ||| (1024 : Int32))), (0, .ref o8), (1, .int p0)]) hx hb dX8_writes_67 rfl hl (by decide) rfl (fun ls hl => ?_)
          refine lv_iload_n hx hb dX8_writes_68 rfl (lv_at hl 0 rfl) ?_
          have hP9 := h.2.1.sub [0, 1, 2, 3, 4] rfl
          have hD9 := h.2.2.1.sub (ws' := [(o8, .inr (8, [.ref a8_0, .ref a8_1, .ref a8_2, .ref a8_3, .ref a8_4, .ref a8_5, .int v8_6, .ref a8_7, .ref a8_8, .ref a8_9, .ref a8_10, .ref a8_11, .int v8_12, .ref a8_13, .ref a8_14, .ref a8_15, .ref a8_16, .ref a8_17, .ref a8_18, .ref a8_19, .ref a8_20, .ref a8_21, .ref a8_22, .ref a8_23, .ref a8_24, .int v8_25, .int v8_26, .ref a8_27, .ref a8_28, .ref a8_29, .ref a8_30, .ref a8_31, .int v8_32, .int v8_33, .int v8_34, .int v8_35, .ref a8_36, .ref a8_37, .int v8_38, .int v8_39, .int v8_40, .ref a8_41, .ref a8_42, .int v8_43])), (a8_7, .inl (c8_7, 120, .inl f8_7)), (a8_8, .inl (c8_8, 120, .inl f8_8)), (a8_9, .inl (c8_9, 120, .inl f8_9)), (a8_10, .inl (c8_10, 120, .inl f8_10))]) [0, 1, 2, 3, 4] (by decide) rfl
          exact W.iret (v := ((1 : Int32) <<< ((f8_8 p0.toNatClampNeg) &&& 31)) ||| (1024 : Int32)) hx hb hr (fun t ht hW => ⟨⟨((1 : Int32) <<< ((f8_8 p0.toNatClampNeg) &&& 31)) ||| (1024 : Int32), (), rfl, trivial, (by rw [ht]; exact hP9), hD9⟩, h.2.2.2.1.F ht⟩) h.2.2.2.1.2.2 dX8_writes_69 hlocks
      · skip
        have i_10 : ¬ 5 < (f8_7 p0.toNatClampNeg).toInt := fun h9 => c_10 ((fa_lt _ _).mpr h9)
        refine lv_iload_n hx hb dX8_writes_45 rfl (lv_at hl 0 rfl) ?_
        refine lv_sipush (v := 768) hx hb dX8_writes_46 (by decide) ?_
        refine lv_ior hx hb dX8_writes_49 ?_
        refine lv_istore_n (lv' := [(2, .int (((1 : Int32) <<< ((f8_8 p0.toNatClampNeg) &&& 31)) ||| (768 : Int32))), (0, .ref o8), (1, .int p0)]) hx hb dX8_writes_50 rfl hl (by decide) rfl (fun ls hl => ?_)
        refine lv_aload_n hx hb dX8_writes_51 rfl (lv_at hl 1 rfl) ?_
        refine k_get (v := .ref a8_7) E h (fun w h => List.mem_cons_of_mem _ (List.mem_append_right _ h)) 0 rfl rfl 7 (by decide) (List.mem_of_getElem? (i := 1) rfl) rfl dX8_writes_52 ?_
        refine lv_iload_n hx hb dX8_writes_55 rfl (lv_at hl 2 rfl) ?_
        refine k_iald (v := f8_7 p0.toNatClampNeg) E h 1 0 rfl rfl (vp_in_iff.mpr (by omega)) rfl dX8_writes_56 ?_
        refine lv_bipush (v := 8) hx hb dX8_writes_57 (by decide) ?_
        refine lv_icmp_ne (tgt := 68) hx hb dX8_writes_59 (by decide) (fun c_12 => ?_) (fun c_12 => ?_)
        · skip
          have i_12 : ¬ (f8_7 p0.toNatClampNeg).toInt = 8 := fun h9 => c_12 ((fa_eq _ _).mpr h9)
          refine lv_iload_n hx hb dX8_writes_68 rfl (lv_at hl 0 rfl) ?_
          have hP9 := h.2.1.sub [0, 1, 2, 3, 4] rfl
          have hD9 := h.2.2.1.sub (ws' := [(o8, .inr (8, [.ref a8_0, .ref a8_1, .ref a8_2, .ref a8_3, .ref a8_4, .ref a8_5, .int v8_6, .ref a8_7, .ref a8_8, .ref a8_9, .ref a8_10, .ref a8_11, .int v8_12, .ref a8_13, .ref a8_14, .ref a8_15, .ref a8_16, .ref a8_17, .ref a8_18, .ref a8_19, .ref a8_20, .ref a8_21, .ref a8_22, .ref a8_23, .ref a8_24, .int v8_25, .int v8_26, .ref a8_27, .ref a8_28, .ref a8_29, .ref a8_30, .ref a8_31, .int v8_32, .int v8_33, .int v8_34, .int v8_35, .ref a8_36, .ref a8_37, .int v8_38, .int v8_39, .int v8_40, .ref a8_41, .ref a8_42, .int v8_43])), (a8_7, .inl (c8_7, 120, .inl f8_7)), (a8_8, .inl (c8_8, 120, .inl f8_8)), (a8_9, .inl (c8_9, 120, .inl f8_9)), (a8_10, .inl (c8_10, 120, .inl f8_10))]) [0, 1, 2, 3, 4] (by decide) rfl
          exact W.iret (v := ((1 : Int32) <<< ((f8_8 p0.toNatClampNeg) &&& 31)) ||| (768 : Int32)) hx hb hr (fun t ht hW => ⟨⟨((1 : Int32) <<< ((f8_8 p0.toNatClampNeg) &&& 31)) ||| (768 : Int32), (), rfl, trivial, (by rw [ht]; exact hP9), hD9⟩, h.2.2.2.1.F ht⟩) h.2.2.2.1.2.2 dX8_writes_69 hlocks
        · skip
          have i_12 : (f8_7 p0.toNatClampNeg).toInt = 8 := (fa_eq _ _).mp c_12
          refine lv_iload_n hx hb dX8_writes_62 rfl (lv_at hl 0 rfl) ?_
          refine lv_sipush (v := 1024) hx hb dX8_writes_63 (by decide) ?_
          refine lv_ior hx hb dX8_writes_66 ?_
          refine lv_istore_n (lv' := [(2, .int ((((1 : Int32) <<< ((f8_8 p0.toNatClampNeg) &&& 31)) ||| (768 : Int32)) ||| (1024 : Int32))), (0, .ref o8), (1, .int p0)]) hx hb dX8_writes_67 rfl hl (by decide) rfl (fun ls hl => ?_)
          refine lv_iload_n hx hb dX8_writes_68 rfl (lv_at hl 0 rfl) ?_
          have hP9 := h.2.1.sub [0, 1, 2, 3, 4] rfl
          have hD9 := h.2.2.1.sub (ws' := [(o8, .inr (8, [.ref a8_0, .ref a8_1, .ref a8_2, .ref a8_3, .ref a8_4, .ref a8_5, .int v8_6, .ref a8_7, .ref a8_8, .ref a8_9, .ref a8_10, .ref a8_11, .int v8_12, .ref a8_13, .ref a8_14, .ref a8_15, .ref a8_16, .ref a8_17, .ref a8_18, .ref a8_19, .ref a8_20, .ref a8_21, .ref a8_22, .ref a8_23, .ref a8_24, .int v8_25, .int v8_26, .ref a8_27, .ref a8_28, .ref a8_29, .ref a8_30, .ref a8_31, .int v8_32, .int v8_33, .int v8_34, .int v8_35, .ref a8_36, .ref a8_37, .int v8_38, .int v8_39, .int v8_40, .ref a8_41, .ref a8_42, .int v8_43])), (a8_7, .inl (c8_7, 120, .inl f8_7)), (a8_8, .inl (c8_8, 120, .inl f8_8)), (a8_9, .inl (c8_9, 120, .inl f8_9)), (a8_10, .inl (c8_10, 120, .inl f8_10))]) [0, 1, 2, 3, 4] (by decide) rfl
          exact W.iret (v := (((1 : Int32) <<< ((f8_8 p0.toNatClampNeg) &&& 31)) ||| (768 : Int32)) ||| (1024 : Int32)) hx hb hr (fun t ht hW => ⟨⟨(((1 : Int32) <<< ((f8_8 p0.toNatClampNeg) &&& 31)) ||| (768 : Int32)) ||| (1024 : Int32), (), rfl, trivial, (by rw [ht]; exact hP9), hD9⟩, h.2.2.2.1.F ht⟩) h.2.2.2.1.2.2 dX8_writes_69 hlocks
set_option maxHeartbeats 4000000 in
set_option maxRecDepth 100000 in
theorem c_X8_needed (l : Launch) (dC : Nat → ClassId) (dI : Nat → Nat → Nat) (sz : Nat) (o8 : Nat) (a8_0 : Nat) (a8_1 : Nat) (a8_2 : Nat) (a8_3 : Nat) (a8_4 : Nat) (a8_5 : Nat) (v8_6 : Int32) (a8_7 : Nat) (a8_8 : Nat) (a8_9 : Nat) (a8_10 : Nat) (a8_11 : Nat) (v8_12 : Int32) (a8_13 : Nat) (a8_14 : Nat) (a8_15 : Nat) (a8_16 : Nat) (a8_17 : Nat) (a8_18 : Nat) (a8_19 : Nat) (a8_20 : Nat) (a8_21 : Nat) (a8_22 : Nat) (a8_23 : Nat) (a8_24 : Nat) (v8_25 : Int32) (v8_26 : Int32) (a8_27 : Nat) (a8_28 : Nat) (a8_29 : Nat) (a8_30 : Nat) (a8_31 : Nat) (v8_32 : Int32) (v8_33 : Int32) (v8_34 : Int32) (v8_35 : Int32) (a8_36 : Nat) (a8_37 : Nat) (v8_38 : Int32) (v8_39 : Int32) (v8_40 : Int32) (a8_41 : Nat) (a8_42 : Nat) (v8_43 : Int32) (c8_7 : ClassId) (f8_7 : Nat → Int32) (c8_8 : ClassId) (f8_8 : Nat → Int32) (c8_9 : ClassId) (f8_9 : Nat → Int32) (c8_10 : ClassId) (f8_10 : Nat → Int32) (p0 : Int32) (p1 : Int32) (hp : (0 ≤ p0.toInt ∧ p0.toInt < 120) ∧ (0 ≤ p1.toInt ∧ p1.toInt < 120)) : Met l yX8_needed wsX8_needed ({ frames := 2, cells := 0, slots := 0, locals := 42 } : Room) (va_Pc [.ref o8, .int p0, .int p1] (KPre (dC, dI) [(o8, .inr (8, [.ref a8_0, .ref a8_1, .ref a8_2, .ref a8_3, .ref a8_4, .ref a8_5, .int v8_6, .ref a8_7, .ref a8_8, .ref a8_9, .ref a8_10, .ref a8_11, .int v8_12, .ref a8_13, .ref a8_14, .ref a8_15, .ref a8_16, .ref a8_17, .ref a8_18, .ref a8_19, .ref a8_20, .ref a8_21, .ref a8_22, .ref a8_23, .ref a8_24, .int v8_25, .int v8_26, .ref a8_27, .ref a8_28, .ref a8_29, .ref a8_30, .ref a8_31, .int v8_32, .int v8_33, .int v8_34, .int v8_35, .ref a8_36, .ref a8_37, .int v8_38, .int v8_39, .int v8_40, .ref a8_41, .ref a8_42, .int v8_43])), (a8_7, .inl (c8_7, 120, .inl f8_7)), (a8_8, .inl (c8_8, 120, .inl f8_8)), (a8_9, .inl (c8_9, 120, .inl f8_9)), (a8_10, .inl (c8_10, 120, .inl f8_10))] [(c8_7, .int), (c8_8, .int), (c8_9, .int), (c8_10, .int)] sz (fun _ => True))) (va_Qi (fun (r : Int32) (u : Unit) => True) (KPost (dC, dI) (va_A [(o8, .inr (8, [.ref a8_0, .ref a8_1, .ref a8_2, .ref a8_3, .ref a8_4, .ref a8_5, .int v8_6, .ref a8_7, .ref a8_8, .ref a8_9, .ref a8_10, .ref a8_11, .int v8_12, .ref a8_13, .ref a8_14, .ref a8_15, .ref a8_16, .ref a8_17, .ref a8_18, .ref a8_19, .ref a8_20, .ref a8_21, .ref a8_22, .ref a8_23, .ref a8_24, .int v8_25, .int v8_26, .ref a8_27, .ref a8_28, .ref a8_29, .ref a8_30, .ref a8_31, .int v8_32, .int v8_33, .int v8_34, .int v8_35, .ref a8_36, .ref a8_37, .int v8_38, .int v8_39, .int v8_40, .ref a8_41, .ref a8_42, .int v8_43])), (a8_7, .inl (c8_7, 120, .inl f8_7)), (a8_8, .inl (c8_8, 120, .inl f8_8)), (a8_9, .inl (c8_9, 120, .inl f8_9)), (a8_10, .inl (c8_10, 120, .inl f8_10))] sz) (fun (u : Unit) => [(o8, .inr (8, [.ref a8_0, .ref a8_1, .ref a8_2, .ref a8_3, .ref a8_4, .ref a8_5, .int v8_6, .ref a8_7, .ref a8_8, .ref a8_9, .ref a8_10, .ref a8_11, .int v8_12, .ref a8_13, .ref a8_14, .ref a8_15, .ref a8_16, .ref a8_17, .ref a8_18, .ref a8_19, .ref a8_20, .ref a8_21, .ref a8_22, .ref a8_23, .ref a8_24, .int v8_25, .int v8_26, .ref a8_27, .ref a8_28, .ref a8_29, .ref a8_30, .ref a8_31, .int v8_32, .int v8_33, .int v8_34, .int v8_35, .ref a8_36, .ref a8_37, .int v8_38, .int v8_39, .int v8_40, .ref a8_41, .ref a8_42, .int v8_43])), (a8_7, .inl (c8_7, 120, .inl f8_7)), (a8_8, .inl (c8_8, 120, .inl f8_8)), (a8_9, .inl (c8_9, 120, .inl f8_9)), (a8_10, .inl (c8_10, 120, .inl f8_10))])) (va_A [(o8, .inr (8, [.ref a8_0, .ref a8_1, .ref a8_2, .ref a8_3, .ref a8_4, .ref a8_5, .int v8_6, .ref a8_7, .ref a8_8, .ref a8_9, .ref a8_10, .ref a8_11, .int v8_12, .ref a8_13, .ref a8_14, .ref a8_15, .ref a8_16, .ref a8_17, .ref a8_18, .ref a8_19, .ref a8_20, .ref a8_21, .ref a8_22, .ref a8_23, .ref a8_24, .int v8_25, .int v8_26, .ref a8_27, .ref a8_28, .ref a8_29, .ref a8_30, .ref a8_31, .int v8_32, .int v8_33, .int v8_34, .int v8_35, .ref a8_36, .ref a8_37, .int v8_38, .int v8_39, .int v8_40, .ref a8_41, .ref a8_42, .int v8_43])), (a8_7, .inl (c8_7, 120, .inl f8_7)), (a8_8, .inl (c8_8, 120, .inl f8_8)), (a8_9, .inl (c8_9, 120, .inl f8_9)), (a8_10, .inl (c8_10, 120, .inl f8_10))] sz)) 0 0 (va_A [(o8, .inr (8, [.ref a8_0, .ref a8_1, .ref a8_2, .ref a8_3, .ref a8_4, .ref a8_5, .int v8_6, .ref a8_7, .ref a8_8, .ref a8_9, .ref a8_10, .ref a8_11, .int v8_12, .ref a8_13, .ref a8_14, .ref a8_15, .ref a8_16, .ref a8_17, .ref a8_18, .ref a8_19, .ref a8_20, .ref a8_21, .ref a8_22, .ref a8_23, .ref a8_24, .int v8_25, .int v8_26, .ref a8_27, .ref a8_28, .ref a8_29, .ref a8_30, .ref a8_31, .int v8_32, .int v8_33, .int v8_34, .int v8_35, .ref a8_36, .ref a8_37, .int v8_38, .int v8_39, .int v8_40, .ref a8_41, .ref a8_42, .int v8_43])), (a8_7, .inl (c8_7, 120, .inl f8_7)), (a8_8, .inl (c8_8, 120, .inl f8_8)), (a8_9, .inl (c8_9, 120, .inl f8_9)), (a8_10, .inl (c8_10, 120, .inl f8_10))] sz) := by
  refine kMet (y := yX8_needed) (wsM := wsX8_needed) (cc := cX8_needed) (maxL := 3) (ret := (some .int)) (rm := ({ frames := 2, cells := 0, slots := 0, locals := 42 } : Room)) (mc := 0) (ms := 0) (av := [.ref o8, .int p0, .int p1]) (D := (dC, dI)) (wc := [(o8, .inr (8, [.ref a8_0, .ref a8_1, .ref a8_2, .ref a8_3, .ref a8_4, .ref a8_5, .int v8_6, .ref a8_7, .ref a8_8, .ref a8_9, .ref a8_10, .ref a8_11, .int v8_12, .ref a8_13, .ref a8_14, .ref a8_15, .ref a8_16, .ref a8_17, .ref a8_18, .ref a8_19, .ref a8_20, .ref a8_21, .ref a8_22, .ref a8_23, .ref a8_24, .int v8_25, .int v8_26, .ref a8_27, .ref a8_28, .ref a8_29, .ref a8_30, .ref a8_31, .int v8_32, .int v8_33, .int v8_34, .int v8_35, .ref a8_36, .ref a8_37, .int v8_38, .int v8_39, .int v8_40, .ref a8_41, .ref a8_42, .int v8_43])), (a8_7, .inl (c8_7, 120, .inl f8_7)), (a8_8, .inl (c8_8, 120, .inl f8_8)), (a8_9, .inl (c8_9, 120, .inl f8_9)), (a8_10, .inl (c8_10, 120, .inl f8_10))]) (tc := [(c8_7, .int), (c8_8, .int), (c8_9, .int), (c8_10, .int)]) (sz := sz) (X := fun _ => True) (Qc := fun A => va_Qi (fun (r : Int32) (u : Unit) => True) (KPost (dC, dI) A (fun (u : Unit) => [(o8, .inr (8, [.ref a8_0, .ref a8_1, .ref a8_2, .ref a8_3, .ref a8_4, .ref a8_5, .int v8_6, .ref a8_7, .ref a8_8, .ref a8_9, .ref a8_10, .ref a8_11, .int v8_12, .ref a8_13, .ref a8_14, .ref a8_15, .ref a8_16, .ref a8_17, .ref a8_18, .ref a8_19, .ref a8_20, .ref a8_21, .ref a8_22, .ref a8_23, .ref a8_24, .int v8_25, .int v8_26, .ref a8_27, .ref a8_28, .ref a8_29, .ref a8_30, .ref a8_31, .int v8_32, .int v8_33, .int v8_34, .int v8_35, .ref a8_36, .ref a8_37, .int v8_38, .int v8_39, .int v8_40, .ref a8_41, .ref a8_42, .int v8_43])), (a8_7, .inl (c8_7, 120, .inl f8_7)), (a8_8, .inl (c8_8, 120, .inl f8_8)), (a8_9, .inl (c8_9, 120, .inl f8_9)), (a8_10, .inl (c8_10, 120, .inl f8_10))])) A) (by decide) rfl (Nat.le_of_ble_eq_true rfl) ?_
  intro p e s m below meth c A ls E hr hlocks hnm hsz hAe hX h hl
  have hx := E.1
  have hb := E.2.1
  have hl : lv_has ls 3 [(0, .ref o8), (1, .int p0), (2, .int p1)] := hl
  refine lv_aload_n hx hb dX8_needed_0 rfl (lv_at hl 0 rfl) ?_
  refine lv_iload_n hx hb dX8_needed_1 rfl (lv_at hl 1 rfl) ?_
  refine kc_i (wc := [(o8, .inr (8, [.ref a8_0, .ref a8_1, .ref a8_2, .ref a8_3, .ref a8_4, .ref a8_5, .int v8_6, .ref a8_7, .ref a8_8, .ref a8_9, .ref a8_10, .ref a8_11, .int v8_12, .ref a8_13, .ref a8_14, .ref a8_15, .ref a8_16, .ref a8_17, .ref a8_18, .ref a8_19, .ref a8_20, .ref a8_21, .ref a8_22, .ref a8_23, .ref a8_24, .int v8_25, .int v8_26, .ref a8_27, .ref a8_28, .ref a8_29, .ref a8_30, .ref a8_31, .int v8_32, .int v8_33, .int v8_34, .int v8_35, .ref a8_36, .ref a8_37, .int v8_38, .int v8_39, .int v8_40, .ref a8_41, .ref a8_42, .int v8_43])), (a8_7, .inl (c8_7, 120, .inl f8_7)), (a8_8, .inl (c8_8, 120, .inl f8_8)), (a8_9, .inl (c8_9, 120, .inl f8_9)), (a8_10, .inl (c8_10, 120, .inl f8_10))]) (wr := []) h (va_runV (As := [.int p0]) (rest := []) E (c_X8_writes l dC dI _ (o8 := o8) (a8_0 := a8_0) (a8_1 := a8_1) (a8_2 := a8_2) (a8_3 := a8_3) (a8_4 := a8_4) (a8_5 := a8_5) (v8_6 := v8_6) (a8_7 := a8_7) (a8_8 := a8_8) (a8_9 := a8_9) (a8_10 := a8_10) (a8_11 := a8_11) (v8_12 := v8_12) (a8_13 := a8_13) (a8_14 := a8_14) (a8_15 := a8_15) (a8_16 := a8_16) (a8_17 := a8_17) (a8_18 := a8_18) (a8_19 := a8_19) (a8_20 := a8_20) (a8_21 := a8_21) (a8_22 := a8_22) (a8_23 := a8_23) (a8_24 := a8_24) (v8_25 := v8_25) (v8_26 := v8_26) (a8_27 := a8_27) (a8_28 := a8_28) (a8_29 := a8_29) (a8_30 := a8_30) (a8_31 := a8_31) (v8_32 := v8_32) (v8_33 := v8_33) (v8_34 := v8_34) (v8_35 := v8_35) (a8_36 := a8_36) (a8_37 := a8_37) (v8_38 := v8_38) (v8_39 := v8_39) (v8_40 := v8_40) (a8_41 := a8_41) (a8_42 := a8_42) (v8_43 := v8_43) (c8_7 := c8_7) (f8_7 := f8_7) (c8_8 := c8_8) (f8_8 := f8_8) (c8_9 := c8_9) (f8_9 := f8_9) (c8_10 := c8_10) (f8_10 := f8_10) (p0 := p0)  (hp := (by first | decide | omega))) (cwV 1 E.2.2.2.2 gX8_needed_X8_writes rfl rfl rfl (by decide +kernel) ⟨Nat.le_of_ble_eq_true rfl, Nat.le_of_ble_eq_true rfl⟩) (kPreV (q0 := 0) (ci := 8) h KX_true (fun _ _ _ => trivial) [0, 1, 2, 3, 4] [0, 1, 2, 3] (by decide) rfl rfl rfl rfl) rfl rfl hl.1 rfl (lv_room (Nat.le_of_ble_eq_true rfl)) dX8_needed_2 ⟨Nat.le_of_ble_eq_true rfl, Nat.le_of_ble_eq_true rfl⟩) [0, 1, 2, 3, 4] [] rfl rfl (by decide) (by decide) (fun r_1 u_1 H locs hw_1 h => ?_)
  have h : KS (dC, dI) A [(o8, .inr (8, [.ref a8_0, .ref a8_1, .ref a8_2, .ref a8_3, .ref a8_4, .ref a8_5, .int v8_6, .ref a8_7, .ref a8_8, .ref a8_9, .ref a8_10, .ref a8_11, .int v8_12, .ref a8_13, .ref a8_14, .ref a8_15, .ref a8_16, .ref a8_17, .ref a8_18, .ref a8_19, .ref a8_20, .ref a8_21, .ref a8_22, .ref a8_23, .ref a8_24, .int v8_25, .int v8_26, .ref a8_27, .ref a8_28, .ref a8_29, .ref a8_30, .ref a8_31, .int v8_32, .int v8_33, .int v8_34, .int v8_35, .ref a8_36, .ref a8_37, .int v8_38, .int v8_39, .int v8_40, .ref a8_41, .ref a8_42, .int v8_43])), (a8_7, .inl (c8_7, 120, .inl f8_7)), (a8_8, .inl (c8_8, 120, .inl f8_8)), (a8_9, .inl (c8_9, 120, .inl f8_9)), (a8_10, .inl (c8_10, 120, .inl f8_10))] [(c8_7, .int), (c8_8, .int), (c8_9, .int), (c8_10, .int)] s H locs := h
  refine W.eq (g2 := F0 m 5 ls [.int r_1]) rfl ?_
  refine lv_aload_n hx hb dX8_needed_5 rfl (lv_at hl 0 rfl) ?_
  refine lv_iload_n hx hb dX8_needed_6 rfl (lv_at hl 2 rfl) ?_
  refine kc_i (wc := [(o8, .inr (8, [.ref a8_0, .ref a8_1, .ref a8_2, .ref a8_3, .ref a8_4, .ref a8_5, .int v8_6, .ref a8_7, .ref a8_8, .ref a8_9, .ref a8_10, .ref a8_11, .int v8_12, .ref a8_13, .ref a8_14, .ref a8_15, .ref a8_16, .ref a8_17, .ref a8_18, .ref a8_19, .ref a8_20, .ref a8_21, .ref a8_22, .ref a8_23, .ref a8_24, .int v8_25, .int v8_26, .ref a8_27, .ref a8_28, .ref a8_29, .ref a8_30, .ref a8_31, .int v8_32, .int v8_33, .int v8_34, .int v8_35, .ref a8_36, .ref a8_37, .int v8_38, .int v8_39, .int v8_40, .ref a8_41, .ref a8_42, .int v8_43])), (a8_7, .inl (c8_7, 120, .inl f8_7)), (a8_8, .inl (c8_8, 120, .inl f8_8)), (a8_9, .inl (c8_9, 120, .inl f8_9)), (a8_10, .inl (c8_10, 120, .inl f8_10))]) (wr := []) h (va_runV (As := [.int p1]) (rest := [.int r_1]) E (c_X8_reads l dC dI _ (o8 := o8) (a8_0 := a8_0) (a8_1 := a8_1) (a8_2 := a8_2) (a8_3 := a8_3) (a8_4 := a8_4) (a8_5 := a8_5) (v8_6 := v8_6) (a8_7 := a8_7) (a8_8 := a8_8) (a8_9 := a8_9) (a8_10 := a8_10) (a8_11 := a8_11) (v8_12 := v8_12) (a8_13 := a8_13) (a8_14 := a8_14) (a8_15 := a8_15) (a8_16 := a8_16) (a8_17 := a8_17) (a8_18 := a8_18) (a8_19 := a8_19) (a8_20 := a8_20) (a8_21 := a8_21) (a8_22 := a8_22) (a8_23 := a8_23) (a8_24 := a8_24) (v8_25 := v8_25) (v8_26 := v8_26) (a8_27 := a8_27) (a8_28 := a8_28) (a8_29 := a8_29) (a8_30 := a8_30) (a8_31 := a8_31) (v8_32 := v8_32) (v8_33 := v8_33) (v8_34 := v8_34) (v8_35 := v8_35) (a8_36 := a8_36) (a8_37 := a8_37) (v8_38 := v8_38) (v8_39 := v8_39) (v8_40 := v8_40) (a8_41 := a8_41) (a8_42 := a8_42) (v8_43 := v8_43) (c8_7 := c8_7) (f8_7 := f8_7) (c8_8 := c8_8) (f8_8 := f8_8) (c8_9 := c8_9) (f8_9 := f8_9) (c8_10 := c8_10) (f8_10 := f8_10) (p0 := p1)  (hp := (by first | decide | omega))) (cwV 1 E.2.2.2.2 gX8_needed_X8_reads rfl rfl rfl (by decide +kernel) ⟨Nat.le_of_ble_eq_true rfl, Nat.le_of_ble_eq_true rfl⟩) (kPreV (q0 := 0) (ci := 8) h KX_true (fun _ _ _ => trivial) [0, 1, 2, 3, 4] [0, 1, 2, 3] (by decide) rfl rfl rfl rfl) rfl rfl hl.1 rfl (lv_room (Nat.le_of_ble_eq_true rfl)) dX8_needed_7 ⟨Nat.le_of_ble_eq_true rfl, Nat.le_of_ble_eq_true rfl⟩) [0, 1, 2, 3, 4] [] rfl rfl (by decide) (by decide) (fun r_2 u_2 H locs hw_2 h => ?_)
  have h : KS (dC, dI) A [(o8, .inr (8, [.ref a8_0, .ref a8_1, .ref a8_2, .ref a8_3, .ref a8_4, .ref a8_5, .int v8_6, .ref a8_7, .ref a8_8, .ref a8_9, .ref a8_10, .ref a8_11, .int v8_12, .ref a8_13, .ref a8_14, .ref a8_15, .ref a8_16, .ref a8_17, .ref a8_18, .ref a8_19, .ref a8_20, .ref a8_21, .ref a8_22, .ref a8_23, .ref a8_24, .int v8_25, .int v8_26, .ref a8_27, .ref a8_28, .ref a8_29, .ref a8_30, .ref a8_31, .int v8_32, .int v8_33, .int v8_34, .int v8_35, .ref a8_36, .ref a8_37, .int v8_38, .int v8_39, .int v8_40, .ref a8_41, .ref a8_42, .int v8_43])), (a8_7, .inl (c8_7, 120, .inl f8_7)), (a8_8, .inl (c8_8, 120, .inl f8_8)), (a8_9, .inl (c8_9, 120, .inl f8_9)), (a8_10, .inl (c8_10, 120, .inl f8_10))] [(c8_7, .int), (c8_8, .int), (c8_9, .int), (c8_10, .int)] s H locs := h
  refine W.eq (g2 := F0 m 10 ls [.int r_2, .int r_1]) rfl ?_
  refine lv_aload_n hx hb dX8_needed_10 rfl (lv_at hl 0 rfl) ?_
  refine lv_iload_n hx hb dX8_needed_11 rfl (lv_at hl 2 rfl) ?_
  refine kc_i (wc := [(o8, .inr (8, [.ref a8_0, .ref a8_1, .ref a8_2, .ref a8_3, .ref a8_4, .ref a8_5, .int v8_6, .ref a8_7, .ref a8_8, .ref a8_9, .ref a8_10, .ref a8_11, .int v8_12, .ref a8_13, .ref a8_14, .ref a8_15, .ref a8_16, .ref a8_17, .ref a8_18, .ref a8_19, .ref a8_20, .ref a8_21, .ref a8_22, .ref a8_23, .ref a8_24, .int v8_25, .int v8_26, .ref a8_27, .ref a8_28, .ref a8_29, .ref a8_30, .ref a8_31, .int v8_32, .int v8_33, .int v8_34, .int v8_35, .ref a8_36, .ref a8_37, .int v8_38, .int v8_39, .int v8_40, .ref a8_41, .ref a8_42, .int v8_43])), (a8_7, .inl (c8_7, 120, .inl f8_7)), (a8_8, .inl (c8_8, 120, .inl f8_8)), (a8_9, .inl (c8_9, 120, .inl f8_9)), (a8_10, .inl (c8_10, 120, .inl f8_10))]) (wr := []) h (va_runV (As := [.int p1]) (rest := [.int r_2, .int r_1]) E (c_X8_writes l dC dI _ (o8 := o8) (a8_0 := a8_0) (a8_1 := a8_1) (a8_2 := a8_2) (a8_3 := a8_3) (a8_4 := a8_4) (a8_5 := a8_5) (v8_6 := v8_6) (a8_7 := a8_7) (a8_8 := a8_8) (a8_9 := a8_9) (a8_10 := a8_10) (a8_11 := a8_11) (v8_12 := v8_12) (a8_13 := a8_13) (a8_14 := a8_14) (a8_15 := a8_15) (a8_16 := a8_16) (a8_17 := a8_17) (a8_18 := a8_18) (a8_19 := a8_19) (a8_20 := a8_20) (a8_21 := a8_21) (a8_22 := a8_22) (a8_23 := a8_23) (a8_24 := a8_24) (v8_25 := v8_25) (v8_26 := v8_26) (a8_27 := a8_27) (a8_28 := a8_28) (a8_29 := a8_29) (a8_30 := a8_30) (a8_31 := a8_31) (v8_32 := v8_32) (v8_33 := v8_33) (v8_34 := v8_34) (v8_35 := v8_35) (a8_36 := a8_36) (a8_37 := a8_37) (v8_38 := v8_38) (v8_39 := v8_39) (v8_40 := v8_40) (a8_41 := a8_41) (a8_42 := a8_42) (v8_43 := v8_43) (c8_7 := c8_7) (f8_7 := f8_7) (c8_8 := c8_8) (f8_8 := f8_8) (c8_9 := c8_9) (f8_9 := f8_9) (c8_10 := c8_10) (f8_10 := f8_10) (p0 := p1)  (hp := (by first | decide | omega))) (cwV 1 E.2.2.2.2 gX8_needed_X8_writes rfl rfl rfl (by decide +kernel) ⟨Nat.le_of_ble_eq_true rfl, Nat.le_of_ble_eq_true rfl⟩) (kPreV (q0 := 0) (ci := 8) h KX_true (fun _ _ _ => trivial) [0, 1, 2, 3, 4] [0, 1, 2, 3] (by decide) rfl rfl rfl rfl) rfl rfl hl.1 rfl (lv_room (Nat.le_of_ble_eq_true rfl)) dX8_needed_12 ⟨Nat.le_of_ble_eq_true rfl, Nat.le_of_ble_eq_true rfl⟩) [0, 1, 2, 3, 4] [] rfl rfl (by decide) (by decide) (fun r_3 u_3 H locs hw_3 h => ?_)
  have h : KS (dC, dI) A [(o8, .inr (8, [.ref a8_0, .ref a8_1, .ref a8_2, .ref a8_3, .ref a8_4, .ref a8_5, .int v8_6, .ref a8_7, .ref a8_8, .ref a8_9, .ref a8_10, .ref a8_11, .int v8_12, .ref a8_13, .ref a8_14, .ref a8_15, .ref a8_16, .ref a8_17, .ref a8_18, .ref a8_19, .ref a8_20, .ref a8_21, .ref a8_22, .ref a8_23, .ref a8_24, .int v8_25, .int v8_26, .ref a8_27, .ref a8_28, .ref a8_29, .ref a8_30, .ref a8_31, .int v8_32, .int v8_33, .int v8_34, .int v8_35, .ref a8_36, .ref a8_37, .int v8_38, .int v8_39, .int v8_40, .ref a8_41, .ref a8_42, .int v8_43])), (a8_7, .inl (c8_7, 120, .inl f8_7)), (a8_8, .inl (c8_8, 120, .inl f8_8)), (a8_9, .inl (c8_9, 120, .inl f8_9)), (a8_10, .inl (c8_10, 120, .inl f8_10))] [(c8_7, .int), (c8_8, .int), (c8_9, .int), (c8_10, .int)] s H locs := h
  refine W.eq (g2 := F0 m 15 ls [.int r_3, .int r_2, .int r_1]) rfl ?_
  refine lv_ior hx hb dX8_needed_15 ?_
  refine lv_iand hx hb dX8_needed_16 ?_
  refine lv_if_ne (tgt := 63) hx hb dX8_needed_17 (by decide) (fun c_4 => ?_) (fun c_4 => ?_)
  · skip
    have i_4 : ¬ (r_1 &&& (r_2 ||| r_3)).toInt = 0 := fun h9 => c_4 ((fa_eq _ _).mpr h9)
    refine lv_iconst (v := 2) hx hb dX8_needed_63 (by decide) ?_
    have hP9 := h.2.1.sub [0, 1, 2, 3, 4] rfl
    have hD9 := h.2.2.1.sub (ws' := [(o8, .inr (8, [.ref a8_0, .ref a8_1, .ref a8_2, .ref a8_3, .ref a8_4, .ref a8_5, .int v8_6, .ref a8_7, .ref a8_8, .ref a8_9, .ref a8_10, .ref a8_11, .int v8_12, .ref a8_13, .ref a8_14, .ref a8_15, .ref a8_16, .ref a8_17, .ref a8_18, .ref a8_19, .ref a8_20, .ref a8_21, .ref a8_22, .ref a8_23, .ref a8_24, .int v8_25, .int v8_26, .ref a8_27, .ref a8_28, .ref a8_29, .ref a8_30, .ref a8_31, .int v8_32, .int v8_33, .int v8_34, .int v8_35, .ref a8_36, .ref a8_37, .int v8_38, .int v8_39, .int v8_40, .ref a8_41, .ref a8_42, .int v8_43])), (a8_7, .inl (c8_7, 120, .inl f8_7)), (a8_8, .inl (c8_8, 120, .inl f8_8)), (a8_9, .inl (c8_9, 120, .inl f8_9)), (a8_10, .inl (c8_10, 120, .inl f8_10))]) [0, 1, 2, 3, 4] (by decide) rfl
    exact W.iret (v := 2) hx hb hr (fun t ht hW => ⟨⟨2, (), rfl, trivial, (by rw [ht]; exact hP9), hD9⟩, h.2.2.2.1.F ht⟩) h.2.2.2.1.2.2 dX8_needed_64 hlocks
  · skip
    have i_4 : (r_1 &&& (r_2 ||| r_3)).toInt = 0 := (fa_eq _ _).mp c_4
    refine lv_aload_n hx hb dX8_needed_20 rfl (lv_at hl 0 rfl) ?_
    refine k_get (v := .ref a8_7) E h (fun w h => List.mem_cons_of_mem _ (List.mem_append_right _ h)) 0 rfl rfl 7 (by decide) (List.mem_of_getElem? (i := 1) rfl) rfl dX8_needed_21 ?_
    refine lv_iload_n hx hb dX8_needed_24 rfl (lv_at hl 1 rfl) ?_
    refine k_iald (v := f8_7 p0.toNatClampNeg) E h 1 0 rfl rfl (vp_in_iff.mpr (by omega)) rfl dX8_needed_25 ?_
    refine lv_bipush (v := 9) hx hb dX8_needed_26 (by decide) ?_
    refine lv_icmp_eq (tgt := 63) hx hb dX8_needed_28 (by decide) (fun c_5 => ?_) (fun c_5 => ?_)
    · skip
      have i_5 : (f8_7 p0.toNatClampNeg).toInt = 9 := (fa_eq _ _).mp c_5
      refine lv_iconst (v := 2) hx hb dX8_needed_63 (by decide) ?_
      have hP9 := h.2.1.sub [0, 1, 2, 3, 4] rfl
      have hD9 := h.2.2.1.sub (ws' := [(o8, .inr (8, [.ref a8_0, .ref a8_1, .ref a8_2, .ref a8_3, .ref a8_4, .ref a8_5, .int v8_6, .ref a8_7, .ref a8_8, .ref a8_9, .ref a8_10, .ref a8_11, .int v8_12, .ref a8_13, .ref a8_14, .ref a8_15, .ref a8_16, .ref a8_17, .ref a8_18, .ref a8_19, .ref a8_20, .ref a8_21, .ref a8_22, .ref a8_23, .ref a8_24, .int v8_25, .int v8_26, .ref a8_27, .ref a8_28, .ref a8_29, .ref a8_30, .ref a8_31, .int v8_32, .int v8_33, .int v8_34, .int v8_35, .ref a8_36, .ref a8_37, .int v8_38, .int v8_39, .int v8_40, .ref a8_41, .ref a8_42, .int v8_43])), (a8_7, .inl (c8_7, 120, .inl f8_7)), (a8_8, .inl (c8_8, 120, .inl f8_8)), (a8_9, .inl (c8_9, 120, .inl f8_9)), (a8_10, .inl (c8_10, 120, .inl f8_10))]) [0, 1, 2, 3, 4] (by decide) rfl
      exact W.iret (v := 2) hx hb hr (fun t ht hW => ⟨⟨2, (), rfl, trivial, (by rw [ht]; exact hP9), hD9⟩, h.2.2.2.1.F ht⟩) h.2.2.2.1.2.2 dX8_needed_64 hlocks
    · skip
      have i_5 : ¬ (f8_7 p0.toNatClampNeg).toInt = 9 := fun h9 => c_5 ((fa_eq _ _).mpr h9)
      refine lv_aload_n hx hb dX8_needed_31 rfl (lv_at hl 0 rfl) ?_
      refine k_get (v := .ref a8_7) E h (fun w h => List.mem_cons_of_mem _ (List.mem_append_right _ h)) 0 rfl rfl 7 (by decide) (List.mem_of_getElem? (i := 1) rfl) rfl dX8_needed_32 ?_
      refine lv_iload_n hx hb dX8_needed_35 rfl (lv_at hl 1 rfl) ?_
      refine k_iald (v := f8_7 p0.toNatClampNeg) E h 1 0 rfl rfl (vp_in_iff.mpr (by omega)) rfl dX8_needed_36 ?_
      refine kc_i (wc := []) (wr := [(o8, .inr (8, [.ref a8_0, .ref a8_1, .ref a8_2, .ref a8_3, .ref a8_4, .ref a8_5, .int v8_6, .ref a8_7, .ref a8_8, .ref a8_9, .ref a8_10, .ref a8_11, .int v8_12, .ref a8_13, .ref a8_14, .ref a8_15, .ref a8_16, .ref a8_17, .ref a8_18, .ref a8_19, .ref a8_20, .ref a8_21, .ref a8_22, .ref a8_23, .ref a8_24, .int v8_25, .int v8_26, .ref a8_27, .ref a8_28, .ref a8_29, .ref a8_30, .ref a8_31, .int v8_32, .int v8_33, .int v8_34, .int v8_35, .ref a8_36, .ref a8_37, .int v8_38, .int v8_39, .int v8_40, .ref a8_41, .ref a8_42, .int v8_43])), (a8_7, .inl (c8_7, 120, .inl f8_7)), (a8_8, .inl (c8_8, 120, .inl f8_8)), (a8_9, .inl (c8_9, 120, .inl f8_9)), (a8_10, .inl (c8_10, 120, .inl f8_10))]) h (va_runS (As := [.int (f8_7 p0.toNatClampNeg)]) (rest := []) E (c_X8_canTrap l dC dI _ (p0 := f8_7 p0.toNatClampNeg)  ) (va_cwS 1 E.2.2.2.2 gX8_needed_X8_canTrap rfl rfl rfl (by decide +kernel) ⟨Nat.le_of_ble_eq_true rfl, Nat.le_of_ble_eq_true rfl⟩) (kPreS h KX_true (fun _ _ _ => trivial) [] [] (by decide) rfl rfl) rfl rfl hl.1 rfl (lv_room (Nat.le_of_ble_eq_true rfl)) dX8_needed_37 ⟨Nat.le_of_ble_eq_true rfl, Nat.le_of_ble_eq_true rfl⟩) [] [0, 1, 2, 3, 4] rfl rfl (by decide) (by decide) (fun r_6 u_6 H locs hw_6 h => ?_)
      have h : KS (dC, dI) A [(o8, .inr (8, [.ref a8_0, .ref a8_1, .ref a8_2, .ref a8_3, .ref a8_4, .ref a8_5, .int v8_6, .ref a8_7, .ref a8_8, .ref a8_9, .ref a8_10, .ref a8_11, .int v8_12, .ref a8_13, .ref a8_14, .ref a8_15, .ref a8_16, .ref a8_17, .ref a8_18, .ref a8_19, .ref a8_20, .ref a8_21, .ref a8_22, .ref a8_23, .ref a8_24, .int v8_25, .int v8_26, .ref a8_27, .ref a8_28, .ref a8_29, .ref a8_30, .ref a8_31, .int v8_32, .int v8_33, .int v8_34, .int v8_35, .ref a8_36, .ref a8_37, .int v8_38, .int v8_39, .int v8_40, .ref a8_41, .ref a8_42, .int v8_43])), (a8_7, .inl (c8_7, 120, .inl f8_7)), (a8_8, .inl (c8_8, 120, .inl f8_8)), (a8_9, .inl (c8_9, 120, .inl f8_9)), (a8_10, .inl (c8_10, 120, .inl f8_10))] [(c8_7, .int), (c8_8, .int), (c8_9, .int), (c8_10, .int)] s H locs := h
      have hw_6 : r_6 = if ((f8_7 p0.toNatClampNeg).toInt = 7 ∨ (f8_7 p0.toNatClampNeg).toInt = 8 ∨ (f8_7 p0.toNatClampNeg).toInt = 10) then 1 else 0 := by first | exact hw_6 | (simp only [Int32.toInt_toInt64] at hw_6; exact hw_6)
      refine W.eq (g2 := F0 m 40 ls [.int r_6]) rfl ?_
      refine lv_if_eq (tgt := 65) hx hb dX8_needed_40 (by decide) (fun c_7 => ?_) (fun c_7 => ?_)
      · skip
        have b_7 := kb0 hw_6 c_7
        refine lv_aload_n hx hb dX8_needed_65 rfl (lv_at hl 0 rfl) ?_
        refine lv_iload_n hx hb dX8_needed_66 rfl (lv_at hl 1 rfl) ?_
        refine kc_i (wc := [(o8, .inr (8, [.ref a8_0, .ref a8_1, .ref a8_2, .ref a8_3, .ref a8_4, .ref a8_5, .int v8_6, .ref a8_7, .ref a8_8, .ref a8_9, .ref a8_10, .ref a8_11, .int v8_12, .ref a8_13, .ref a8_14, .ref a8_15, .ref a8_16, .ref a8_17, .ref a8_18, .ref a8_19, .ref a8_20, .ref a8_21, .ref a8_22, .ref a8_23, .ref a8_24, .int v8_25, .int v8_26, .ref a8_27, .ref a8_28, .ref a8_29, .ref a8_30, .ref a8_31, .int v8_32, .int v8_33, .int v8_34, .int v8_35, .ref a8_36, .ref a8_37, .int v8_38, .int v8_39, .int v8_40, .ref a8_41, .ref a8_42, .int v8_43])), (a8_7, .inl (c8_7, 120, .inl f8_7)), (a8_8, .inl (c8_8, 120, .inl f8_8)), (a8_9, .inl (c8_9, 120, .inl f8_9)), (a8_10, .inl (c8_10, 120, .inl f8_10))]) (wr := []) h (va_runV (As := [.int p0]) (rest := []) E (c_X8_reads l dC dI _ (o8 := o8) (a8_0 := a8_0) (a8_1 := a8_1) (a8_2 := a8_2) (a8_3 := a8_3) (a8_4 := a8_4) (a8_5 := a8_5) (v8_6 := v8_6) (a8_7 := a8_7) (a8_8 := a8_8) (a8_9 := a8_9) (a8_10 := a8_10) (a8_11 := a8_11) (v8_12 := v8_12) (a8_13 := a8_13) (a8_14 := a8_14) (a8_15 := a8_15) (a8_16 := a8_16) (a8_17 := a8_17) (a8_18 := a8_18) (a8_19 := a8_19) (a8_20 := a8_20) (a8_21 := a8_21) (a8_22 := a8_22) (a8_23 := a8_23) (a8_24 := a8_24) (v8_25 := v8_25) (v8_26 := v8_26) (a8_27 := a8_27) (a8_28 := a8_28) (a8_29 := a8_29) (a8_30 := a8_30) (a8_31 := a8_31) (v8_32 := v8_32) (v8_33 := v8_33) (v8_34 := v8_34) (v8_35 := v8_35) (a8_36 := a8_36) (a8_37 := a8_37) (v8_38 := v8_38) (v8_39 := v8_39) (v8_40 := v8_40) (a8_41 := a8_41) (a8_42 := a8_42) (v8_43 := v8_43) (c8_7 := c8_7) (f8_7 := f8_7) (c8_8 := c8_8) (f8_8 := f8_8) (c8_9 := c8_9) (f8_9 := f8_9) (c8_10 := c8_10) (f8_10 := f8_10) (p0 := p0)  (hp := (by first | decide | omega))) (cwV 1 E.2.2.2.2 gX8_needed_X8_reads rfl rfl rfl (by decide +kernel) ⟨Nat.le_of_ble_eq_true rfl, Nat.le_of_ble_eq_true rfl⟩) (kPreV (q0 := 0) (ci := 8) h KX_true (fun _ _ _ => trivial) [0, 1, 2, 3, 4] [0, 1, 2, 3] (by decide) rfl rfl rfl rfl) rfl rfl hl.1 rfl (lv_room (Nat.le_of_ble_eq_true rfl)) dX8_needed_67 ⟨Nat.le_of_ble_eq_true rfl, Nat.le_of_ble_eq_true rfl⟩) [0, 1, 2, 3, 4] [] rfl rfl (by decide) (by decide) (fun r_8 u_8 H locs hw_8 h => ?_)
        have h : KS (dC, dI) A [(o8, .inr (8, [.ref a8_0, .ref a8_1, .ref a8_2, .ref a8_3, .ref a8_4, .ref a8_5, .int v8_6, .ref a8_7, .ref a8_8, .ref a8_9, .ref a8_10, .ref a8_11, .int v8_12, .ref a8_13, .ref a8_14, .ref a8_15, .ref a8_16, .ref a8_17, .ref a8_18, .ref a8_19, .ref a8_20, .ref a8_21, .ref a8_22, .ref a8_23, .ref a8_24, .int v8_25, .int v8_26, .ref a8_27, .ref a8_28, .ref a8_29, .ref a8_30, .ref a8_31, .int v8_32, .int v8_33, .int v8_34, .int v8_35, .ref a8_36, .ref a8_37, .int v8_38, .int v8_39, .int v8_40, .ref a8_41, .ref a8_42, .int v8_43])), (a8_7, .inl (c8_7, 120, .inl f8_7)), (a8_8, .inl (c8_8, 120, .inl f8_8)), (a8_9, .inl (c8_9, 120, .inl f8_9)), (a8_10, .inl (c8_10, 120, .inl f8_10))] [(c8_7, .int), (c8_8, .int), (c8_9, .int), (c8_10, .int)] s H locs := h
        refine W.eq (g2 := F0 m 70 ls [.int r_8]) rfl ?_
        refine lv_aload_n hx hb dX8_needed_70 rfl (lv_at hl 0 rfl) ?_
        refine lv_iload_n hx hb dX8_needed_71 rfl (lv_at hl 2 rfl) ?_
        refine kc_i (wc := [(o8, .inr (8, [.ref a8_0, .ref a8_1, .ref a8_2, .ref a8_3, .ref a8_4, .ref a8_5, .int v8_6, .ref a8_7, .ref a8_8, .ref a8_9, .ref a8_10, .ref a8_11, .int v8_12, .ref a8_13, .ref a8_14, .ref a8_15, .ref a8_16, .ref a8_17, .ref a8_18, .ref a8_19, .ref a8_20, .ref a8_21, .ref a8_22, .ref a8_23, .ref a8_24, .int v8_25, .int v8_26, .ref a8_27, .ref a8_28, .ref a8_29, .ref a8_30, .ref a8_31, .int v8_32, .int v8_33, .int v8_34, .int v8_35, .ref a8_36, .ref a8_37, .int v8_38, .int v8_39, .int v8_40, .ref a8_41, .ref a8_42, .int v8_43])), (a8_7, .inl (c8_7, 120, .inl f8_7)), (a8_8, .inl (c8_8, 120, .inl f8_8)), (a8_9, .inl (c8_9, 120, .inl f8_9)), (a8_10, .inl (c8_10, 120, .inl f8_10))]) (wr := []) h (va_runV (As := [.int p1]) (rest := [.int r_8]) E (c_X8_writes l dC dI _ (o8 := o8) (a8_0 := a8_0) (a8_1 := a8_1) (a8_2 := a8_2) (a8_3 := a8_3) (a8_4 := a8_4) (a8_5 := a8_5) (v8_6 := v8_6) (a8_7 := a8_7) (a8_8 := a8_8) (a8_9 := a8_9) (a8_10 := a8_10) (a8_11 := a8_11) (v8_12 := v8_12) (a8_13 := a8_13) (a8_14 := a8_14) (a8_15 := a8_15) (a8_16 := a8_16) (a8_17 := a8_17) (a8_18 := a8_18) (a8_19 := a8_19) (a8_20 := a8_20) (a8_21 := a8_21) (a8_22 := a8_22) (a8_23 := a8_23) (a8_24 := a8_24) (v8_25 := v8_25) (v8_26 := v8_26) (a8_27 := a8_27) (a8_28 := a8_28) (a8_29 := a8_29) (a8_30 := a8_30) (a8_31 := a8_31) (v8_32 := v8_32) (v8_33 := v8_33) (v8_34 := v8_34) (v8_35 := v8_35) (a8_36 := a8_36) (a8_37 := a8_37) (v8_38 := v8_38) (v8_39 := v8_39) (v8_40 := v8_40) (a8_41 := a8_41) (a8_42 := a8_42) (v8_43 := v8_43) (c8_7 := c8_7) (f8_7 := f8_7) (c8_8 := c8_8) (f8_8 := f8_8) (c8_9 := c8_9) (f8_9 := f8_9) (c8_10 := c8_10) (f8_10 := f8_10) (p0 := p1)  (hp := (by first | decide | omega))) (cwV 1 E.2.2.2.2 gX8_needed_X8_writes rfl rfl rfl (by decide +kernel) ⟨Nat.le_of_ble_eq_true rfl, Nat.le_of_ble_eq_true rfl⟩) (kPreV (q0 := 0) (ci := 8) h KX_true (fun _ _ _ => trivial) [0, 1, 2, 3, 4] [0, 1, 2, 3] (by decide) rfl rfl rfl rfl) rfl rfl hl.1 rfl (lv_room (Nat.le_of_ble_eq_true rfl)) dX8_needed_72 ⟨Nat.le_of_ble_eq_true rfl, Nat.le_of_ble_eq_true rfl⟩) [0, 1, 2, 3, 4] [] rfl rfl (by decide) (by decide) (fun r_9 u_9 H locs hw_9 h => ?_)
        have h : KS (dC, dI) A [(o8, .inr (8, [.ref a8_0, .ref a8_1, .ref a8_2, .ref a8_3, .ref a8_4, .ref a8_5, .int v8_6, .ref a8_7, .ref a8_8, .ref a8_9, .ref a8_10, .ref a8_11, .int v8_12, .ref a8_13, .ref a8_14, .ref a8_15, .ref a8_16, .ref a8_17, .ref a8_18, .ref a8_19, .ref a8_20, .ref a8_21, .ref a8_22, .ref a8_23, .ref a8_24, .int v8_25, .int v8_26, .ref a8_27, .ref a8_28, .ref a8_29, .ref a8_30, .ref a8_31, .int v8_32, .int v8_33, .int v8_34, .int v8_35, .ref a8_36, .ref a8_37, .int v8_38, .int v8_39, .int v8_40, .ref a8_41, .ref a8_42, .int v8_43])), (a8_7, .inl (c8_7, 120, .inl f8_7)), (a8_8, .inl (c8_8, 120, .inl f8_8)), (a8_9, .inl (c8_9, 120, .inl f8_9)), (a8_10, .inl (c8_10, 120, .inl f8_10))] [(c8_7, .int), (c8_8, .int), (c8_9, .int), (c8_10, .int)] s H locs := h
        refine W.eq (g2 := F0 m 75 ls [.int r_9, .int r_8]) rfl ?_
        refine lv_iand hx hb dX8_needed_75 ?_
        refine lv_if_ne (tgt := 90) hx hb dX8_needed_76 (by decide) (fun c_10 => ?_) (fun c_10 => ?_)
        · skip
          have i_10 : ¬ (r_8 &&& r_9).toInt = 0 := fun h9 => c_10 ((fa_eq _ _).mpr h9)
          refine lv_iconst (v := 1) hx hb dX8_needed_90 (by decide) ?_
          refine lv_goto (tgt := 95) hx hb dX8_needed_91 (by decide) ?_
          have hP9 := h.2.1.sub [0, 1, 2, 3, 4] rfl
          have hD9 := h.2.2.1.sub (ws' := [(o8, .inr (8, [.ref a8_0, .ref a8_1, .ref a8_2, .ref a8_3, .ref a8_4, .ref a8_5, .int v8_6, .ref a8_7, .ref a8_8, .ref a8_9, .ref a8_10, .ref a8_11, .int v8_12, .ref a8_13, .ref a8_14, .ref a8_15, .ref a8_16, .ref a8_17, .ref a8_18, .ref a8_19, .ref a8_20, .ref a8_21, .ref a8_22, .ref a8_23, .ref a8_24, .int v8_25, .int v8_26, .ref a8_27, .ref a8_28, .ref a8_29, .ref a8_30, .ref a8_31, .int v8_32, .int v8_33, .int v8_34, .int v8_35, .ref a8_36, .ref a8_37, .int v8_38, .int v8_39, .int v8_40, .ref a8_41, .ref a8_42, .int v8_43])), (a8_7, .inl (c8_7, 120, .inl f8_7)), (a8_8, .inl (c8_8, 120, .inl f8_8)), (a8_9, .inl (c8_9, 120, .inl f8_9)), (a8_10, .inl (c8_10, 120, .inl f8_10))]) [0, 1, 2, 3, 4] (by decide) rfl
          exact W.iret (v := 1) hx hb hr (fun t ht hW => ⟨⟨1, (), rfl, trivial, (by rw [ht]; exact hP9), hD9⟩, h.2.2.2.1.F ht⟩) h.2.2.2.1.2.2 dX8_needed_95 hlocks
        · skip
          have i_10 : (r_8 &&& r_9).toInt = 0 := (fa_eq _ _).mp c_10
          refine lv_aload_n hx hb dX8_needed_79 rfl (lv_at hl 0 rfl) ?_
          refine k_get (v := .ref a8_7) E h (fun w h => List.mem_cons_of_mem _ (List.mem_append_right _ h)) 0 rfl rfl 7 (by decide) (List.mem_of_getElem? (i := 1) rfl) rfl dX8_needed_80 ?_
          refine lv_iload_n hx hb dX8_needed_83 rfl (lv_at hl 2 rfl) ?_
          refine k_iald (v := f8_7 p1.toNatClampNeg) E h 1 0 rfl rfl (vp_in_iff.mpr (by omega)) rfl dX8_needed_84 ?_
          refine lv_bipush (v := 9) hx hb dX8_needed_85 (by decide) ?_
          refine lv_icmp_ne (tgt := 94) hx hb dX8_needed_87 (by decide) (fun c_11 => ?_) (fun c_11 => ?_)
          · skip
            have i_11 : ¬ (f8_7 p1.toNatClampNeg).toInt = 9 := fun h9 => c_11 ((fa_eq _ _).mpr h9)
            refine lv_iconst (v := 0) hx hb dX8_needed_94 (by decide) ?_
            have hP9 := h.2.1.sub [0, 1, 2, 3, 4] rfl
            have hD9 := h.2.2.1.sub (ws' := [(o8, .inr (8, [.ref a8_0, .ref a8_1, .ref a8_2, .ref a8_3, .ref a8_4, .ref a8_5, .int v8_6, .ref a8_7, .ref a8_8, .ref a8_9, .ref a8_10, .ref a8_11, .int v8_12, .ref a8_13, .ref a8_14, .ref a8_15, .ref a8_16, .ref a8_17, .ref a8_18, .ref a8_19, .ref a8_20, .ref a8_21, .ref a8_22, .ref a8_23, .ref a8_24, .int v8_25, .int v8_26, .ref a8_27, .ref a8_28, .ref a8_29, .ref a8_30, .ref a8_31, .int v8_32, .int v8_33, .int v8_34, .int v8_35, .ref a8_36, .ref a8_37, .int v8_38, .int v8_39, .int v8_40, .ref a8_41, .ref a8_42, .int v8_43])), (a8_7, .inl (c8_7, 120, .inl f8_7)), (a8_8, .inl (c8_8, 120, .inl f8_8)), (a8_9, .inl (c8_9, 120, .inl f8_9)), (a8_10, .inl (c8_10, 120, .inl f8_10))]) [0, 1, 2, 3, 4] (by decide) rfl
            exact W.iret (v := 0) hx hb hr (fun t ht hW => ⟨⟨0, (), rfl, trivial, (by rw [ht]; exact hP9), hD9⟩, h.2.2.2.1.F ht⟩) h.2.2.2.1.2.2 dX8_needed_95 hlocks
          · skip
            have i_11 : (f8_7 p1.toNatClampNeg).toInt = 9 := (fa_eq _ _).mp c_11
            refine lv_iconst (v := 1) hx hb dX8_needed_90 (by decide) ?_
            refine lv_goto (tgt := 95) hx hb dX8_needed_91 (by decide) ?_
            have hP9 := h.2.1.sub [0, 1, 2, 3, 4] rfl
            have hD9 := h.2.2.1.sub (ws' := [(o8, .inr (8, [.ref a8_0, .ref a8_1, .ref a8_2, .ref a8_3, .ref a8_4, .ref a8_5, .int v8_6, .ref a8_7, .ref a8_8, .ref a8_9, .ref a8_10, .ref a8_11, .int v8_12, .ref a8_13, .ref a8_14, .ref a8_15, .ref a8_16, .ref a8_17, .ref a8_18, .ref a8_19, .ref a8_20, .ref a8_21, .ref a8_22, .ref a8_23, .ref a8_24, .int v8_25, .int v8_26, .ref a8_27, .ref a8_28, .ref a8_29, .ref a8_30, .ref a8_31, .int v8_32, .int v8_33, .int v8_34, .int v8_35, .ref a8_36, .ref a8_37, .int v8_38, .int v8_39, .int v8_40, .ref a8_41, .ref a8_42, .int v8_43])), (a8_7, .inl (c8_7, 120, .inl f8_7)), (a8_8, .inl (c8_8, 120, .inl f8_8)), (a8_9, .inl (c8_9, 120, .inl f8_9)), (a8_10, .inl (c8_10, 120, .inl f8_10))]) [0, 1, 2, 3, 4] (by decide) rfl
            exact W.iret (v := 1) hx hb hr (fun t ht hW => ⟨⟨1, (), rfl, trivial, (by rw [ht]; exact hP9), hD9⟩, h.2.2.2.1.F ht⟩) h.2.2.2.1.2.2 dX8_needed_95 hlocks
      · skip
        have b_7 := kb1 hw_6 c_7
        refine lv_aload_n hx hb dX8_needed_43 rfl (lv_at hl 0 rfl) ?_
        refine lv_iload_n hx hb dX8_needed_44 rfl (lv_at hl 2 rfl) ?_
        refine kc_i (wc := [(o8, .inr (8, [.ref a8_0, .ref a8_1, .ref a8_2, .ref a8_3, .ref a8_4, .ref a8_5, .int v8_6, .ref a8_7, .ref a8_8, .ref a8_9, .ref a8_10, .ref a8_11, .int v8_12, .ref a8_13, .ref a8_14, .ref a8_15, .ref a8_16, .ref a8_17, .ref a8_18, .ref a8_19, .ref a8_20, .ref a8_21, .ref a8_22, .ref a8_23, .ref a8_24, .int v8_25, .int v8_26, .ref a8_27, .ref a8_28, .ref a8_29, .ref a8_30, .ref a8_31, .int v8_32, .int v8_33, .int v8_34, .int v8_35, .ref a8_36, .ref a8_37, .int v8_38, .int v8_39, .int v8_40, .ref a8_41, .ref a8_42, .int v8_43])), (a8_7, .inl (c8_7, 120, .inl f8_7)), (a8_8, .inl (c8_8, 120, .inl f8_8)), (a8_9, .inl (c8_9, 120, .inl f8_9)), (a8_10, .inl (c8_10, 120, .inl f8_10))]) (wr := []) h (va_runV (As := [.int p1]) (rest := []) E (c_X8_writes l dC dI _ (o8 := o8) (a8_0 := a8_0) (a8_1 := a8_1) (a8_2 := a8_2) (a8_3 := a8_3) (a8_4 := a8_4) (a8_5 := a8_5) (v8_6 := v8_6) (a8_7 := a8_7) (a8_8 := a8_8) (a8_9 := a8_9) (a8_10 := a8_10) (a8_11 := a8_11) (v8_12 := v8_12) (a8_13 := a8_13) (a8_14 := a8_14) (a8_15 := a8_15) (a8_16 := a8_16) (a8_17 := a8_17) (a8_18 := a8_18) (a8_19 := a8_19) (a8_20 := a8_20) (a8_21 := a8_21) (a8_22 := a8_22) (a8_23 := a8_23) (a8_24 := a8_24) (v8_25 := v8_25) (v8_26 := v8_26) (a8_27 := a8_27) (a8_28 := a8_28) (a8_29 := a8_29) (a8_30 := a8_30) (a8_31 := a8_31) (v8_32 := v8_32) (v8_33 := v8_33) (v8_34 := v8_34) (v8_35 := v8_35) (a8_36 := a8_36) (a8_37 := a8_37) (v8_38 := v8_38) (v8_39 := v8_39) (v8_40 := v8_40) (a8_41 := a8_41) (a8_42 := a8_42) (v8_43 := v8_43) (c8_7 := c8_7) (f8_7 := f8_7) (c8_8 := c8_8) (f8_8 := f8_8) (c8_9 := c8_9) (f8_9 := f8_9) (c8_10 := c8_10) (f8_10 := f8_10) (p0 := p1)  (hp := (by first | decide | omega))) (cwV 1 E.2.2.2.2 gX8_needed_X8_writes rfl rfl rfl (by decide +kernel) ⟨Nat.le_of_ble_eq_true rfl, Nat.le_of_ble_eq_true rfl⟩) (kPreV (q0 := 0) (ci := 8) h KX_true (fun _ _ _ => trivial) [0, 1, 2, 3, 4] [0, 1, 2, 3] (by decide) rfl rfl rfl rfl) rfl rfl hl.1 rfl (lv_room (Nat.le_of_ble_eq_true rfl)) dX8_needed_45 ⟨Nat.le_of_ble_eq_true rfl, Nat.le_of_ble_eq_true rfl⟩) [0, 1, 2, 3, 4] [] rfl rfl (by decide) (by decide) (fun r_12 u_12 H locs hw_12 h => ?_)
        have h : KS (dC, dI) A [(o8, .inr (8, [.ref a8_0, .ref a8_1, .ref a8_2, .ref a8_3, .ref a8_4, .ref a8_5, .int v8_6, .ref a8_7, .ref a8_8, .ref a8_9, .ref a8_10, .ref a8_11, .int v8_12, .ref a8_13, .ref a8_14, .ref a8_15, .ref a8_16, .ref a8_17, .ref a8_18, .ref a8_19, .ref a8_20, .ref a8_21, .ref a8_22, .ref a8_23, .ref a8_24, .int v8_25, .int v8_26, .ref a8_27, .ref a8_28, .ref a8_29, .ref a8_30, .ref a8_31, .int v8_32, .int v8_33, .int v8_34, .int v8_35, .ref a8_36, .ref a8_37, .int v8_38, .int v8_39, .int v8_40, .ref a8_41, .ref a8_42, .int v8_43])), (a8_7, .inl (c8_7, 120, .inl f8_7)), (a8_8, .inl (c8_8, 120, .inl f8_8)), (a8_9, .inl (c8_9, 120, .inl f8_9)), (a8_10, .inl (c8_10, 120, .inl f8_10))] [(c8_7, .int), (c8_8, .int), (c8_9, .int), (c8_10, .int)] s H locs := h
        refine W.eq (g2 := F0 m 48 ls [.int r_12]) rfl ?_
        refine lv_if_ne (tgt := 63) hx hb dX8_needed_48 (by decide) (fun c_13 => ?_) (fun c_13 => ?_)
        · skip
          have i_13 : ¬ r_12.toInt = 0 := fun h9 => c_13 ((fa_eq _ _).mpr h9)
          refine lv_iconst (v := 2) hx hb dX8_needed_63 (by decide) ?_
          have hP9 := h.2.1.sub [0, 1, 2, 3, 4] rfl
          have hD9 := h.2.2.1.sub (ws' := [(o8, .inr (8, [.ref a8_0, .ref a8_1, .ref a8_2, .ref a8_3, .ref a8_4, .ref a8_5, .int v8_6, .ref a8_7, .ref a8_8, .ref a8_9, .ref a8_10, .ref a8_11, .int v8_12, .ref a8_13, .ref a8_14, .ref a8_15, .ref a8_16, .ref a8_17, .ref a8_18, .ref a8_19, .ref a8_20, .ref a8_21, .ref a8_22, .ref a8_23, .ref a8_24, .int v8_25, .int v8_26, .ref a8_27, .ref a8_28, .ref a8_29, .ref a8_30, .ref a8_31, .int v8_32, .int v8_33, .int v8_34, .int v8_35, .ref a8_36, .ref a8_37, .int v8_38, .int v8_39, .int v8_40, .ref a8_41, .ref a8_42, .int v8_43])), (a8_7, .inl (c8_7, 120, .inl f8_7)), (a8_8, .inl (c8_8, 120, .inl f8_8)), (a8_9, .inl (c8_9, 120, .inl f8_9)), (a8_10, .inl (c8_10, 120, .inl f8_10))]) [0, 1, 2, 3, 4] (by decide) rfl
          exact W.iret (v := 2) hx hb hr (fun t ht hW => ⟨⟨2, (), rfl, trivial, (by rw [ht]; exact hP9), hD9⟩, h.2.2.2.1.F ht⟩) h.2.2.2.1.2.2 dX8_needed_64 hlocks
        · skip
          have i_13 : r_12.toInt = 0 := (fa_eq _ _).mp c_13
          refine lv_aload_n hx hb dX8_needed_51 rfl (lv_at hl 0 rfl) ?_
          refine k_get (v := .ref a8_7) E h (fun w h => List.mem_cons_of_mem _ (List.mem_append_right _ h)) 0 rfl rfl 7 (by decide) (List.mem_of_getElem? (i := 1) rfl) rfl dX8_needed_52 ?_
          refine lv_iload_n hx hb dX8_needed_55 rfl (lv_at hl 2 rfl) ?_
          refine k_iald (v := f8_7 p1.toNatClampNeg) E h 1 0 rfl rfl (vp_in_iff.mpr (by omega)) rfl dX8_needed_56 ?_
          refine kc_i (wc := []) (wr := [(o8, .inr (8, [.ref a8_0, .ref a8_1, .ref a8_2, .ref a8_3, .ref a8_4, .ref a8_5, .int v8_6, .ref a8_7, .ref a8_8, .ref a8_9, .ref a8_10, .ref a8_11, .int v8_12, .ref a8_13, .ref a8_14, .ref a8_15, .ref a8_16, .ref a8_17, .ref a8_18, .ref a8_19, .ref a8_20, .ref a8_21, .ref a8_22, .ref a8_23, .ref a8_24, .int v8_25, .int v8_26, .ref a8_27, .ref a8_28, .ref a8_29, .ref a8_30, .ref a8_31, .int v8_32, .int v8_33, .int v8_34, .int v8_35, .ref a8_36, .ref a8_37, .int v8_38, .int v8_39, .int v8_40, .ref a8_41, .ref a8_42, .int v8_43])), (a8_7, .inl (c8_7, 120, .inl f8_7)), (a8_8, .inl (c8_8, 120, .inl f8_8)), (a8_9, .inl (c8_9, 120, .inl f8_9)), (a8_10, .inl (c8_10, 120, .inl f8_10))]) h (va_runS (As := [.int (f8_7 p1.toNatClampNeg)]) (rest := []) E (c_X8_canTrap l dC dI _ (p0 := f8_7 p1.toNatClampNeg)  ) (va_cwS 1 E.2.2.2.2 gX8_needed_X8_canTrap rfl rfl rfl (by decide +kernel) ⟨Nat.le_of_ble_eq_true rfl, Nat.le_of_ble_eq_true rfl⟩) (kPreS h KX_true (fun _ _ _ => trivial) [] [] (by decide) rfl rfl) rfl rfl hl.1 rfl (lv_room (Nat.le_of_ble_eq_true rfl)) dX8_needed_57 ⟨Nat.le_of_ble_eq_true rfl, Nat.le_of_ble_eq_true rfl⟩) [] [0, 1, 2, 3, 4] rfl rfl (by decide) (by decide) (fun r_14 u_14 H locs hw_14 h => ?_)
          have h : KS (dC, dI) A [(o8, .inr (8, [.ref a8_0, .ref a8_1, .ref a8_2, .ref a8_3, .ref a8_4, .ref a8_5, .int v8_6, .ref a8_7, .ref a8_8, .ref a8_9, .ref a8_10, .ref a8_11, .int v8_12, .ref a8_13, .ref a8_14, .ref a8_15, .ref a8_16, .ref a8_17, .ref a8_18, .ref a8_19, .ref a8_20, .ref a8_21, .ref a8_22, .ref a8_23, .ref a8_24, .int v8_25, .int v8_26, .ref a8_27, .ref a8_28, .ref a8_29, .ref a8_30, .ref a8_31, .int v8_32, .int v8_33, .int v8_34, .int v8_35, .ref a8_36, .ref a8_37, .int v8_38, .int v8_39, .int v8_40, .ref a8_41, .ref a8_42, .int v8_43])), (a8_7, .inl (c8_7, 120, .inl f8_7)), (a8_8, .inl (c8_8, 120, .inl f8_8)), (a8_9, .inl (c8_9, 120, .inl f8_9)), (a8_10, .inl (c8_10, 120, .inl f8_10))] [(c8_7, .int), (c8_8, .int), (c8_9, .int), (c8_10, .int)] s H locs := h
          have hw_14 : r_14 = if ((f8_7 p1.toNatClampNeg).toInt = 7 ∨ (f8_7 p1.toNatClampNeg).toInt = 8 ∨ (f8_7 p1.toNatClampNeg).toInt = 10) then 1 else 0 := by first | exact hw_14 | (simp only [Int32.toInt_toInt64] at hw_14; exact hw_14)
          refine W.eq (g2 := F0 m 60 ls [.int r_14]) rfl ?_
          refine lv_if_eq (tgt := 65) hx hb dX8_needed_60 (by decide) (fun c_15 => ?_) (fun c_15 => ?_)
          · skip
            have b_15 := kb0 hw_14 c_15
            refine lv_aload_n hx hb dX8_needed_65 rfl (lv_at hl 0 rfl) ?_
            refine lv_iload_n hx hb dX8_needed_66 rfl (lv_at hl 1 rfl) ?_
            refine kc_i (wc := [(o8, .inr (8, [.ref a8_0, .ref a8_1, .ref a8_2, .ref a8_3, .ref a8_4, .ref a8_5, .int v8_6, .ref a8_7, .ref a8_8, .ref a8_9, .ref a8_10, .ref a8_11, .int v8_12, .ref a8_13, .ref a8_14, .ref a8_15, .ref a8_16, .ref a8_17, .ref a8_18, .ref a8_19, .ref a8_20, .ref a8_21, .ref a8_22, .ref a8_23, .ref a8_24, .int v8_25, .int v8_26, .ref a8_27, .ref a8_28, .ref a8_29, .ref a8_30, .ref a8_31, .int v8_32, .int v8_33, .int v8_34, .int v8_35, .ref a8_36, .ref a8_37, .int v8_38, .int v8_39, .int v8_40, .ref a8_41, .ref a8_42, .int v8_43])), (a8_7, .inl (c8_7, 120, .inl f8_7)), (a8_8, .inl (c8_8, 120, .inl f8_8)), (a8_9, .inl (c8_9, 120, .inl f8_9)), (a8_10, .inl (c8_10, 120, .inl f8_10))]) (wr := []) h (va_runV (As := [.int p0]) (rest := []) E (c_X8_reads l dC dI _ (o8 := o8) (a8_0 := a8_0) (a8_1 := a8_1) (a8_2 := a8_2) (a8_3 := a8_3) (a8_4 := a8_4) (a8_5 := a8_5) (v8_6 := v8_6) (a8_7 := a8_7) (a8_8 := a8_8) (a8_9 := a8_9) (a8_10 := a8_10) (a8_11 := a8_11) (v8_12 := v8_12) (a8_13 := a8_13) (a8_14 := a8_14) (a8_15 := a8_15) (a8_16 := a8_16) (a8_17 := a8_17) (a8_18 := a8_18) (a8_19 := a8_19) (a8_20 := a8_20) (a8_21 := a8_21) (a8_22 := a8_22) (a8_23 := a8_23) (a8_24 := a8_24) (v8_25 := v8_25) (v8_26 := v8_26) (a8_27 := a8_27) (a8_28 := a8_28) (a8_29 := a8_29) (a8_30 := a8_30) (a8_31 := a8_31) (v8_32 := v8_32) (v8_33 := v8_33) (v8_34 := v8_34) (v8_35 := v8_35) (a8_36 := a8_36) (a8_37 := a8_37) (v8_38 := v8_38) (v8_39 := v8_39) (v8_40 := v8_40) (a8_41 := a8_41) (a8_42 := a8_42) (v8_43 := v8_43) (c8_7 := c8_7) (f8_7 := f8_7) (c8_8 := c8_8) (f8_8 := f8_8) (c8_9 := c8_9) (f8_9 := f8_9) (c8_10 := c8_10) (f8_10 := f8_10) (p0 := p0)  (hp := (by first | decide | omega))) (cwV 1 E.2.2.2.2 gX8_needed_X8_reads rfl rfl rfl (by decide +kernel) ⟨Nat.le_of_ble_eq_true rfl, Nat.le_of_ble_eq_true rfl⟩) (kPreV (q0 := 0) (ci := 8) h KX_true (fun _ _ _ => trivial) [0, 1, 2, 3, 4] [0, 1, 2, 3] (by decide) rfl rfl rfl rfl) rfl rfl hl.1 rfl (lv_room (Nat.le_of_ble_eq_true rfl)) dX8_needed_67 ⟨Nat.le_of_ble_eq_true rfl, Nat.le_of_ble_eq_true rfl⟩) [0, 1, 2, 3, 4] [] rfl rfl (by decide) (by decide) (fun r_16 u_16 H locs hw_16 h => ?_)
            have h : KS (dC, dI) A [(o8, .inr (8, [.ref a8_0, .ref a8_1, .ref a8_2, .ref a8_3, .ref a8_4, .ref a8_5, .int v8_6, .ref a8_7, .ref a8_8, .ref a8_9, .ref a8_10, .ref a8_11, .int v8_12, .ref a8_13, .ref a8_14, .ref a8_15, .ref a8_16, .ref a8_17, .ref a8_18, .ref a8_19, .ref a8_20, .ref a8_21, .ref a8_22, .ref a8_23, .ref a8_24, .int v8_25, .int v8_26, .ref a8_27, .ref a8_28, .ref a8_29, .ref a8_30, .ref a8_31, .int v8_32, .int v8_33, .int v8_34, .int v8_35, .ref a8_36, .ref a8_37, .int v8_38, .int v8_39, .int v8_40, .ref a8_41, .ref a8_42, .int v8_43])), (a8_7, .inl (c8_7, 120, .inl f8_7)), (a8_8, .inl (c8_8, 120, .inl f8_8)), (a8_9, .inl (c8_9, 120, .inl f8_9)), (a8_10, .inl (c8_10, 120, .inl f8_10))] [(c8_7, .int), (c8_8, .int), (c8_9, .int), (c8_10, .int)] s H locs := h
            refine W.eq (g2 := F0 m 70 ls [.int r_16]) rfl ?_
            refine lv_aload_n hx hb dX8_needed_70 rfl (lv_at hl 0 rfl) ?_
            refine lv_iload_n hx hb dX8_needed_71 rfl (lv_at hl 2 rfl) ?_
            refine kc_i (wc := [(o8, .inr (8, [.ref a8_0, .ref a8_1, .ref a8_2, .ref a8_3, .ref a8_4, .ref a8_5, .int v8_6, .ref a8_7, .ref a8_8, .ref a8_9, .ref a8_10, .ref a8_11, .int v8_12, .ref a8_13, .ref a8_14, .ref a8_15, .ref a8_16, .ref a8_17, .ref a8_18, .ref a8_19, .ref a8_20, .ref a8_21, .ref a8_22, .ref a8_23, .ref a8_24, .int v8_25, .int v8_26, .ref a8_27, .ref a8_28, .ref a8_29, .ref a8_30, .ref a8_31, .int v8_32, .int v8_33, .int v8_34, .int v8_35, .ref a8_36, .ref a8_37, .int v8_38, .int v8_39, .int v8_40, .ref a8_41, .ref a8_42, .int v8_43])), (a8_7, .inl (c8_7, 120, .inl f8_7)), (a8_8, .inl (c8_8, 120, .inl f8_8)), (a8_9, .inl (c8_9, 120, .inl f8_9)), (a8_10, .inl (c8_10, 120, .inl f8_10))]) (wr := []) h (va_runV (As := [.int p1]) (rest := [.int r_16]) E (c_X8_writes l dC dI _ (o8 := o8) (a8_0 := a8_0) (a8_1 := a8_1) (a8_2 := a8_2) (a8_3 := a8_3) (a8_4 := a8_4) (a8_5 := a8_5) (v8_6 := v8_6) (a8_7 := a8_7) (a8_8 := a8_8) (a8_9 := a8_9) (a8_10 := a8_10) (a8_11 := a8_11) (v8_12 := v8_12) (a8_13 := a8_13) (a8_14 := a8_14) (a8_15 := a8_15) (a8_16 := a8_16) (a8_17 := a8_17) (a8_18 := a8_18) (a8_19 := a8_19) (a8_20 := a8_20) (a8_21 := a8_21) (a8_22 := a8_22) (a8_23 := a8_23) (a8_24 := a8_24) (v8_25 := v8_25) (v8_26 := v8_26) (a8_27 := a8_27) (a8_28 := a8_28) (a8_29 := a8_29) (a8_30 := a8_30) (a8_31 := a8_31) (v8_32 := v8_32) (v8_33 := v8_33) (v8_34 := v8_34) (v8_35 := v8_35) (a8_36 := a8_36) (a8_37 := a8_37) (v8_38 := v8_38) (v8_39 := v8_39) (v8_40 := v8_40) (a8_41 := a8_41) (a8_42 := a8_42) (v8_43 := v8_43) (c8_7 := c8_7) (f8_7 := f8_7) (c8_8 := c8_8) (f8_8 := f8_8) (c8_9 := c8_9) (f8_9 := f8_9) (c8_10 := c8_10) (f8_10 := f8_10) (p0 := p1)  (hp := (by first | decide | omega))) (cwV 1 E.2.2.2.2 gX8_needed_X8_writes rfl rfl rfl (by decide +kernel) ⟨Nat.le_of_ble_eq_true rfl, Nat.le_of_ble_eq_true rfl⟩) (kPreV (q0 := 0) (ci := 8) h KX_true (fun _ _ _ => trivial) [0, 1, 2, 3, 4] [0, 1, 2, 3] (by decide) rfl rfl rfl rfl) rfl rfl hl.1 rfl (lv_room (Nat.le_of_ble_eq_true rfl)) dX8_needed_72 ⟨Nat.le_of_ble_eq_true rfl, Nat.le_of_ble_eq_true rfl⟩) [0, 1, 2, 3, 4] [] rfl rfl (by decide) (by decide) (fun r_17 u_17 H locs hw_17 h => ?_)
            have h : KS (dC, dI) A [(o8, .inr (8, [.ref a8_0, .ref a8_1, .ref a8_2, .ref a8_3, .ref a8_4, .ref a8_5, .int v8_6, .ref a8_7, .ref a8_8, .ref a8_9, .ref a8_10, .ref a8_11, .int v8_12, .ref a8_13, .ref a8_14, .ref a8_15, .ref a8_16, .ref a8_17, .ref a8_18, .ref a8_19, .ref a8_20, .ref a8_21, .ref a8_22, .ref a8_23, .ref a8_24, .int v8_25, .int v8_26, .ref a8_27, .ref a8_28, .ref a8_29, .ref a8_30, .ref a8_31, .int v8_32, .int v8_33, .int v8_34, .int v8_35, .ref a8_36, .ref a8_37, .int v8_38, .int v8_39, .int v8_40, .ref a8_41, .ref a8_42, .int v8_43])), (a8_7, .inl (c8_7, 120, .inl f8_7)), (a8_8, .inl (c8_8, 120, .inl f8_8)), (a8_9, .inl (c8_9, 120, .inl f8_9)), (a8_10, .inl (c8_10, 120, .inl f8_10))] [(c8_7, .int), (c8_8, .int), (c8_9, .int), (c8_10, .int)] s H locs := h
            refine W.eq (g2 := F0 m 75 ls [.int r_17, .int r_16]) rfl ?_
            refine lv_iand hx hb dX8_needed_75 ?_
            refine lv_if_ne (tgt := 90) hx hb dX8_needed_76 (by decide) (fun c_18 => ?_) (fun c_18 => ?_)
            · skip
              have i_18 : ¬ (r_16 &&& r_17).toInt = 0 := fun h9 => c_18 ((fa_eq _ _).mpr h9)
              refine lv_iconst (v := 1) hx hb dX8_needed_90 (by decide) ?_
              refine lv_goto (tgt := 95) hx hb dX8_needed_91 (by decide) ?_
              have hP9 := h.2.1.sub [0, 1, 2, 3, 4] rfl
              have hD9 := h.2.2.1.sub (ws' := [(o8, .inr (8, [.ref a8_0, .ref a8_1, .ref a8_2, .ref a8_3, .ref a8_4, .ref a8_5, .int v8_6, .ref a8_7, .ref a8_8, .ref a8_9, .ref a8_10, .ref a8_11, .int v8_12, .ref a8_13, .ref a8_14, .ref a8_15, .ref a8_16, .ref a8_17, .ref a8_18, .ref a8_19, .ref a8_20, .ref a8_21, .ref a8_22, .ref a8_23, .ref a8_24, .int v8_25, .int v8_26, .ref a8_27, .ref a8_28, .ref a8_29, .ref a8_30, .ref a8_31, .int v8_32, .int v8_33, .int v8_34, .int v8_35, .ref a8_36, .ref a8_37, .int v8_38, .int v8_39, .int v8_40, .ref a8_41, .ref a8_42, .int v8_43])), (a8_7, .inl (c8_7, 120, .inl f8_7)), (a8_8, .inl (c8_8, 120, .inl f8_8)), (a8_9, .inl (c8_9, 120, .inl f8_9)), (a8_10, .inl (c8_10, 120, .inl f8_10))]) [0, 1, 2, 3, 4] (by decide) rfl
              exact W.iret (v := 1) hx hb hr (fun t ht hW => ⟨⟨1, (), rfl, trivial, (by rw [ht]; exact hP9), hD9⟩, h.2.2.2.1.F ht⟩) h.2.2.2.1.2.2 dX8_needed_95 hlocks
            · skip
              have i_18 : (r_16 &&& r_17).toInt = 0 := (fa_eq _ _).mp c_18
              refine lv_aload_n hx hb dX8_needed_79 rfl (lv_at hl 0 rfl) ?_
              refine k_get (v := .ref a8_7) E h (fun w h => List.mem_cons_of_mem _ (List.mem_append_right _ h)) 0 rfl rfl 7 (by decide) (List.mem_of_getElem? (i := 1) rfl) rfl dX8_needed_80 ?_
              refine lv_iload_n hx hb dX8_needed_83 rfl (lv_at hl 2 rfl) ?_
              refine k_iald (v := f8_7 p1.toNatClampNeg) E h 1 0 rfl rfl (vp_in_iff.mpr (by omega)) rfl dX8_needed_84 ?_
              refine lv_bipush (v := 9) hx hb dX8_needed_85 (by decide) ?_
              refine lv_icmp_ne (tgt := 94) hx hb dX8_needed_87 (by decide) (fun c_19 => ?_) (fun c_19 => ?_)
              · skip
                have i_19 : ¬ (f8_7 p1.toNatClampNeg).toInt = 9 := fun h9 => c_19 ((fa_eq _ _).mpr h9)
                refine lv_iconst (v := 0) hx hb dX8_needed_94 (by decide) ?_
                have hP9 := h.2.1.sub [0, 1, 2, 3, 4] rfl
                have hD9 := h.2.2.1.sub (ws' := [(o8, .inr (8, [.ref a8_0, .ref a8_1, .ref a8_2, .ref a8_3, .ref a8_4, .ref a8_5, .int v8_6, .ref a8_7, .ref a8_8, .ref a8_9, .ref a8_10, .ref a8_11, .int v8_12, .ref a8_13, .ref a8_14, .ref a8_15, .ref a8_16, .ref a8_17, .ref a8_18, .ref a8_19, .ref a8_20, .ref a8_21, .ref a8_22, .ref a8_23, .ref a8_24, .int v8_25, .int v8_26, .ref a8_27, .ref a8_28, .ref a8_29, .ref a8_30, .ref a8_31, .int v8_32, .int v8_33, .int v8_34, .int v8_35, .ref a8_36, .ref a8_37, .int v8_38, .int v8_39, .int v8_40, .ref a8_41, .ref a8_42, .int v8_43])), (a8_7, .inl (c8_7, 120, .inl f8_7)), (a8_8, .inl (c8_8, 120, .inl f8_8)), (a8_9, .inl (c8_9, 120, .inl f8_9)), (a8_10, .inl (c8_10, 120, .inl f8_10))]) [0, 1, 2, 3, 4] (by decide) rfl
                exact W.iret (v := 0) hx hb hr (fun t ht hW => ⟨⟨0, (), rfl, trivial, (by rw [ht]; exact hP9), hD9⟩, h.2.2.2.1.F ht⟩) h.2.2.2.1.2.2 dX8_needed_95 hlocks
              · skip
                have i_19 : (f8_7 p1.toNatClampNeg).toInt = 9 := (fa_eq _ _).mp c_19
                refine lv_iconst (v := 1) hx hb dX8_needed_90 (by decide) ?_
                refine lv_goto (tgt := 95) hx hb dX8_needed_91 (by decide) ?_
                have hP9 := h.2.1.sub [0, 1, 2, 3, 4] rfl
                have hD9 := h.2.2.1.sub (ws' := [(o8, .inr (8, [.ref a8_0, .ref a8_1, .ref a8_2, .ref a8_3, .ref a8_4, .ref a8_5, .int v8_6, .ref a8_7, .ref a8_8, .ref a8_9, .ref a8_10, .ref a8_11, .int v8_12, .ref a8_13, .ref a8_14, .ref a8_15, .ref a8_16, .ref a8_17, .ref a8_18, .ref a8_19, .ref a8_20, .ref a8_21, .ref a8_22, .ref a8_23, .ref a8_24, .int v8_25, .int v8_26, .ref a8_27, .ref a8_28, .ref a8_29, .ref a8_30, .ref a8_31, .int v8_32, .int v8_33, .int v8_34, .int v8_35, .ref a8_36, .ref a8_37, .int v8_38, .int v8_39, .int v8_40, .ref a8_41, .ref a8_42, .int v8_43])), (a8_7, .inl (c8_7, 120, .inl f8_7)), (a8_8, .inl (c8_8, 120, .inl f8_8)), (a8_9, .inl (c8_9, 120, .inl f8_9)), (a8_10, .inl (c8_10, 120, .inl f8_10))]) [0, 1, 2, 3, 4] (by decide) rfl
                exact W.iret (v := 1) hx hb hr (fun t ht hW => ⟨⟨1, (), rfl, trivial, (by rw [ht]; exact hP9), hD9⟩, h.2.2.2.1.F ht⟩) h.2.2.2.1.2.2 dX8_needed_95 hlocks
          · skip
            have b_15 := kb1 hw_14 c_15
            refine lv_iconst (v := 2) hx hb dX8_needed_63 (by decide) ?_
            have hP9 := h.2.1.sub [0, 1, 2, 3, 4] rfl
            have hD9 := h.2.2.1.sub (ws' := [(o8, .inr (8, [.ref a8_0, .ref a8_1, .ref a8_2, .ref a8_3, .ref a8_4, .ref a8_5, .int v8_6, .ref a8_7, .ref a8_8, .ref a8_9, .ref a8_10, .ref a8_11, .int v8_12, .ref a8_13, .ref a8_14, .ref a8_15, .ref a8_16, .ref a8_17, .ref a8_18, .ref a8_19, .ref a8_20, .ref a8_21, .ref a8_22, .ref a8_23, .ref a8_24, .int v8_25, .int v8_26, .ref a8_27, .ref a8_28, .ref a8_29, .ref a8_30, .ref a8_31, .int v8_32, .int v8_33, .int v8_34, .int v8_35, .ref a8_36, .ref a8_37, .int v8_38, .int v8_39, .int v8_40, .ref a8_41, .ref a8_42, .int v8_43])), (a8_7, .inl (c8_7, 120, .inl f8_7)), (a8_8, .inl (c8_8, 120, .inl f8_8)), (a8_9, .inl (c8_9, 120, .inl f8_9)), (a8_10, .inl (c8_10, 120, .inl f8_10))]) [0, 1, 2, 3, 4] (by decide) rfl
            exact W.iret (v := 2) hx hb hr (fun t ht hW => ⟨⟨2, (), rfl, trivial, (by rw [ht]; exact hP9), hD9⟩, h.2.2.2.1.F ht⟩) h.2.2.2.1.2.2 dX8_needed_64 hlocks
