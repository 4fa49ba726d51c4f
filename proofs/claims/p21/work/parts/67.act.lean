def IK (f : Nat → Int32) : Prop := ∀ j, j < 120 → 0 ≤ (f j).toInt ∧ (f j).toInt ≤ 10
theorem IK_at {f : Nat → Int32} {x : Int32} (h : IK f) (h0 : 0 ≤ x.toInt ∧ x.toInt < 120) : 0 ≤ (f x.toNatClampNeg).toInt ∧ (f x.toNatClampNeg).toInt ≤ 10 := h _ (by unfold Int32.toNatClampNeg; omega)
theorem IR.kinds {k d x y : Nat → Int32} (h : IR k d x y) : IK k := fun j hj => (h j hj).1
set_option maxHeartbeats 4000000 in
set_option maxRecDepth 100000 in
theorem c_X5_partOf (l : Launch) (dC : Nat → ClassId) (dI : Nat → Nat → Nat) (sz : Nat) (o5 : Nat) (a5_0 : Nat) (a5_1 : Nat) (a5_2 : Nat) (a5_3 : Nat) (a5_4 : Nat) (a5_5 : Nat) (a5_6 : Nat) (c5_1 : ClassId) (f5_1 : Nat → Int32) (p0 : Int32) (hK : IK f5_1) (hp : 0 ≤ p0.toInt ∧ p0.toInt < 120) : Met l yX5_partOf wsX5_partOf ({ frames := 0, cells := 0, slots := 0, locals := 0 } : Room) (va_Pc [.ref o5, .int p0] (KPre (dC, dI) [(o5, .inr (5, [.ref a5_0, .ref a5_1, .ref a5_2, .ref a5_3, .ref a5_4, .ref a5_5, .ref a5_6])), (a5_1, .inl (c5_1, 120, .inl f5_1))] [(c5_1, .int)] sz (fun U => KAll (va_A [(o5, .inr (5, [.ref a5_0, .ref a5_1, .ref a5_2, .ref a5_3, .ref a5_4, .ref a5_5, .ref a5_6])), (a5_1, .inl (c5_1, 120, .inl f5_1))] sz) U))) (va_Qi (fun (r : Int32) (u : Unit) => r = kTabP (f5_1 p0.toNatClampNeg).toNatClampNeg) (KPost (dC, dI) (va_A [(o5, .inr (5, [.ref a5_0, .ref a5_1, .ref a5_2, .ref a5_3, .ref a5_4, .ref a5_5, .ref a5_6])), (a5_1, .inl (c5_1, 120, .inl f5_1))] sz) (fun (u : Unit) => [(o5, .inr (5, [.ref a5_0, .ref a5_1, .ref a5_2, .ref a5_3, .ref a5_4, .ref a5_5, .ref a5_6])), (a5_1, .inl (c5_1, 120, .inl f5_1))])) (va_A [(o5, .inr (5, [.ref a5_0, .ref a5_1, .ref a5_2, .ref a5_3, .ref a5_4, .ref a5_5, .ref a5_6])), (a5_1, .inl (c5_1, 120, .inl f5_1))] sz)) 0 0 (va_A [(o5, .inr (5, [.ref a5_0, .ref a5_1, .ref a5_2, .ref a5_3, .ref a5_4, .ref a5_5, .ref a5_6])), (a5_1, .inl (c5_1, 120, .inl f5_1))] sz) := by
  refine kMet (y := yX5_partOf) (wsM := wsX5_partOf) (cc := cX5_partOf) (maxL := 2) (ret := (some .int)) (rm := ({ frames := 0, cells := 0, slots := 0, locals := 0 } : Room)) (mc := 0) (ms := 0) (av := [.ref o5, .int p0]) (D := (dC, dI)) (wc := [(o5, .inr (5, [.ref a5_0, .ref a5_1, .ref a5_2, .ref a5_3, .ref a5_4, .ref a5_5, .ref a5_6])), (a5_1, .inl (c5_1, 120, .inl f5_1))]) (tc := [(c5_1, .int)]) (sz := sz) (X := fun U => KAll (va_A [(o5, .inr (5, [.ref a5_0, .ref a5_1, .ref a5_2, .ref a5_3, .ref a5_4, .ref a5_5, .ref a5_6])), (a5_1, .inl (c5_1, 120, .inl f5_1))] sz) U) (Qc := fun A => va_Qi (fun (r : Int32) (u : Unit) => r = kTabP (f5_1 p0.toNatClampNeg).toNatClampNeg) (KPost (dC, dI) A (fun (u : Unit) => [(o5, .inr (5, [.ref a5_0, .ref a5_1, .ref a5_2, .ref a5_3, .ref a5_4, .ref a5_5, .ref a5_6])), (a5_1, .inl (c5_1, 120, .inl f5_1))])) A) (by decide) rfl (Nat.le_of_ble_eq_true rfl) ?_
  intro p e s m below meth c A ls E hr hlocks hnm hsz hAe hX h hl
  have hx := E.1
  have hb := E.2.1
  have hl : lv_has ls 2 [(0, .ref o5), (1, .int p0)] := hl
  have hX : KAll A s := by rw [← hAe]; exact hX
  obtain ⟨⟨tD, hZD, hTD⟩, ⟨tX, hZX, hTX⟩, ⟨tY, hZY, hTY⟩, ⟨tP, hZP, hTP⟩, ⟨tL, hZL, hTL⟩, ⟨tM, hZM, hTM⟩, hN0_134, hN0_60, hN0_96, hN1_83, hN1_87, hN3_49, hN3_52, hN4_44, hN4_69, hN5_33, hN6_102, hN6_67, hF37, hF40, hF50, hF53⟩ := id hX
  have hk9 := IK_at hK hp
  refine va_getsN (v := .ref tP) hx hb hZP h.2.2.2.1 E.2.2.2.1 (va_Nw.use rfl hF53) (fun _ h9 => h9) dX5_partOf_0 ?_
  refine lv_aload_n hx hb dX5_partOf_3 rfl (lv_at hl 0 rfl) ?_
  refine k_get (v := .ref a5_1) E h (fun w h => List.mem_cons_of_mem _ (List.mem_append_right _ h)) 0 rfl rfl 1 (Nat.le_of_ble_eq_true rfl) (List.mem_of_getElem? (i := 1) rfl) rfl dX5_partOf_4 ?_
  refine lv_iload_n hx hb dX5_partOf_7 rfl (lv_at hl 1 rfl) ?_
  refine k_iald (v := f5_1 p0.toNatClampNeg) E h 1 0 rfl rfl (vp_in_iff.mpr (by omega)) rfl dX5_partOf_8 ?_
  refine va_ti (v := .int (kTabP (f5_1 p0.toNatClampNeg).toNatClampNeg)) hx hb hTP h.2.2.2.1 (vp_in_iff.mpr (by omega)) rfl dX5_partOf_9 ?_
  have hP9 := h.2.1.sub [0, 1] rfl
  have hD9 := h.2.2.1.sub (ws' := [(o5, .inr (5, [.ref a5_0, .ref a5_1, .ref a5_2, .ref a5_3, .ref a5_4, .ref a5_5, .ref a5_6])), (a5_1, .inl (c5_1, 120, .inl f5_1))]) [0, 1] (by decide) rfl
  exact W.iret (v := kTabP (f5_1 p0.toNatClampNeg).toNatClampNeg) hx hb hr (fun t ht hW => ⟨⟨kTabP (f5_1 p0.toNatClampNeg).toNatClampNeg, (), rfl, rfl, (by rw [ht]; exact hP9), hD9⟩, h.2.2.2.1.F ht⟩) h.2.2.2.1.2.2 dX5_partOf_10 hlocks
set_option maxHeartbeats 4000000 in
set_option maxRecDepth 100000 in
theorem c_X5_canTrap (l : Launch) (dC : Nat → ClassId) (dI : Nat → Nat → Nat) (sz : Nat) (o5 : Nat) (a5_0 : Nat) (a5_1 : Nat) (a5_2 : Nat) (a5_3 : Nat) (a5_4 : Nat) (a5_5 : Nat) (a5_6 : Nat) (c5_1 : ClassId) (f5_1 : Nat → Int32) (p0 : Int32) (hp : 0 ≤ p0.toInt ∧ p0.toInt < 120) : Met l yX5_canTrap wsX5_canTrap ({ frames := 0, cells := 0, slots := 0, locals := 0 } : Room) (va_Pc [.ref o5, .int p0] (KPre (dC, dI) [(o5, .inr (5, [.ref a5_0, .ref a5_1, .ref a5_2, .ref a5_3, .ref a5_4, .ref a5_5, .ref a5_6])), (a5_1, .inl (c5_1, 120, .inl f5_1))] [(c5_1, .int)] sz (fun _ => True))) (va_Qi (fun (r : Int32) (u : Unit) => r = if ((f5_1 p0.toNatClampNeg).toInt = 7 ∨ (f5_1 p0.toNatClampNeg).toInt = 8 ∨ (f5_1 p0.toNatClampNeg).toInt = 10) then 1 else 0) (KPost (dC, dI) (va_A [(o5, .inr (5, [.ref a5_0, .ref a5_1, .ref a5_2, .ref a5_3, .ref a5_4, .ref a5_5, .ref a5_6])), (a5_1, .inl (c5_1, 120, .inl f5_1))] sz) (fun (u : Unit) => [(o5, .inr (5, [.ref a5_0, .ref a5_1, .ref a5_2, .ref a5_3, .ref a5_4, .ref a5_5, .ref a5_6])), (a5_1, .inl (c5_1, 120, .inl f5_1))])) (va_A [(o5, .inr (5, [.ref a5_0, .ref a5_1, .ref a5_2, .ref a5_3, .ref a5_4, .ref a5_5, .ref a5_6])), (a5_1, .inl (c5_1, 120, .inl f5_1))] sz)) 0 0 (va_A [(o5, .inr (5, [.ref a5_0, .ref a5_1, .ref a5_2, .ref a5_3, .ref a5_4, .ref a5_5, .ref a5_6])), (a5_1, .inl (c5_1, 120, .inl f5_1))] sz) := by
  refine kMet (y := yX5_canTrap) (wsM := wsX5_canTrap) (cc := cX5_canTrap) (maxL := 3) (ret := (some .boolean)) (rm := ({ frames := 0, cells := 0, slots := 0, locals := 0 } : Room)) (mc := 0) (ms := 0) (av := [.ref o5, .int p0]) (D := (dC, dI)) (wc := [(o5, .inr (5, [.ref a5_0, .ref a5_1, .ref a5_2, .ref a5_3, .ref a5_4, .ref a5_5, .ref a5_6])), (a5_1, .inl (c5_1, 120, .inl f5_1))]) (tc := [(c5_1, .int)]) (sz := sz) (X := fun _ => True) (Qc := fun A => va_Qi (fun (r : Int32) (u : Unit) => r = if ((f5_1 p0.toNatClampNeg).toInt = 7 ∨ (f5_1 p0.toNatClampNeg).toInt = 8 ∨ (f5_1 p0.toNatClampNeg).toInt = 10) then 1 else 0) (KPost (dC, dI) A (fun (u : Unit) => [(o5, .inr (5, [.ref a5_0, .ref a5_1, .ref a5_2, .ref a5_3, .ref a5_4, .ref a5_5, .ref a5_6])), (a5_1, .inl (c5_1, 120, .inl f5_1))])) A) (by decide) rfl (Nat.le_of_ble_eq_true rfl) ?_
  intro p e s m below meth c A ls E hr hlocks hnm hsz hAe hX h hl
  have hx := E.1
  have hb := E.2.1
  have hl : lv_has ls 3 [(0, .ref o5), (1, .int p0)] := hl
  refine lv_aload_n hx hb dX5_canTrap_0 rfl (lv_at hl 0 rfl) ?_
  refine k_get (v := .ref a5_1) E h (fun w h => List.mem_cons_of_mem _ (List.mem_append_right _ h)) 0 rfl rfl 1 (Nat.le_of_ble_eq_true rfl) (List.mem_of_getElem? (i := 1) rfl) rfl dX5_canTrap_1 ?_
  refine lv_iload_n hx hb dX5_canTrap_4 rfl (lv_at hl 1 rfl) ?_
  refine k_iald (v := f5_1 p0.toNatClampNeg) E h 1 0 rfl rfl (vp_in_iff.mpr (by omega)) rfl dX5_canTrap_5 ?_
  refine lv_istore_n (lv' := [(2, .int (f5_1 p0.toNatClampNeg)), (0, .ref o5), (1, .int p0)]) hx hb dX5_canTrap_6 rfl hl (Nat.le_of_ble_eq_true rfl) rfl (fun ls hl => ?_)
  refine lv_iload_n hx hb dX5_canTrap_7 rfl (lv_at hl 0 rfl) ?_
  refine lv_bipush (v := 7) hx hb dX5_canTrap_8 kbi_7 ?_
  refine lv_icmp_eq (tgt := 25) hx hb dX5_canTrap_10 rfl (fun c_1 => ?_) (fun c_1 => ?_)
  · skip
    have i_1 : (f5_1 p0.toNatClampNeg).toInt = 7 := (fa_eq _ _).mp c_1
    refine lv_iconst (v := 1) hx hb dX5_canTrap_25 kic_1 ?_
    refine lv_goto (tgt := 30) hx hb dX5_canTrap_26 rfl ?_
    have hP9 := h.2.1.sub [0, 1] rfl
    have hD9 := h.2.2.1.sub (ws' := [(o5, .inr (5, [.ref a5_0, .ref a5_1, .ref a5_2, .ref a5_3, .ref a5_4, .ref a5_5, .ref a5_6])), (a5_1, .inl (c5_1, 120, .inl f5_1))]) [0, 1] (by decide) rfl
    exact W.zret (v := 1) hx hb hr (by decide) (fun t ht hW => ⟨⟨1, (), rfl, (by (first | rw [] | skip); (repeat' split) <;> first | (with_reducible rfl) | (exfalso; omega) | rfl | omega | contradiction), (by rw [ht]; exact hP9), hD9⟩, h.2.2.2.1.F ht⟩) h.2.2.2.1.2.2 dX5_canTrap_30 hlocks
  · skip
    have i_1 : ¬ (f5_1 p0.toNatClampNeg).toInt = 7 := fun h9 => c_1 ((fa_eq _ _).mpr h9)
    refine lv_iload_n hx hb dX5_canTrap_13 rfl (lv_at hl 0 rfl) ?_
    refine lv_bipush (v := 8) hx hb dX5_canTrap_14 kbi_8 ?_
    refine lv_icmp_eq (tgt := 25) hx hb dX5_canTrap_16 rfl (fun c_2 => ?_) (fun c_2 => ?_)
    · skip
      have i_2 : (f5_1 p0.toNatClampNeg).toInt = 8 := (fa_eq _ _).mp c_2
      refine lv_iconst (v := 1) hx hb dX5_canTrap_25 kic_1 ?_
      refine lv_goto (tgt := 30) hx hb dX5_canTrap_26 rfl ?_
      have hP9 := h.2.1.sub [0, 1] rfl
      have hD9 := h.2.2.1.sub (ws' := [(o5, .inr (5, [.ref a5_0, .ref a5_1, .ref a5_2, .ref a5_3, .ref a5_4, .ref a5_5, .ref a5_6])), (a5_1, .inl (c5_1, 120, .inl f5_1))]) [0, 1] (by decide) rfl
      exact W.zret (v := 1) hx hb hr (by decide) (fun t ht hW => ⟨⟨1, (), rfl, (by (first | rw [] | skip); (repeat' split) <;> first | (with_reducible rfl) | (exfalso; omega) | rfl | omega | contradiction), (by rw [ht]; exact hP9), hD9⟩, h.2.2.2.1.F ht⟩) h.2.2.2.1.2.2 dX5_canTrap_30 hlocks
    · skip
      have i_2 : ¬ (f5_1 p0.toNatClampNeg).toInt = 8 := fun h9 => c_2 ((fa_eq _ _).mpr h9)
      refine lv_iload_n hx hb dX5_canTrap_19 rfl (lv_at hl 0 rfl) ?_
      refine lv_bipush (v := 10) hx hb dX5_canTrap_20 kbi_10 ?_
      refine lv_icmp_ne (tgt := 29) hx hb dX5_canTrap_22 rfl (fun c_3 => ?_) (fun c_3 => ?_)
      · skip
        have i_3 : ¬ (f5_1 p0.toNatClampNeg).toInt = 10 := fun h9 => c_3 ((fa_eq _ _).mpr h9)
        refine lv_iconst (v := 0) hx hb dX5_canTrap_29 kic_0 ?_
        have hP9 := h.2.1.sub [0, 1] rfl
        have hD9 := h.2.2.1.sub (ws' := [(o5, .inr (5, [.ref a5_0, .ref a5_1, .ref a5_2, .ref a5_3, .ref a5_4, .ref a5_5, .ref a5_6])), (a5_1, .inl (c5_1, 120, .inl f5_1))]) [0, 1] (by decide) rfl
        exact W.zret (v := 0) hx hb hr (by decide) (fun t ht hW => ⟨⟨0, (), rfl, (by (first | rw [] | skip); (repeat' split) <;> first | (with_reducible rfl) | (exfalso; omega) | rfl | omega | contradiction), (by rw [ht]; exact hP9), hD9⟩, h.2.2.2.1.F ht⟩) h.2.2.2.1.2.2 dX5_canTrap_30 hlocks
      · skip
        have i_3 : (f5_1 p0.toNatClampNeg).toInt = 10 := (fa_eq _ _).mp c_3
        refine lv_iconst (v := 1) hx hb dX5_canTrap_25 kic_1 ?_
        refine lv_goto (tgt := 30) hx hb dX5_canTrap_26 rfl ?_
        have hP9 := h.2.1.sub [0, 1] rfl
        have hD9 := h.2.2.1.sub (ws' := [(o5, .inr (5, [.ref a5_0, .ref a5_1, .ref a5_2, .ref a5_3, .ref a5_4, .ref a5_5, .ref a5_6])), (a5_1, .inl (c5_1, 120, .inl f5_1))]) [0, 1] (by decide) rfl
        exact W.zret (v := 1) hx hb hr (by decide) (fun t ht hW => ⟨⟨1, (), rfl, (by (first | rw [] | skip); (repeat' split) <;> first | (with_reducible rfl) | (exfalso; omega) | rfl | omega | contradiction), (by rw [ht]; exact hP9), hD9⟩, h.2.2.2.1.F ht⟩) h.2.2.2.1.2.2 dX5_canTrap_30 hlocks
set_option maxHeartbeats 4000000 in
set_option maxRecDepth 100000 in
theorem c_X7_look (l : Launch) (dC : Nat → ClassId) (dI : Nat → Nat → Nat) (sz : Nat) (o7 : Nat) (o2 : Nat) (o5 : Nat) (o3 : Nat) (o4 : Nat) (o1 : Nat) (o0 : Nat) (a7_6 : Nat) (a7_7 : Nat) (v7_8 : Int32) (v7_9 : Int32) (v7_10 : Int32) (a7_11 : Nat) (v7_12 : Int32) (a7_13 : Nat) (v7_14 : Int32) (a7_15 : Nat) (c7_15 : ClassId) (f7_15 : Nat → Int32) (a5_0 : Nat) (a5_1 : Nat) (a5_2 : Nat) (a5_3 : Nat) (a5_4 : Nat) (a5_5 : Nat) (a5_6 : Nat) (c5_0 : ClassId) (f5_0 : Nat → Int32) (c5_1 : ClassId) (f5_1 : Nat → Int32) (c5_2 : ClassId) (f5_2 : Nat → Int32) (c5_3 : ClassId) (f5_3 : Nat → Int32) (c5_4 : ClassId) (f5_4 : Nat → Int32) (p0 : Int32) (p1 : Int32) (p2 : Int32) (hL5 : IL f5_0) (hK : IK f5_1) : Met l yX7_look wsX7_look ({ frames := 2, cells := 0, slots := 0, locals := 42 } : Room) (va_Pc [.ref o7, .int p0, .int p1, .int p2] (KPre (dC, dI) [(o7, .inr (7, [.ref o2, .ref o5, .ref o3, .ref o4, .ref o1, .ref o0, .ref a7_6, .ref a7_7, .int v7_8, .int v7_9, .int v7_10, .ref a7_11, .int v7_12, .ref a7_13, .int v7_14, .ref a7_15])), (a7_15, .inl (c7_15, 8, .inl f7_15)), (o5, .inr (5, [.ref a5_0, .ref a5_1, .ref a5_2, .ref a5_3, .ref a5_4, .ref a5_5, .ref a5_6])), (a5_0, .inl (c5_0, 12, .inl f5_0)), (a5_1, .inl (c5_1, 120, .inl f5_1)), (a5_2, .inl (c5_2, 120, .inl f5_2)), (a5_3, .inl (c5_3, 120, .inl f5_3)), (a5_4, .inl (c5_4, 120, .inl f5_4))] [(c7_15, .int), (c5_0, .int), (c5_1, .int), (c5_2, .int), (c5_3, .int), (c5_4, .int)] sz (fun U => KAll (va_A [(o7, .inr (7, [.ref o2, .ref o5, .ref o3, .ref o4, .ref o1, .ref o0, .ref a7_6, .ref a7_7, .int v7_8, .int v7_9, .int v7_10, .ref a7_11, .int v7_12, .ref a7_13, .int v7_14, .ref a7_15])), (a7_15, .inl (c7_15, 8, .inl f7_15)), (o5, .inr (5, [.ref a5_0, .ref a5_1, .ref a5_2, .ref a5_3, .ref a5_4, .ref a5_5, .ref a5_6])), (a5_0, .inl (c5_0, 12, .inl f5_0)), (a5_1, .inl (c5_1, 120, .inl f5_1)), (a5_2, .inl (c5_2, 120, .inl f5_2)), (a5_3, .inl (c5_3, 120, .inl f5_3)), (a5_4, .inl (c5_4, 120, .inl f5_4))] sz) U))) (va_Qi (fun (r : Int32) (u : (Nat → Int32)) => r = if ((0 ≤ p0.toInt ∧ p0.toInt < 12) ∧ (0 ≤ p1.toInt ∧ p1.toInt < (f5_0 p0.toNatClampNeg).toInt)) then (if p2.toInt = 0 then f5_1 (p0 * 10 + p1).toNatClampNeg else if p2.toInt = 1 then f5_2 (p0 * 10 + p1).toNatClampNeg else if p2.toInt = 2 then f5_3 (p0 * 10 + p1).toNatClampNeg else if p2.toInt = 3 then f5_4 (p0 * 10 + p1).toNatClampNeg else if p2.toInt = 4 then kTabP (f5_1 (p0 * 10 + p1).toNatClampNeg).toNatClampNeg else if p2.toInt = 5 then (if ((f5_1 (p0 * 10 + p1).toNatClampNeg).toInt = 7 ∨ (f5_1 (p0 * 10 + p1).toNatClampNeg).toInt = 8 ∨ (f5_1 (p0 * 10 + p1).toNatClampNeg).toInt = 10) then 1 else 0) else -6) else -3) (KPost (dC, dI) (va_A [(o7, .inr (7, [.ref o2, .ref o5, .ref o3, .ref o4, .ref o1, .ref o0, .ref a7_6, .ref a7_7, .int v7_8, .int v7_9, .int v7_10, .ref a7_11, .int v7_12, .ref a7_13, .int v7_14, .ref a7_15])), (a7_15, .inl (c7_15, 8, .inl f7_15)), (o5, .inr (5, [.ref a5_0, .ref a5_1, .ref a5_2, .ref a5_3, .ref a5_4, .ref a5_5, .ref a5_6])), (a5_0, .inl (c5_0, 12, .inl f5_0)), (a5_1, .inl (c5_1, 120, .inl f5_1)), (a5_2, .inl (c5_2, 120, .inl f5_2)), (a5_3, .inl (c5_3, 120, .inl f5_3)), (a5_4, .inl (c5_4, 120, .inl f5_4))] sz) (fun (u : (Nat → Int32)) => [(o7, .inr (7, [.ref o2, .ref o5, .ref o3, .ref o4, .ref o1, .ref o0, .ref a7_6, .ref a7_7, .int v7_8, .int v7_9, .int v7_10, .ref a7_11, .int v7_12, .ref a7_13, .int v7_14, .ref a7_15])), (a7_15, .inl (c7_15, 8, .inl u)), (o5, .inr (5, [.ref a5_0, .ref a5_1, .ref a5_2, .ref a5_3, .ref a5_4, .ref a5_5, .ref a5_6])), (a5_0, .inl (c5_0, 12, .inl f5_0)), (a5_1, .inl (c5_1, 120, .inl f5_1)), (a5_2, .inl (c5_2, 120, .inl f5_2)), (a5_3, .inl (c5_3, 120, .inl f5_3)), (a5_4, .inl (c5_4, 120, .inl f5_4))])) (va_A [(o7, .inr (7, [.ref o2, .ref o5, .ref o3, .ref o4, .ref o1, .ref o0, .ref a7_6, .ref a7_7, .int v7_8, .int v7_9, .int v7_10, .ref a7_11, .int v7_12, .ref a7_13, .int v7_14, .ref a7_15])), (a7_15, .inl (c7_15, 8, .inl f7_15)), (o5, .inr (5, [.ref a5_0, .ref a5_1, .ref a5_2, .ref a5_3, .ref a5_4, .ref a5_5, .ref a5_6])), (a5_0, .inl (c5_0, 12, .inl f5_0)), (a5_1, .inl (c5_1, 120, .inl f5_1)), (a5_2, .inl (c5_2, 120, .inl f5_2)), (a5_3, .inl (c5_3, 120, .inl f5_3)), (a5_4, .inl (c5_4, 120, .inl f5_4))] sz)) 0 0 (va_A [(o7, .inr (7, [.ref o2, .ref o5, .ref o3, .ref o4, .ref o1, .ref o0, .ref a7_6, .ref a7_7, .int v7_8, .int v7_9, .int v7_10, .ref a7_11, .int v7_12, .ref a7_13, .int v7_14, .ref a7_15])), (a7_15, .inl (c7_15, 8, .inl f7_15)), (o5, .inr (5, [.ref a5_0, .ref a5_1, .ref a5_2, .ref a5_3, .ref a5_4, .ref a5_5, .ref a5_6])), (a5_0, .inl (c5_0, 12, .inl f5_0)), (a5_1, .inl (c5_1, 120, .inl f5_1)), (a5_2, .inl (c5_2, 120, .inl f5_2)), (a5_3, .inl (c5_3, 120, .inl f5_3)), (a5_4, .inl (c5_4, 120, .inl f5_4))] sz) := by
  refine kMet (y := yX7_look) (wsM := wsX7_look) (cc := cX7_look) (maxL := 5) (ret := (some .int)) (rm := ({ frames := 2, cells := 0, slots := 0, locals := 42 } : Room)) (mc := 0) (ms := 0) (av := [.ref o7, .int p0, .int p1, .int p2]) (D := (dC, dI)) (wc := [(o7, .inr (7, [.ref o2, .ref o5, .ref o3, .ref o4, .ref o1, .ref o0, .ref a7_6, .ref a7_7, .int v7_8, .int v7_9, .int v7_10, .ref a7_11, .int v7_12, .ref a7_13, .int v7_14, .ref a7_15])), (a7_15, .inl (c7_15, 8, .inl f7_15)), (o5, .inr (5, [.ref a5_0, .ref a5_1, .ref a5_2, .ref a5_3, .ref a5_4, .ref a5_5, .ref a5_6])), (a5_0, .inl (c5_0, 12, .inl f5_0)), (a5_1, .inl (c5_1, 120, .inl f5_1)), (a5_2, .inl (c5_2, 120, .inl f5_2)), (a5_3, .inl (c5_3, 120, .inl f5_3)), (a5_4, .inl (c5_4, 120, .inl f5_4))]) (tc := [(c7_15, .int), (c5_0, .int), (c5_1, .int), (c5_2, .int), (c5_3, .int), (c5_4, .int)]) (sz := sz) (X := fun U => KAll (va_A [(o7, .inr (7, [.ref o2, .ref o5, .ref o3, .ref o4, .ref o1, .ref o0, .ref a7_6, .ref a7_7, .int v7_8, .int v7_9, .int v7_10, .ref a7_11, .int v7_12, .ref a7_13, .int v7_14, .ref a7_15])), (a7_15, .inl (c7_15, 8, .inl f7_15)), (o5, .inr (5, [.ref a5_0, .ref a5_1, .ref a5_2, .ref a5_3, .ref a5_4, .ref a5_5, .ref a5_6])), (a5_0, .inl (c5_0, 12, .inl f5_0)), (a5_1, .inl (c5_1, 120, .inl f5_1)), (a5_2, .inl (c5_2, 120, .inl f5_2)), (a5_3, .inl (c5_3, 120, .inl f5_3)), (a5_4, .inl (c5_4, 120, .inl f5_4))] sz) U) (Qc := fun A => va_Qi (fun (r : Int32) (u : (Nat → Int32)) => r = if ((0 ≤ p0.toInt ∧ p0.toInt < 12) ∧ (0 ≤ p1.toInt ∧ p1.toInt < (f5_0 p0.toNatClampNeg).toInt)) then (if p2.toInt = 0 then f5_1 (p0 * 10 + p1).toNatClampNeg else if p2.toInt = 1 then f5_2 (p0 * 10 + p1).toNatClampNeg else if p2.toInt = 2 then f5_3 (p0 * 10 + p1).toNatClampNeg else if p2.toInt = 3 then f5_4 (p0 * 10 + p1).toNatClampNeg else if p2.toInt = 4 then kTabP (f5_1 (p0 * 10 + p1).toNatClampNeg).toNatClampNeg else if p2.toInt = 5 then (if ((f5_1 (p0 * 10 + p1).toNatClampNeg).toInt = 7 ∨ (f5_1 (p0 * 10 + p1).toNatClampNeg).toInt = 8 ∨ (f5_1 (p0 * 10 + p1).toNatClampNeg).toInt = 10) then 1 else 0) else -6) else -3) (KPost (dC, dI) A (fun (u : (Nat → Int32)) => [(o7, .inr (7, [.ref o2, .ref o5, .ref o3, .ref o4, .ref o1, .ref o0, .ref a7_6, .ref a7_7, .int v7_8, .int v7_9, .int v7_10, .ref a7_11, .int v7_12, .ref a7_13, .int v7_14, .ref a7_15])), (a7_15, .inl (c7_15, 8, .inl u)), (o5, .inr (5, [.ref a5_0, .ref a5_1, .ref a5_2, .ref a5_3, .ref a5_4, .ref a5_5, .ref a5_6])), (a5_0, .inl (c5_0, 12, .inl f5_0)), (a5_1, .inl (c5_1, 120, .inl f5_1)), (a5_2, .inl (c5_2, 120, .inl f5_2)), (a5_3, .inl (c5_3, 120, .inl f5_3)), (a5_4, .inl (c5_4, 120, .inl f5_4))])) A) (by decide) rfl (Nat.le_of_ble_eq_true rfl) ?_
  intro p e s m below meth c A ls E hr hlocks hnm hsz hAe hX h hl
  have hx := E.1
  have hb := E.2.1
  have hl : lv_has ls 5 [(0, .ref o7), (1, .int p0), (2, .int p1), (3, .int p2)] := hl
  have hX : KAll A s := by rw [← hAe]; exact hX
  obtain ⟨⟨tD, hZD, hTD⟩, ⟨tX, hZX, hTX⟩, ⟨tY, hZY, hTY⟩, ⟨tP, hZP, hTP⟩, ⟨tL, hZL, hTL⟩, ⟨tM, hZM, hTM⟩, hN0_134, hN0_60, hN0_96, hN1_83, hN1_87, hN3_49, hN3_52, hN4_44, hN4_69, hN5_33, hN6_102, hN6_67, hF37, hF40, hF50, hF53⟩ := id hX
  refine lv_aload_n hx hb dX7_look_0 rfl (lv_at hl 0 rfl) ?_
  refine lv_iload_n hx hb dX7_look_1 rfl (lv_at hl 1 rfl) ?_
  refine lv_iload_n hx hb dX7_look_2 rfl (lv_at hl 2 rfl) ?_
  refine kc_i (wc := [(o7, .inr (7, [.ref o2, .ref o5, .ref o3, .ref o4, .ref o1, .ref o0, .ref a7_6, .ref a7_7, .int v7_8, .int v7_9, .int v7_10, .ref a7_11, .int v7_12, .ref a7_13, .int v7_14, .ref a7_15])), (o5, .inr (5, [.ref a5_0, .ref a5_1, .ref a5_2, .ref a5_3, .ref a5_4, .ref a5_5, .ref a5_6])), (a5_0, .inl (c5_0, 12, .inl f5_0))]) (wr := [(a7_15, .inl (c7_15, 8, .inl f7_15)), (a5_1, .inl (c5_1, 120, .inl f5_1)), (a5_2, .inl (c5_2, 120, .inl f5_2)), (a5_3, .inl (c5_3, 120, .inl f5_3)), (a5_4, .inl (c5_4, 120, .inl f5_4))]) h (va_runV (As := [.int p0, .int p1]) (rest := []) E (c_X7_hasAct l dC dI _ (o7 := o7) (o2 := o2) (o5 := o5) (o3 := o3) (o4 := o4) (o1 := o1) (o0 := o0) (a7_6 := a7_6) (a7_7 := a7_7) (v7_8 := v7_8) (v7_9 := v7_9) (v7_10 := v7_10) (a7_11 := a7_11) (v7_12 := v7_12) (a7_13 := a7_13) (v7_14 := v7_14) (a7_15 := a7_15) (a5_0 := a5_0) (a5_1 := a5_1) (a5_2 := a5_2) (a5_3 := a5_3) (a5_4 := a5_4) (a5_5 := a5_5) (a5_6 := a5_6) (c5_0 := c5_0) (f5_0 := f5_0) (p0 := p0) (p1 := p1)  ) (cwV 2 E.2.2.2.2 gX7_look_X7_hasAct rfl rfl rfl hdV_X7_hasAct ⟨Nat.le_of_ble_eq_true rfl, Nat.le_of_ble_eq_true rfl⟩) (kPreV (q0 := 0) (ci := 7) (q := (RX7, TX7, 16)) h KX_true (fun _ _ _ => trivial) [0, 2, 3] [1] (by decide) rfl rfl rfl rfl) rfl rfl hl.1 rfl (lv_room (Nat.le_of_ble_eq_true rfl)) dX7_look_3 ⟨Nat.le_of_ble_eq_true rfl, Nat.le_of_ble_eq_true rfl⟩) [0, 2, 3] [1, 4, 5, 6, 7] rfl rfl (by decide) (by decide) (fun r_1 u_1 H locs hw_1 h => ?_)
  have h : KS (dC, dI) A [(a7_15, .inl (c7_15, 8, .inl f7_15)), (a5_1, .inl (c5_1, 120, .inl f5_1)), (a5_2, .inl (c5_2, 120, .inl f5_2)), (a5_3, .inl (c5_3, 120, .inl f5_3)), (a5_4, .inl (c5_4, 120, .inl f5_4)), (o7, .inr (7, [.ref o2, .ref o5, .ref o3, .ref o4, .ref o1, .ref o0, .ref a7_6, .ref a7_7, .int v7_8, .int v7_9, .int v7_10, .ref a7_11, .int v7_12, .ref a7_13, .int v7_14, .ref a7_15])), (o5, .inr (5, [.ref a5_0, .ref a5_1, .ref a5_2, .ref a5_3, .ref a5_4, .ref a5_5, .ref a5_6])), (a5_0, .inl (c5_0, 12, .inl f5_0))] [(c7_15, .int), (c5_0, .int), (c5_1, .int), (c5_2, .int), (c5_3, .int), (c5_4, .int)] s H locs := h
  have hw_1 : r_1 = if ((0 ≤ p0.toInt ∧ p0.toInt < 12) ∧ (0 ≤ p1.toInt ∧ p1.toInt < (f5_0 p0.toNatClampNeg).toInt)) then 1 else 0 := by first | exact hw_1 | (simp only [Int32.toInt_toInt64] at hw_1; exact hw_1)
  refine W.eq (g2 := F0 m 6 ls [.int r_1]) rfl ?_
  refine lv_if_ne (tgt := 16) hx hb dX7_look_6 rfl (fun c_2 => ?_) (fun c_2 => ?_)
  · skip
    have b_2 := kb1 hw_1 c_2
    have hZ := b_2
    have hl5 := IL_at hL5 hZ.1
    refine lv_iload_n hx hb dX7_look_16 rfl (lv_at hl 1 rfl) ?_
    refine lv_iload_n hx hb dX7_look_17 rfl (lv_at hl 2 rfl) ?_
    refine kc_i (wc := []) (wr := [(a7_15, .inl (c7_15, 8, .inl f7_15)), (a5_1, .inl (c5_1, 120, .inl f5_1)), (a5_2, .inl (c5_2, 120, .inl f5_2)), (a5_3, .inl (c5_3, 120, .inl f5_3)), (a5_4, .inl (c5_4, 120, .inl f5_4)), (o7, .inr (7, [.ref o2, .ref o5, .ref o3, .ref o4, .ref o1, .ref o0, .ref a7_6, .ref a7_7, .int v7_8, .int v7_9, .int v7_10, .ref a7_11, .int v7_12, .ref a7_13, .int v7_14, .ref a7_15])), (o5, .inr (5, [.ref a5_0, .ref a5_1, .ref a5_2, .ref a5_3, .ref a5_4, .ref a5_5, .ref a5_6])), (a5_0, .inl (c5_0, 12, .inl f5_0))]) h (va_runS (As := [.int p0, .int p1]) (rest := []) E (c_X7_slot l dC dI _ (p0 := p0) (p1 := p1)  ) (va_cwS 2 E.2.2.2.2 gX7_look_X7_slot rfl rfl rfl hdS_X7_slot ⟨Nat.le_of_ble_eq_true rfl, Nat.le_of_ble_eq_true rfl⟩) (kPreS h KX_true (fun _ _ _ => trivial) [] [] (by decide) rfl rfl) rfl rfl hl.1 rfl (lv_room (Nat.le_of_ble_eq_true rfl)) dX7_look_18 ⟨Nat.le_of_ble_eq_true rfl, Nat.le_of_ble_eq_true rfl⟩) [] [0, 1, 2, 3, 4, 5, 6, 7] rfl rfl (by decide +kernel) (by decide +kernel) (fun r_3 u_3 H locs hw_3 h => ?_)
    have h : KS (dC, dI) A [(a7_15, .inl (c7_15, 8, .inl f7_15)), (a5_1, .inl (c5_1, 120, .inl f5_1)), (a5_2, .inl (c5_2, 120, .inl f5_2)), (a5_3, .inl (c5_3, 120, .inl f5_3)), (a5_4, .inl (c5_4, 120, .inl f5_4)), (o7, .inr (7, [.ref o2, .ref o5, .ref o3, .ref o4, .ref o1, .ref o0, .ref a7_6, .ref a7_7, .int v7_8, .int v7_9, .int v7_10, .ref a7_11, .int v7_12, .ref a7_13, .int v7_14, .ref a7_15])), (o5, .inr (5, [.ref a5_0, .ref a5_1, .ref a5_2, .ref a5_3, .ref a5_4, .ref a5_5, .ref a5_6])), (a5_0, .inl (c5_0, 12, .inl f5_0))] [(c7_15, .int), (c5_0, .int), (c5_1, .int), (c5_2, .int), (c5_3, .int), (c5_4, .int)] s H locs := h
    have hw_3 : r_3 = p0 * 10 + p1 := by first | exact hw_3 | (simp only [Int32.toInt_toInt64] at hw_3; exact hw_3)
    refine k_topi (y := p0 * 10 + p1) (hw_3) ?_
    have e8 : (p0 * 10 + p1).toInt = p0.toInt * 10 + p1.toInt := kslot2 hZ.1 (by omega) (by omega)
    refine W.eq (g2 := F0 m 21 ls [.int (p0 * 10 + p1)]) rfl ?_
    refine lv_istore (lv' := [(4, .int (p0 * 10 + p1)), (0, .ref o7), (1, .int p0), (2, .int p1), (3, .int p2)]) hx hb dX7_look_21 hl (Nat.le_of_ble_eq_true rfl) rfl (fun ls hl => ?_)
    refine lv_iload_n hx hb dX7_look_23 rfl (lv_at hl 4 rfl) ?_
    by_cases s_4 : p2 = 0
    · refine k_topi (y := 0) s_4 ?_
      have i_4 : p2.toInt = 0 := (fa_eq _ _).mp s_4
      refine lv_tableIn (off := 40) (tgt := 64) hx hb dX7_look_24 (by decide) (by decide) rfl (by decide) ?_
      refine lv_aload_n hx hb dX7_look_64 rfl (lv_at hl 1 rfl) ?_
      refine k_get (v := .ref o5) E h (fun w h => List.mem_cons_of_mem _ (List.mem_append_left _ (List.mem_append_right _ h))) 5 rfl rfl 1 (Nat.le_of_ble_eq_true rfl) (List.mem_of_getElem? (i := 1) rfl) rfl dX7_look_65 ?_
      refine k_get (v := .ref a5_1) E h (fun w h => List.mem_cons_of_mem _ (List.mem_append_right _ h)) 6 rfl rfl 1 (Nat.le_of_ble_eq_true rfl) (List.mem_of_getElem? (i := 2) rfl) rfl dX7_look_68 ?_
      refine lv_iload hx hb dX7_look_71 (lv_at hl 0 rfl) ?_
      refine k_iald (v := f5_1 (p0 * 10 + p1).toNatClampNeg) E h 1 2 rfl rfl (vp_in_iff.mpr (by omega)) rfl dX7_look_73 ?_
      have hP9 := h.2.1.sub [5, 0, 6, 7, 1, 2, 3, 4] rfl
      have hD9 := h.2.2.1.sub (ws' := [(o7, .inr (7, [.ref o2, .ref o5, .ref o3, .ref o4, .ref o1, .ref o0, .ref a7_6, .ref a7_7, .int v7_8, .int v7_9, .int v7_10, .ref a7_11, .int v7_12, .ref a7_13, .int v7_14, .ref a7_15])), (a7_15, .inl (c7_15, 8, .inl f7_15)), (o5, .inr (5, [.ref a5_0, .ref a5_1, .ref a5_2, .ref a5_3, .ref a5_4, .ref a5_5, .ref a5_6])), (a5_0, .inl (c5_0, 12, .inl f5_0)), (a5_1, .inl (c5_1, 120, .inl f5_1)), (a5_2, .inl (c5_2, 120, .inl f5_2)), (a5_3, .inl (c5_3, 120, .inl f5_3)), (a5_4, .inl (c5_4, 120, .inl f5_4))]) [5, 0, 6, 7, 1, 2, 3, 4] (by decide +kernel) rfl
      exact W.iret (v := f5_1 (p0 * 10 + p1).toNatClampNeg) hx hb hr (fun t ht hW => ⟨⟨f5_1 (p0 * 10 + p1).toNatClampNeg, f7_15, rfl, (by (first | rw [hw_3] | skip); (repeat' split) <;> first | (with_reducible rfl) | (exfalso; omega) | rfl | omega | contradiction), (by rw [ht]; exact hP9), hD9⟩, h.2.2.2.1.F ht⟩) h.2.2.2.1.2.2 dX7_look_74 hlocks
    have i_4 : ¬ p2.toInt = 0 := fun h9 => s_4 ((fa_eq _ _).mpr h9)
    by_cases s_5 : p2 = 1
    · refine k_topi (y := 1) s_5 ?_
      have i_5 : p2.toInt = 1 := (fa_eq _ _).mp s_5
      refine lv_tableIn (off := 51) (tgt := 75) hx hb dX7_look_24 (by decide) (by decide) rfl (by decide) ?_
      refine lv_aload_n hx hb dX7_look_75 rfl (lv_at hl 1 rfl) ?_
      refine k_get (v := .ref o5) E h (fun w h => List.mem_cons_of_mem _ (List.mem_append_left _ (List.mem_append_right _ h))) 5 rfl rfl 1 (Nat.le_of_ble_eq_true rfl) (List.mem_of_getElem? (i := 1) rfl) rfl dX7_look_76 ?_
      refine k_get (v := .ref a5_2) E h (fun w h => List.mem_cons_of_mem _ (List.mem_append_right _ h)) 6 rfl rfl 2 (Nat.le_of_ble_eq_true rfl) (List.mem_of_getElem? (i := 3) rfl) rfl dX7_look_79 ?_
      refine lv_iload hx hb dX7_look_82 (lv_at hl 0 rfl) ?_
      refine k_iald (v := f5_2 (p0 * 10 + p1).toNatClampNeg) E h 2 3 rfl rfl (vp_in_iff.mpr (by omega)) rfl dX7_look_84 ?_
      have hP9 := h.2.1.sub [5, 0, 6, 7, 1, 2, 3, 4] rfl
      have hD9 := h.2.2.1.sub (ws' := [(o7, .inr (7, [.ref o2, .ref o5, .ref o3, .ref o4, .ref o1, .ref o0, .ref a7_6, .ref a7_7, .int v7_8, .int v7_9, .int v7_10, .ref a7_11, .int v7_12, .ref a7_13, .int v7_14, .ref a7_15])), (a7_15, .inl (c7_15, 8, .inl f7_15)), (o5, .inr (5, [.ref a5_0, .ref a5_1, .ref a5_2, .ref a5_3, .ref a5_4, .ref a5_5, .ref a5_6])), (a5_0, .inl (c5_0, 12, .inl f5_0)), (a5_1, .inl (c5_1, 120, .inl f5_1)), (a5_2, .inl (c5_2, 120, .inl f5_2)), (a5_3, .inl (c5_3, 120, .inl f5_3)), (a5_4, .inl (c5_4, 120, .inl f5_4))]) [5, 0, 6, 7, 1, 2, 3, 4] (by decide +kernel) rfl
      exact W.iret (v := f5_2 (p0 * 10 + p1).toNatClampNeg) hx hb hr (fun t ht hW => ⟨⟨f5_2 (p0 * 10 + p1).toNatClampNeg, f7_15, rfl, (by (first | rw [hw_3] | skip); (repeat' split) <;> first | (with_reducible rfl) | (exfalso; omega) | rfl | omega | contradiction), (by rw [ht]; exact hP9), hD9⟩, h.2.2.2.1.F ht⟩) h.2.2.2.1.2.2 dX7_look_85 hlocks
    have i_5 : ¬ p2.toInt = 1 := fun h9 => s_5 ((fa_eq _ _).mpr h9)
    by_cases s_6 : p2 = 2
    · refine k_topi (y := 2) s_6 ?_
      have i_6 : p2.toInt = 2 := (fa_eq _ _).mp s_6
      refine lv_tableIn (off := 62) (tgt := 86) hx hb dX7_look_24 (by decide) (by decide) rfl (by decide) ?_
      refine lv_aload_n hx hb dX7_look_86 rfl (lv_at hl 1 rfl) ?_
      refine k_get (v := .ref o5) E h (fun w h => List.mem_cons_of_mem _ (List.mem_append_left _ (List.mem_append_right _ h))) 5 rfl rfl 1 (Nat.le_of_ble_eq_true rfl) (List.mem_of_getElem? (i := 1) rfl) rfl dX7_look_87 ?_
      refine k_get (v := .ref a5_3) E h (fun w h => List.mem_cons_of_mem _ (List.mem_append_right _ h)) 6 rfl rfl 3 (Nat.le_of_ble_eq_true rfl) (List.mem_of_getElem? (i := 4) rfl) rfl dX7_look_90 ?_
      refine lv_iload hx hb dX7_look_93 (lv_at hl 0 rfl) ?_
      refine k_iald (v := f5_3 (p0 * 10 + p1).toNatClampNeg) E h 3 4 rfl rfl (vp_in_iff.mpr (by omega)) rfl dX7_look_95 ?_
      have hP9 := h.2.1.sub [5, 0, 6, 7, 1, 2, 3, 4] rfl
      have hD9 := h.2.2.1.sub (ws' := [(o7, .inr (7, [.ref o2, .ref o5, .ref o3, .ref o4, .ref o1, .ref o0, .ref a7_6, .ref a7_7, .int v7_8, .int v7_9, .int v7_10, .ref a7_11, .int v7_12, .ref a7_13, .int v7_14, .ref a7_15])), (a7_15, .inl (c7_15, 8, .inl f7_15)), (o5, .inr (5, [.ref a5_0, .ref a5_1, .ref a5_2, .ref a5_3, .ref a5_4, .ref a5_5, .ref a5_6])), (a5_0, .inl (c5_0, 12, .inl f5_0)), (a5_1, .inl (c5_1, 120, .inl f5_1)), (a5_2, .inl (c5_2, 120, .inl f5_2)), (a5_3, .inl (c5_3, 120, .inl f5_3)), (a5_4, .inl (c5_4, 120, .inl f5_4))]) [5, 0, 6, 7, 1, 2, 3, 4] (by decide +kernel) rfl
      exact W.iret (v := f5_3 (p0 * 10 + p1).toNatClampNeg) hx hb hr (fun t ht hW => ⟨⟨f5_3 (p0 * 10 + p1).toNatClampNeg, f7_15, rfl, (by (first | rw [hw_3] | skip); (repeat' split) <;> first | (with_reducible rfl) | (exfalso; omega) | rfl | omega | contradiction), (by rw [ht]; exact hP9), hD9⟩, h.2.2.2.1.F ht⟩) h.2.2.2.1.2.2 dX7_look_96 hlocks
    have i_6 : ¬ p2.toInt = 2 := fun h9 => s_6 ((fa_eq _ _).mpr h9)
    by_cases s_7 : p2 = 3
    · refine k_topi (y := 3) s_7 ?_
      have i_7 : p2.toInt = 3 := (fa_eq _ _).mp s_7
      refine lv_tableIn (off := 73) (tgt := 97) hx hb dX7_look_24 (by decide) (by decide) rfl (by decide) ?_
      refine lv_aload_n hx hb dX7_look_97 rfl (lv_at hl 1 rfl) ?_
      refine k_get (v := .ref o5) E h (fun w h => List.mem_cons_of_mem _ (List.mem_append_left _ (List.mem_append_right _ h))) 5 rfl rfl 1 (Nat.le_of_ble_eq_true rfl) (List.mem_of_getElem? (i := 1) rfl) rfl dX7_look_98 ?_
      refine k_get (v := .ref a5_4) E h (fun w h => List.mem_cons_of_mem _ (List.mem_append_right _ h)) 6 rfl rfl 4 (Nat.le_of_ble_eq_true rfl) (List.mem_of_getElem? (i := 5) rfl) rfl dX7_look_101 ?_
      refine lv_iload hx hb dX7_look_104 (lv_at hl 0 rfl) ?_
      refine k_iald (v := f5_4 (p0 * 10 + p1).toNatClampNeg) E h 4 5 rfl rfl (vp_in_iff.mpr (by omega)) rfl dX7_look_106 ?_
      have hP9 := h.2.1.sub [5, 0, 6, 7, 1, 2, 3, 4] rfl
      have hD9 := h.2.2.1.sub (ws' := [(o7, .inr (7, [.ref o2, .ref o5, .ref o3, .ref o4, .ref o1, .ref o0, .ref a7_6, .ref a7_7, .int v7_8, .int v7_9, .int v7_10, .ref a7_11, .int v7_12, .ref a7_13, .int v7_14, .ref a7_15])), (a7_15, .inl (c7_15, 8, .inl f7_15)), (o5, .inr (5, [.ref a5_0, .ref a5_1, .ref a5_2, .ref a5_3, .ref a5_4, .ref a5_5, .ref a5_6])), (a5_0, .inl (c5_0, 12, .inl f5_0)), (a5_1, .inl (c5_1, 120, .inl f5_1)), (a5_2, .inl (c5_2, 120, .inl f5_2)), (a5_3, .inl (c5_3, 120, .inl f5_3)), (a5_4, .inl (c5_4, 120, .inl f5_4))]) [5, 0, 6, 7, 1, 2, 3, 4] (by decide +kernel) rfl
      exact W.iret (v := f5_4 (p0 * 10 + p1).toNatClampNeg) hx hb hr (fun t ht hW => ⟨⟨f5_4 (p0 * 10 + p1).toNatClampNeg, f7_15, rfl, (by (first | rw [hw_3] | skip); (repeat' split) <;> first | (with_reducible rfl) | (exfalso; omega) | rfl | omega | contradiction), (by rw [ht]; exact hP9), hD9⟩, h.2.2.2.1.F ht⟩) h.2.2.2.1.2.2 dX7_look_107 hlocks
    have i_7 : ¬ p2.toInt = 3 := fun h9 => s_7 ((fa_eq _ _).mpr h9)
    by_cases s_8 : p2 = 4
    · refine k_topi (y := 4) s_8 ?_
      have i_8 : p2.toInt = 4 := (fa_eq _ _).mp s_8
      refine lv_tableIn (off := 84) (tgt := 108) hx hb dX7_look_24 (by decide) (by decide) rfl (by decide) ?_
      refine lv_aload_n hx hb dX7_look_108 rfl (lv_at hl 1 rfl) ?_
      refine k_get (v := .ref o5) E h (fun w h => List.mem_cons_of_mem _ (List.mem_append_left _ (List.mem_append_right _ h))) 5 rfl rfl 1 (Nat.le_of_ble_eq_true rfl) (List.mem_of_getElem? (i := 1) rfl) rfl dX7_look_109 ?_
      refine lv_iload hx hb dX7_look_112 (lv_at hl 0 rfl) ?_
      refine kc_i (wc := [(o5, .inr (5, [.ref a5_0, .ref a5_1, .ref a5_2, .ref a5_3, .ref a5_4, .ref a5_5, .ref a5_6])), (a5_1, .inl (c5_1, 120, .inl f5_1))]) (wr := [(a7_15, .inl (c7_15, 8, .inl f7_15)), (a5_2, .inl (c5_2, 120, .inl f5_2)), (a5_3, .inl (c5_3, 120, .inl f5_3)), (a5_4, .inl (c5_4, 120, .inl f5_4)), (o7, .inr (7, [.ref o2, .ref o5, .ref o3, .ref o4, .ref o1, .ref o0, .ref a7_6, .ref a7_7, .int v7_8, .int v7_9, .int v7_10, .ref a7_11, .int v7_12, .ref a7_13, .int v7_14, .ref a7_15])), (a5_0, .inl (c5_0, 12, .inl f5_0))]) h (va_runV (As := [.int (p0 * 10 + p1)]) (rest := []) E (c_X5_partOf l dC dI _ (o5 := o5) (a5_0 := a5_0) (a5_1 := a5_1) (a5_2 := a5_2) (a5_3 := a5_3) (a5_4 := a5_4) (a5_5 := a5_5) (a5_6 := a5_6) (c5_1 := c5_1) (f5_1 := f5_1) (p0 := p0 * 10 + p1)  (hK := hK) (hp := (by first | decide | omega))) (cwV 1 E.2.2.2.2 gX7_look_X5_partOf rfl rfl rfl hdV_X5_partOf ⟨Nat.le_of_ble_eq_true rfl, Nat.le_of_ble_eq_true rfl⟩) (kPreV (q0 := 6) (ci := 5) (q := (RX5, TX5, 7)) h KAll.blind (KAll.call hX h [6, 1] rfl) [6, 1] [2] (by decide) rfl rfl rfl rfl) rfl rfl hl.1 rfl (lv_room (Nat.le_of_ble_eq_true rfl)) dX7_look_114 ⟨Nat.le_of_ble_eq_true rfl, Nat.le_of_ble_eq_true rfl⟩) [6, 1] [0, 2, 3, 4, 5, 7] rfl rfl (by decide +kernel) (by decide +kernel) (fun r_9 u_9 H locs hw_9 h => ?_)
      have h : KS (dC, dI) A [(a7_15, .inl (c7_15, 8, .inl f7_15)), (a5_2, .inl (c5_2, 120, .inl f5_2)), (a5_3, .inl (c5_3, 120, .inl f5_3)), (a5_4, .inl (c5_4, 120, .inl f5_4)), (o7, .inr (7, [.ref o2, .ref o5, .ref o3, .ref o4, .ref o1, .ref o0, .ref a7_6, .ref a7_7, .int v7_8, .int v7_9, .int v7_10, .ref a7_11, .int v7_12, .ref a7_13, .int v7_14, .ref a7_15])), (a5_0, .inl (c5_0, 12, .inl f5_0)), (o5, .inr (5, [.ref a5_0, .ref a5_1, .ref a5_2, .ref a5_3, .ref a5_4, .ref a5_5, .ref a5_6])), (a5_1, .inl (c5_1, 120, .inl f5_1))] [(c7_15, .int), (c5_0, .int), (c5_1, .int), (c5_2, .int), (c5_3, .int), (c5_4, .int)] s H locs := h
      have hw_9 : r_9 = kTabP (f5_1 (p0 * 10 + p1).toNatClampNeg).toNatClampNeg := by first | exact hw_9 | (simp only [Int32.toInt_toInt64] at hw_9; exact hw_9)
      refine W.eq (g2 := F0 m 117 ls [.int r_9]) rfl ?_
      have hP9 := h.2.1.sub [4, 0, 6, 5, 7, 1, 2, 3] rfl
      have hD9 := h.2.2.1.sub (ws' := [(o7, .inr (7, [.ref o2, .ref o5, .ref o3, .ref o4, .ref o1, .ref o0, .ref a7_6, .ref a7_7, .int v7_8, .int v7_9, .int v7_10, .ref a7_11, .int v7_12, .ref a7_13, .int v7_14, .ref a7_15])), (a7_15, .inl (c7_15, 8, .inl f7_15)), (o5, .inr (5, [.ref a5_0, .ref a5_1, .ref a5_2, .ref a5_3, .ref a5_4, .ref a5_5, .ref a5_6])), (a5_0, .inl (c5_0, 12, .inl f5_0)), (a5_1, .inl (c5_1, 120, .inl f5_1)), (a5_2, .inl (c5_2, 120, .inl f5_2)), (a5_3, .inl (c5_3, 120, .inl f5_3)), (a5_4, .inl (c5_4, 120, .inl f5_4))]) [4, 0, 6, 5, 7, 1, 2, 3] (by decide +kernel) rfl
      exact W.iret (v := r_9) hx hb hr (fun t ht hW => ⟨⟨r_9, f7_15, rfl, (by (first | rw [hw_9] | skip); (repeat' split) <;> first | (with_reducible rfl) | (exfalso; omega) | rfl | omega | contradiction), (by rw [ht]; exact hP9), hD9⟩, h.2.2.2.1.F ht⟩) h.2.2.2.1.2.2 dX7_look_117 hlocks
    have i_8 : ¬ p2.toInt = 4 := fun h9 => s_8 ((fa_eq _ _).mpr h9)
    by_cases s_10 : p2 = 5
    · refine k_topi (y := 5) s_10 ?_
      have i_10 : p2.toInt = 5 := (fa_eq _ _).mp s_10
      refine lv_tableIn (off := 94) (tgt := 118) hx hb dX7_look_24 (by decide) (by decide) rfl (by decide) ?_
      refine lv_aload_n hx hb dX7_look_118 rfl (lv_at hl 1 rfl) ?_
      refine k_get (v := .ref o5) E h (fun w h => List.mem_cons_of_mem _ (List.mem_append_left _ (List.mem_append_right _ h))) 5 rfl rfl 1 (Nat.le_of_ble_eq_true rfl) (List.mem_of_getElem? (i := 1) rfl) rfl dX7_look_119 ?_
      refine lv_iload hx hb dX7_look_122 (lv_at hl 0 rfl) ?_
      refine kc_i (wc := [(o5, .inr (5, [.ref a5_0, .ref a5_1, .ref a5_2, .ref a5_3, .ref a5_4, .ref a5_5, .ref a5_6])), (a5_1, .inl (c5_1, 120, .inl f5_1))]) (wr := [(a7_15, .inl (c7_15, 8, .inl f7_15)), (a5_2, .inl (c5_2, 120, .inl f5_2)), (a5_3, .inl (c5_3, 120, .inl f5_3)), (a5_4, .inl (c5_4, 120, .inl f5_4)), (o7, .inr (7, [.ref o2, .ref o5, .ref o3, .ref o4, .ref o1, .ref o0, .ref a7_6, .ref a7_7, .int v7_8, .int v7_9, .int v7_10, .ref a7_11, .int v7_12, .ref a7_13, .int v7_14, .ref a7_15])), (a5_0, .inl (c5_0, 12, .inl f5_0))]) h (va_runV (As := [.int (p0 * 10 + p1)]) (rest := []) E (c_X5_canTrap l dC dI _ (o5 := o5) (a5_0 := a5_0) (a5_1 := a5_1) (a5_2 := a5_2) (a5_3 := a5_3) (a5_4 := a5_4) (a5_5 := a5_5) (a5_6 := a5_6) (c5_1 := c5_1) (f5_1 := f5_1) (p0 := p0 * 10 + p1)  (hp := (by first | decide | omega))) (cwV 1 E.2.2.2.2 gX7_look_X5_canTrap rfl rfl rfl hdV_X5_canTrap ⟨Nat.le_of_ble_eq_true rfl, Nat.le_of_ble_eq_true rfl⟩) (kPreV (q0 := 6) (ci := 5) (q := (RX5, TX5, 7)) h KX_true (fun _ _ _ => trivial) [6, 1] [2] (by decide) rfl rfl rfl rfl) rfl rfl hl.1 rfl (lv_room (Nat.le_of_ble_eq_true rfl)) dX7_look_124 ⟨Nat.le_of_ble_eq_true rfl, Nat.le_of_ble_eq_true rfl⟩) [6, 1] [0, 2, 3, 4, 5, 7] rfl rfl (by decide +kernel) (by decide +kernel) (fun r_11 u_11 H locs hw_11 h => ?_)
      have h : KS (dC, dI) A [(a7_15, .inl (c7_15, 8, .inl f7_15)), (a5_2, .inl (c5_2, 120, .inl f5_2)), (a5_3, .inl (c5_3, 120, .inl f5_3)), (a5_4, .inl (c5_4, 120, .inl f5_4)), (o7, .inr (7, [.ref o2, .ref o5, .ref o3, .ref o4, .ref o1, .ref o0, .ref a7_6, .ref a7_7, .int v7_8, .int v7_9, .int v7_10, .ref a7_11, .int v7_12, .ref a7_13, .int v7_14, .ref a7_15])), (a5_0, .inl (c5_0, 12, .inl f5_0)), (o5, .inr (5, [.ref a5_0, .ref a5_1, .ref a5_2, .ref a5_3, .ref a5_4, .ref a5_5, .ref a5_6])), (a5_1, .inl (c5_1, 120, .inl f5_1))] [(c7_15, .int), (c5_0, .int), (c5_1, .int), (c5_2, .int), (c5_3, .int), (c5_4, .int)] s H locs := h
      have hw_11 : r_11 = if ((f5_1 (p0 * 10 + p1).toNatClampNeg).toInt = 7 ∨ (f5_1 (p0 * 10 + p1).toNatClampNeg).toInt = 8 ∨ (f5_1 (p0 * 10 + p1).toNatClampNeg).toInt = 10) then 1 else 0 := by first | exact hw_11 | (simp only [Int32.toInt_toInt64] at hw_11; exact hw_11)
      refine W.eq (g2 := F0 m 127 ls [.int r_11]) rfl ?_
      refine lv_if_eq (tgt := 134) hx hb dX7_look_127 rfl (fun c_12 => ?_) (fun c_12 => ?_)
      · skip
        have b_12 := kb0 hw_11 c_12
        refine lv_iconst (v := 0) hx hb dX7_look_134 kic_0 ?_
        have hP9 := h.2.1.sub [4, 0, 6, 5, 7, 1, 2, 3] rfl
        have hD9 := h.2.2.1.sub (ws' := [(o7, .inr (7, [.ref o2, .ref o5, .ref o3, .ref o4, .ref o1, .ref o0, .ref a7_6, .ref a7_7, .int v7_8, .int v7_9, .int v7_10, .ref a7_11, .int v7_12, .ref a7_13, .int v7_14, .ref a7_15])), (a7_15, .inl (c7_15, 8, .inl f7_15)), (o5, .inr (5, [.ref a5_0, .ref a5_1, .ref a5_2, .ref a5_3, .ref a5_4, .ref a5_5, .ref a5_6])), (a5_0, .inl (c5_0, 12, .inl f5_0)), (a5_1, .inl (c5_1, 120, .inl f5_1)), (a5_2, .inl (c5_2, 120, .inl f5_2)), (a5_3, .inl (c5_3, 120, .inl f5_3)), (a5_4, .inl (c5_4, 120, .inl f5_4))]) [4, 0, 6, 5, 7, 1, 2, 3] (by decide +kernel) rfl
        exact W.iret (v := 0) hx hb hr (fun t ht hW => ⟨⟨0, f7_15, rfl, (by (first | rw [hw_11] | skip); (repeat' split) <;> first | (with_reducible rfl) | (exfalso; omega) | rfl | omega | contradiction), (by rw [ht]; exact hP9), hD9⟩, h.2.2.2.1.F ht⟩) h.2.2.2.1.2.2 dX7_look_135 hlocks
      · skip
        have b_12 := kb1 hw_11 c_12
        refine lv_iconst (v := 1) hx hb dX7_look_130 kic_1 ?_
        refine lv_goto (tgt := 135) hx hb dX7_look_131 rfl ?_
        have hP9 := h.2.1.sub [4, 0, 6, 5, 7, 1, 2, 3] rfl
        have hD9 := h.2.2.1.sub (ws' := [(o7, .inr (7, [.ref o2, .ref o5, .ref o3, .ref o4, .ref o1, .ref o0, .ref a7_6, .ref a7_7, .int v7_8, .int v7_9, .int v7_10, .ref a7_11, .int v7_12, .ref a7_13, .int v7_14, .ref a7_15])), (a7_15, .inl (c7_15, 8, .inl f7_15)), (o5, .inr (5, [.ref a5_0, .ref a5_1, .ref a5_2, .ref a5_3, .ref a5_4, .ref a5_5, .ref a5_6])), (a5_0, .inl (c5_0, 12, .inl f5_0)), (a5_1, .inl (c5_1, 120, .inl f5_1)), (a5_2, .inl (c5_2, 120, .inl f5_2)), (a5_3, .inl (c5_3, 120, .inl f5_3)), (a5_4, .inl (c5_4, 120, .inl f5_4))]) [4, 0, 6, 5, 7, 1, 2, 3] (by decide +kernel) rfl
        exact W.iret (v := 1) hx hb hr (fun t ht hW => ⟨⟨1, f7_15, rfl, (by (first | rw [hw_11] | skip); (repeat' split) <;> first | (with_reducible rfl) | (exfalso; omega) | rfl | omega | contradiction), (by rw [ht]; exact hP9), hD9⟩, h.2.2.2.1.F ht⟩) h.2.2.2.1.2.2 dX7_look_135 hlocks
    have i_10 : ¬ p2.toInt = 5 := fun h9 => s_10 ((fa_eq _ _).mpr h9)
    refine lv_tableOut (tgt := 136) hx hb dX7_look_24 (by omega) (by decide) ?_
    refine lv_aload_n hx hb dX7_look_136 rfl (lv_at hl 1 rfl) ?_
    refine lv_bipush (v := -6) hx hb dX7_look_137 kbi_m6 ?_
    refine kc_i (wc := [(o7, .inr (7, [.ref o2, .ref o5, .ref o3, .ref o4, .ref o1, .ref o0, .ref a7_6, .ref a7_7, .int v7_8, .int v7_9, .int v7_10, .ref a7_11, .int v7_12, .ref a7_13, .int v7_14, .ref a7_15])), (a7_15, .inl (c7_15, 8, .inl f7_15))]) (wr := [(a5_1, .inl (c5_1, 120, .inl f5_1)), (a5_2, .inl (c5_2, 120, .inl f5_2)), (a5_3, .inl (c5_3, 120, .inl f5_3)), (a5_4, .inl (c5_4, 120, .inl f5_4)), (o5, .inr (5, [.ref a5_0, .ref a5_1, .ref a5_2, .ref a5_3, .ref a5_4, .ref a5_5, .ref a5_6])), (a5_0, .inl (c5_0, 12, .inl f5_0))]) h (va_runV (As := [.int (-6)]) (rest := []) E (c_X7_refuse l dC dI _ (o7 := o7) (o2 := o2) (o5 := o5) (o3 := o3) (o4 := o4) (o1 := o1) (o0 := o0) (a7_6 := a7_6) (a7_7 := a7_7) (v7_8 := v7_8) (v7_9 := v7_9) (v7_10 := v7_10) (a7_11 := a7_11) (v7_12 := v7_12) (a7_13 := a7_13) (v7_14 := v7_14) (a7_15 := a7_15) (c7_15 := c7_15) (f7_15 := f7_15) (p0 := (-6))  (hp := (by first | decide | omega))) (cwV 1 E.2.2.2.2 gX7_look_X7_refuse rfl rfl rfl hdV_X7_refuse ⟨Nat.le_of_ble_eq_true rfl, Nat.le_of_ble_eq_true rfl⟩) (kPreV (q0 := 5) (ci := 7) (q := (RX7, TX7, 16)) h KX_true (fun _ _ _ => trivial) [5, 0] [0] (by decide) rfl rfl rfl rfl) rfl rfl hl.1 rfl (lv_room (Nat.le_of_ble_eq_true rfl)) dX7_look_139 ⟨Nat.le_of_ble_eq_true rfl, Nat.le_of_ble_eq_true rfl⟩) [5, 0] [1, 2, 3, 4, 6, 7] rfl rfl (by decide +kernel) (by decide +kernel) (fun r_13 u_13 H locs hw_13 h => ?_)
    have h : KS (dC, dI) A [(a5_1, .inl (c5_1, 120, .inl f5_1)), (a5_2, .inl (c5_2, 120, .inl f5_2)), (a5_3, .inl (c5_3, 120, .inl f5_3)), (a5_4, .inl (c5_4, 120, .inl f5_4)), (o5, .inr (5, [.ref a5_0, .ref a5_1, .ref a5_2, .ref a5_3, .ref a5_4, .ref a5_5, .ref a5_6])), (a5_0, .inl (c5_0, 12, .inl f5_0)), (o7, .inr (7, [.ref o2, .ref o5, .ref o3, .ref o4, .ref o1, .ref o0, .ref a7_6, .ref a7_7, .int v7_8, .int v7_9, .int v7_10, .ref a7_11, .int v7_12, .ref a7_13, .int v7_14, .ref a7_15])), (a7_15, .inl (c7_15, 8, .inl (upd f7_15 (-(-6 : Int32)).toNatClampNeg (f7_15 (-(-6 : Int32)).toNatClampNeg + 1))))] [(c7_15, .int), (c5_0, .int), (c5_1, .int), (c5_2, .int), (c5_3, .int), (c5_4, .int)] s H locs := h
    have hw_13 : r_13 = (-6 : Int32) := by first | exact hw_13 | (simp only [Int32.toInt_toInt64] at hw_13; exact hw_13)
    refine k_topi (y := (-6)) (hw_13) ?_
    refine W.eq (g2 := F0 m 142 ls [.int (-6)]) rfl ?_
    have hP9 := h.2.1.sub [6, 7, 4, 5, 0, 1, 2, 3] rfl
    have hD9 := h.2.2.1.sub (ws' := [(o7, .inr (7, [.ref o2, .ref o5, .ref o3, .ref o4, .ref o1, .ref o0, .ref a7_6, .ref a7_7, .int v7_8, .int v7_9, .int v7_10, .ref a7_11, .int v7_12, .ref a7_13, .int v7_14, .ref a7_15])), (a7_15, .inl (c7_15, 8, .inl (upd f7_15 (-(-6 : Int32)).toNatClampNeg (f7_15 (-(-6 : Int32)).toNatClampNeg + 1)))), (o5, .inr (5, [.ref a5_0, .ref a5_1, .ref a5_2, .ref a5_3, .ref a5_4, .ref a5_5, .ref a5_6])), (a5_0, .inl (c5_0, 12, .inl f5_0)), (a5_1, .inl (c5_1, 120, .inl f5_1)), (a5_2, .inl (c5_2, 120, .inl f5_2)), (a5_3, .inl (c5_3, 120, .inl f5_3)), (a5_4, .inl (c5_4, 120, .inl f5_4))]) [6, 7, 4, 5, 0, 1, 2, 3] (by decide +kernel) rfl
    exact W.iret (v := (-6)) hx hb hr (fun t ht hW => ⟨⟨(-6), upd f7_15 (-(-6 : Int32)).toNatClampNeg (f7_15 (-(-6 : Int32)).toNatClampNeg + 1), rfl, (by (first | rw [hw_13] | skip); (repeat' split) <;> first | (with_reducible rfl) | (exfalso; omega) | rfl | omega | contradiction), (by rw [ht]; exact hP9), hD9⟩, h.2.2.2.1.F ht⟩) h.2.2.2.1.2.2 dX7_look_142 hlocks
  · skip
    have b_2 := kb0 hw_1 c_2
    refine lv_aload_n hx hb dX7_look_9 rfl (lv_at hl 0 rfl) ?_
    refine lv_bipush (v := -3) hx hb dX7_look_10 kbi_m3 ?_
    refine kc_i (wc := [(o7, .inr (7, [.ref o2, .ref o5, .ref o3, .ref o4, .ref o1, .ref o0, .ref a7_6, .ref a7_7, .int v7_8, .int v7_9, .int v7_10, .ref a7_11, .int v7_12, .ref a7_13, .int v7_14, .ref a7_15])), (a7_15, .inl (c7_15, 8, .inl f7_15))]) (wr := [(a5_1, .inl (c5_1, 120, .inl f5_1)), (a5_2, .inl (c5_2, 120, .inl f5_2)), (a5_3, .inl (c5_3, 120, .inl f5_3)), (a5_4, .inl (c5_4, 120, .inl f5_4)), (o5, .inr (5, [.ref a5_0, .ref a5_1, .ref a5_2, .ref a5_3, .ref a5_4, .ref a5_5, .ref a5_6])), (a5_0, .inl (c5_0, 12, .inl f5_0))]) h (va_runV (As := [.int (-3)]) (rest := []) E (c_X7_refuse l dC dI _ (o7 := o7) (o2 := o2) (o5 := o5) (o3 := o3) (o4 := o4) (o1 := o1) (o0 := o0) (a7_6 := a7_6) (a7_7 := a7_7) (v7_8 := v7_8) (v7_9 := v7_9) (v7_10 := v7_10) (a7_11 := a7_11) (v7_12 := v7_12) (a7_13 := a7_13) (v7_14 := v7_14) (a7_15 := a7_15) (c7_15 := c7_15) (f7_15 := f7_15) (p0 := (-3))  (hp := (by first | decide | omega))) (cwV 1 E.2.2.2.2 gX7_look_X7_refuse rfl rfl rfl hdV_X7_refuse ⟨Nat.le_of_ble_eq_true rfl, Nat.le_of_ble_eq_true rfl⟩) (kPreV (q0 := 5) (ci := 7) (q := (RX7, TX7, 16)) h KX_true (fun _ _ _ => trivial) [5, 0] [0] (by decide) rfl rfl rfl rfl) rfl rfl hl.1 rfl (lv_room (Nat.le_of_ble_eq_true rfl)) dX7_look_12 ⟨Nat.le_of_ble_eq_true rfl, Nat.le_of_ble_eq_true rfl⟩) [5, 0] [1, 2, 3, 4, 6, 7] rfl rfl (by decide +kernel) (by decide +kernel) (fun r_14 u_14 H locs hw_14 h => ?_)
    have h : KS (dC, dI) A [(a5_1, .inl (c5_1, 120, .inl f5_1)), (a5_2, .inl (c5_2, 120, .inl f5_2)), (a5_3, .inl (c5_3, 120, .inl f5_3)), (a5_4, .inl (c5_4, 120, .inl f5_4)), (o5, .inr (5, [.ref a5_0, .ref a5_1, .ref a5_2, .ref a5_3, .ref a5_4, .ref a5_5, .ref a5_6])), (a5_0, .inl (c5_0, 12, .inl f5_0)), (o7, .inr (7, [.ref o2, .ref o5, .ref o3, .ref o4, .ref o1, .ref o0, .ref a7_6, .ref a7_7, .int v7_8, .int v7_9, .int v7_10, .ref a7_11, .int v7_12, .ref a7_13, .int v7_14, .ref a7_15])), (a7_15, .inl (c7_15, 8, .inl (upd f7_15 (-(-3 : Int32)).toNatClampNeg (f7_15 (-(-3 : Int32)).toNatClampNeg + 1))))] [(c7_15, .int), (c5_0, .int), (c5_1, .int), (c5_2, .int), (c5_3, .int), (c5_4, .int)] s H locs := h
    have hw_14 : r_14 = (-3 : Int32) := by first | exact hw_14 | (simp only [Int32.toInt_toInt64] at hw_14; exact hw_14)
    refine k_topi (y := (-3)) (hw_14) ?_
    refine W.eq (g2 := F0 m 15 ls [.int (-3)]) rfl ?_
    have hP9 := h.2.1.sub [6, 7, 4, 5, 0, 1, 2, 3] rfl
    have hD9 := h.2.2.1.sub (ws' := [(o7, .inr (7, [.ref o2, .ref o5, .ref o3, .ref o4, .ref o1, .ref o0, .ref a7_6, .ref a7_7, .int v7_8, .int v7_9, .int v7_10, .ref a7_11, .int v7_12, .ref a7_13, .int v7_14, .ref a7_15])), (a7_15, .inl (c7_15, 8, .inl (upd f7_15 (-(-3 : Int32)).toNatClampNeg (f7_15 (-(-3 : Int32)).toNatClampNeg + 1)))), (o5, .inr (5, [.ref a5_0, .ref a5_1, .ref a5_2, .ref a5_3, .ref a5_4, .ref a5_5, .ref a5_6])), (a5_0, .inl (c5_0, 12, .inl f5_0)), (a5_1, .inl (c5_1, 120, .inl f5_1)), (a5_2, .inl (c5_2, 120, .inl f5_2)), (a5_3, .inl (c5_3, 120, .inl f5_3)), (a5_4, .inl (c5_4, 120, .inl f5_4))]) [6, 7, 4, 5, 0, 1, 2, 3] (by decide +kernel) rfl
    exact W.iret (v := (-3)) hx hb hr (fun t ht hW => ⟨⟨(-3), upd f7_15 (-(-3 : Int32)).toNatClampNeg (f7_15 (-(-3 : Int32)).toNatClampNeg + 1), rfl, (by (first | rw [hw_14] | skip); (repeat' split) <;> first | (with_reducible rfl) | (exfalso; omega) | rfl | omega | contradiction), (by rw [ht]; exact hP9), hD9⟩, h.2.2.2.1.F ht⟩) h.2.2.2.1.2.2 dX7_look_15 hlocks
set_option maxHeartbeats 4000000 in
set_option maxRecDepth 100000 in
theorem c_X8_canTrap (l : Launch) (dC : Nat → ClassId) (dI : Nat → Nat → Nat) (sz : Nat) (p0 : Int32)  : Met l yX8_canTrap wsX8_canTrap ({ frames := 0, cells := 0, slots := 0, locals := 0 } : Room) (va_Pc [.int p0] (KPre (dC, dI) [] [] sz (fun _ => True))) (va_Qi (fun (r : Int32) (u : Unit) => r = if (p0.toInt = 7 ∨ p0.toInt = 8 ∨ p0.toInt = 10) then 1 else 0) (KPost (dC, dI) (va_A [] sz) (fun (u : Unit) => [])) (va_A [] sz)) 0 0 (va_A [] sz) := by
  refine kMet (y := yX8_canTrap) (wsM := wsX8_canTrap) (cc := cX8_canTrap) (maxL := 1) (ret := (some .boolean)) (rm := ({ frames := 0, cells := 0, slots := 0, locals := 0 } : Room)) (mc := 0) (ms := 0) (av := [.int p0]) (D := (dC, dI)) (wc := []) (tc := []) (sz := sz) (X := fun _ => True) (Qc := fun A => va_Qi (fun (r : Int32) (u : Unit) => r = if (p0.toInt = 7 ∨ p0.toInt = 8 ∨ p0.toInt = 10) then 1 else 0) (KPost (dC, dI) A (fun (u : Unit) => [])) A) (by decide) rfl (Nat.le_of_ble_eq_true rfl) ?_
  intro p e s m below meth c A ls E hr hlocks hnm hsz hAe hX h hl
  have hx := E.1
  have hb := E.2.1
  have hl : lv_has ls 1 [(0, .int p0)] := hl
  refine lv_iload_n hx hb dX8_canTrap_0 rfl (lv_at hl 0 rfl) ?_
  refine lv_bipush (v := 7) hx hb dX8_canTrap_1 kbi_7 ?_
  refine lv_icmp_eq (tgt := 18) hx hb dX8_canTrap_3 rfl (fun c_1 => ?_) (fun c_1 => ?_)
  · skip
    have i_1 : p0.toInt = 7 := (fa_eq _ _).mp c_1
    refine lv_iconst (v := 1) hx hb dX8_canTrap_18 kic_1 ?_
    refine lv_goto (tgt := 23) hx hb dX8_canTrap_19 rfl ?_
    have hP9 := h.2.1.sub [] rfl
    have hD9 := h.2.2.1.sub (ws' := []) [] (by decide) rfl
    exact W.zret (v := 1) hx hb hr (by decide) (fun t ht hW => ⟨⟨1, (), rfl, (by (first | rw [] | skip); (repeat' split) <;> first | (with_reducible rfl) | (exfalso; omega) | rfl | omega | contradiction), (by rw [ht]; exact hP9), hD9⟩, h.2.2.2.1.F ht⟩) h.2.2.2.1.2.2 dX8_canTrap_23 hlocks
  · skip
    have i_1 : ¬ p0.toInt = 7 := fun h9 => c_1 ((fa_eq _ _).mpr h9)
    refine lv_iload_n hx hb dX8_canTrap_6 rfl (lv_at hl 0 rfl) ?_
    refine lv_bipush (v := 8) hx hb dX8_canTrap_7 kbi_8 ?_
    refine lv_icmp_eq (tgt := 18) hx hb dX8_canTrap_9 rfl (fun c_2 => ?_) (fun c_2 => ?_)
    · skip
      have i_2 : p0.toInt = 8 := (fa_eq _ _).mp c_2
      refine lv_iconst (v := 1) hx hb dX8_canTrap_18 kic_1 ?_
      refine lv_goto (tgt := 23) hx hb dX8_canTrap_19 rfl ?_
      have hP9 := h.2.1.sub [] rfl
      have hD9 := h.2.2.1.sub (ws' := []) [] (by decide) rfl
      exact W.zret (v := 1) hx hb hr (by decide) (fun t ht hW => ⟨⟨1, (), rfl, (by (first | rw [] | skip); (repeat' split) <;> first | (with_reducible rfl) | (exfalso; omega) | rfl | omega | contradiction), (by rw [ht]; exact hP9), hD9⟩, h.2.2.2.1.F ht⟩) h.2.2.2.1.2.2 dX8_canTrap_23 hlocks
    · skip
      have i_2 : ¬ p0.toInt = 8 := fun h9 => c_2 ((fa_eq _ _).mpr h9)
      refine lv_iload_n hx hb dX8_canTrap_12 rfl (lv_at hl 0 rfl) ?_
      refine lv_bipush (v := 10) hx hb dX8_canTrap_13 kbi_10 ?_
      refine lv_icmp_ne (tgt := 22) hx hb dX8_canTrap_15 rfl (fun c_3 => ?_) (fun c_3 => ?_)
      · skip
        have i_3 : ¬ p0.toInt = 10 := fun h9 => c_3 ((fa_eq _ _).mpr h9)
        refine lv_iconst (v := 0) hx hb dX8_canTrap_22 kic_0 ?_
        have hP9 := h.2.1.sub [] rfl
        have hD9 := h.2.2.1.sub (ws' := []) [] (by decide) rfl
        exact W.zret (v := 0) hx hb hr (by decide) (fun t ht hW => ⟨⟨0, (), rfl, (by (first | rw [] | skip); (repeat' split) <;> first | (with_reducible rfl) | (exfalso; omega) | rfl | omega | contradiction), (by rw [ht]; exact hP9), hD9⟩, h.2.2.2.1.F ht⟩) h.2.2.2.1.2.2 dX8_canTrap_23 hlocks
      · skip
        have i_3 : p0.toInt = 10 := (fa_eq _ _).mp c_3
        refine lv_iconst (v := 1) hx hb dX8_canTrap_18 kic_1 ?_
        refine lv_goto (tgt := 23) hx hb dX8_canTrap_19 rfl ?_
        have hP9 := h.2.1.sub [] rfl
        have hD9 := h.2.2.1.sub (ws' := []) [] (by decide) rfl
        exact W.zret (v := 1) hx hb hr (by decide) (fun t ht hW => ⟨⟨1, (), rfl, (by (first | rw [] | skip); (repeat' split) <;> first | (with_reducible rfl) | (exfalso; omega) | rfl | omega | contradiction), (by rw [ht]; exact hP9), hD9⟩, h.2.2.2.1.F ht⟩) h.2.2.2.1.2.2 dX8_canTrap_23 hlocks