set_option maxHeartbeats 4000000 in
set_option maxRecDepth 100000 in
theorem c_X7_isRegister (l : Launch) (dC : Nat → ClassId) (dI : Nat → Nat → Nat) (sz : Nat) (p0 : Int32)  : Met l yX7_isRegister wsX7_isRegister ({ frames := 0, cells := 0, slots := 0, locals := 0 } : Room) (va_Pc [.int p0] (KPre (dC, dI) [] [] sz (fun _ => True))) (va_Qi (fun (r : Int32) (u : Unit) => r = if 0 ≤ p0.toInt ∧ p0.toInt < 8 then 1 else 0) (KPost (dC, dI) (va_A [] sz) (fun (u : Unit) => [])) (va_A [] sz)) 0 0 (va_A [] sz) := by
  refine kMet (y := yX7_isRegister) (wsM := wsX7_isRegister) (cc := cX7_isRegister) (maxL := 1) (ret := (some .boolean)) (rm := ({ frames := 0, cells := 0, slots := 0, locals := 0 } : Room)) (mc := 0) (ms := 0) (av := [.int p0]) (D := (dC, dI)) (wc := []) (tc := []) (sz := sz) (X := fun _ => True) (Qc := fun A => va_Qi (fun (r : Int32) (u : Unit) => r = if 0 ≤ p0.toInt ∧ p0.toInt < 8 then 1 else 0) (KPost (dC, dI) A (fun (u : Unit) => [])) A) (by decide) rfl (Nat.le_of_ble_eq_true rfl) ?_
  intro p e s m below meth c A ls E hr hlocks hnm hsz hAe hX h hl
  have hx := E.1
  have hb := E.2.1
  have hl : lv_has ls 1 [(0, .int p0)] := hl
  refine lv_iload_n hx hb dX7_isRegister_0 rfl (lv_at hl 0 rfl) ?_
  refine lv_if_lt (tgt := 14) hx hb dX7_isRegister_1 rfl (fun c_1 => ?_) (fun c_1 => ?_)
  · skip
    have i_1 : p0.toInt < 0 := (fa_lt _ _).mp c_1
    refine lv_iconst (v := 0) hx hb dX7_isRegister_14 kic_0 ?_
    have hP9 := h.2.1.sub [] rfl
    have hD9 := h.2.2.1.sub (ws' := []) [] (by decide) rfl
    exact W.zret (v := 0) hx hb hr (by decide) (fun t ht hW => ⟨⟨0, (), rfl, (by (repeat' split) <;> first | (with_reducible rfl) | (exfalso; omega) | rfl | omega | contradiction), (by rw [ht]; exact hP9), hD9⟩, h.2.2.2.1.F ht⟩) h.2.2.2.1.2.2 dX7_isRegister_15 hlocks
  · skip
    have i_1 : ¬ p0.toInt < 0 := fun h9 => c_1 ((fa_lt _ _).mpr h9)
    refine lv_iload_n hx hb dX7_isRegister_4 rfl (lv_at hl 0 rfl) ?_
    refine lv_bipush (v := 8) hx hb dX7_isRegister_5 kbi_8 ?_
    refine lv_icmp_ge (tgt := 14) hx hb dX7_isRegister_7 rfl (fun c_2 => ?_) (fun c_2 => ?_)
    · skip
      have i_2 : 8 ≤ p0.toInt := (fa_le _ _).mp c_2
      refine lv_iconst (v := 0) hx hb dX7_isRegister_14 kic_0 ?_
      have hP9 := h.2.1.sub [] rfl
      have hD9 := h.2.2.1.sub (ws' := []) [] (by decide) rfl
      exact W.zret (v := 0) hx hb hr (by decide) (fun t ht hW => ⟨⟨0, (), rfl, (by (repeat' split) <;> first | (with_reducible rfl) | (exfalso; omega) | rfl | omega | contradiction), (by rw [ht]; exact hP9), hD9⟩, h.2.2.2.1.F ht⟩) h.2.2.2.1.2.2 dX7_isRegister_15 hlocks
    · skip
      have i_2 : ¬ 8 ≤ p0.toInt := fun h9 => c_2 ((fa_le _ _).mpr h9)
      refine lv_iconst (v := 1) hx hb dX7_isRegister_10 kic_1 ?_
      refine lv_goto (tgt := 15) hx hb dX7_isRegister_11 rfl ?_
      have hP9 := h.2.1.sub [] rfl
      have hD9 := h.2.2.1.sub (ws' := []) [] (by decide) rfl
      exact W.zret (v := 1) hx hb hr (by decide) (fun t ht hW => ⟨⟨1, (), rfl, (by (repeat' split) <;> first | (with_reducible rfl) | (exfalso; omega) | rfl | omega | contradiction), (by rw [ht]; exact hP9), hD9⟩, h.2.2.2.1.F ht⟩) h.2.2.2.1.2.2 dX7_isRegister_15 hlocks
set_option maxHeartbeats 4000000 in
set_option maxRecDepth 100000 in
theorem c_X7_isInstruction (l : Launch) (dC : Nat → ClassId) (dI : Nat → Nat → Nat) (sz : Nat) (p0 : Int32)  : Met l yX7_isInstruction wsX7_isInstruction ({ frames := 0, cells := 0, slots := 0, locals := 0 } : Room) (va_Pc [.int p0] (KPre (dC, dI) [] [] sz (fun _ => True))) (va_Qi (fun (r : Int32) (u : Unit) => r = if 0 ≤ p0.toInt ∧ p0.toInt < 12 then 1 else 0) (KPost (dC, dI) (va_A [] sz) (fun (u : Unit) => [])) (va_A [] sz)) 0 0 (va_A [] sz) := by
  refine kMet (y := yX7_isInstruction) (wsM := wsX7_isInstruction) (cc := cX7_isInstruction) (maxL := 1) (ret := (some .boolean)) (rm := ({ frames := 0, cells := 0, slots := 0, locals := 0 } : Room)) (mc := 0) (ms := 0) (av := [.int p0]) (D := (dC, dI)) (wc := []) (tc := []) (sz := sz) (X := fun _ => True) (Qc := fun A => va_Qi (fun (r : Int32) (u : Unit) => r = if 0 ≤ p0.toInt ∧ p0.toInt < 12 then 1 else 0) (KPost (dC, dI) A (fun (u : Unit) => [])) A) (by decide) rfl (Nat.le_of_ble_eq_true rfl) ?_
  intro p e s m below meth c A ls E hr hlocks hnm hsz hAe hX h hl
  have hx := E.1
  have hb := E.2.1
  have hl : lv_has ls 1 [(0, .int p0)] := hl
  refine lv_iload_n hx hb dX7_isInstruction_0 rfl (lv_at hl 0 rfl) ?_
  refine lv_if_lt (tgt := 14) hx hb dX7_isInstruction_1 rfl (fun c_1 => ?_) (fun c_1 => ?_)
  · skip
    have i_1 : p0.toInt < 0 := (fa_lt _ _).mp c_1
    refine lv_iconst (v := 0) hx hb dX7_isInstruction_14 kic_0 ?_
    have hP9 := h.2.1.sub [] rfl
    have hD9 := h.2.2.1.sub (ws' := []) [] (by decide) rfl
    exact W.zret (v := 0) hx hb hr (by decide) (fun t ht hW => ⟨⟨0, (), rfl, (by (repeat' split) <;> first | (with_reducible rfl) | (exfalso; omega) | rfl | omega | contradiction), (by rw [ht]; exact hP9), hD9⟩, h.2.2.2.1.F ht⟩) h.2.2.2.1.2.2 dX7_isInstruction_15 hlocks
  · skip
    have i_1 : ¬ p0.toInt < 0 := fun h9 => c_1 ((fa_lt _ _).mpr h9)
    refine lv_iload_n hx hb dX7_isInstruction_4 rfl (lv_at hl 0 rfl) ?_
    refine lv_bipush (v := 12) hx hb dX7_isInstruction_5 kbi_12 ?_
    refine lv_icmp_ge (tgt := 14) hx hb dX7_isInstruction_7 rfl (fun c_2 => ?_) (fun c_2 => ?_)
    · skip
      have i_2 : 12 ≤ p0.toInt := (fa_le _ _).mp c_2
      refine lv_iconst (v := 0) hx hb dX7_isInstruction_14 kic_0 ?_
      have hP9 := h.2.1.sub [] rfl
      have hD9 := h.2.2.1.sub (ws' := []) [] (by decide) rfl
      exact W.zret (v := 0) hx hb hr (by decide) (fun t ht hW => ⟨⟨0, (), rfl, (by (repeat' split) <;> first | (with_reducible rfl) | (exfalso; omega) | rfl | omega | contradiction), (by rw [ht]; exact hP9), hD9⟩, h.2.2.2.1.F ht⟩) h.2.2.2.1.2.2 dX7_isInstruction_15 hlocks
    · skip
      have i_2 : ¬ 12 ≤ p0.toInt := fun h9 => c_2 ((fa_le _ _).mpr h9)
      refine lv_iconst (v := 1) hx hb dX7_isInstruction_10 kic_1 ?_
      refine lv_goto (tgt := 15) hx hb dX7_isInstruction_11 rfl ?_
      have hP9 := h.2.1.sub [] rfl
      have hD9 := h.2.2.1.sub (ws' := []) [] (by decide) rfl
      exact W.zret (v := 1) hx hb hr (by decide) (fun t ht hW => ⟨⟨1, (), rfl, (by (repeat' split) <;> first | (with_reducible rfl) | (exfalso; omega) | rfl | omega | contradiction), (by rw [ht]; exact hP9), hD9⟩, h.2.2.2.1.F ht⟩) h.2.2.2.1.2.2 dX7_isInstruction_15 hlocks
set_option maxHeartbeats 4000000 in
set_option maxRecDepth 100000 in
theorem c_X7_isCell (l : Launch) (dC : Nat → ClassId) (dI : Nat → Nat → Nat) (sz : Nat) (p0 : Int64)  : Met l yX7_isCell wsX7_isCell ({ frames := 0, cells := 0, slots := 0, locals := 0 } : Room) (va_Pc [.long p0] (KPre (dC, dI) [] [] sz (fun _ => True))) (va_Qi (fun (r : Int32) (u : Unit) => r = if 0 ≤ p0.toInt ∧ p0.toInt < 64 then 1 else 0) (KPost (dC, dI) (va_A [] sz) (fun (u : Unit) => [])) (va_A [] sz)) 0 0 (va_A [] sz) := by
  refine kMet (y := yX7_isCell) (wsM := wsX7_isCell) (cc := cX7_isCell) (maxL := 2) (ret := (some .boolean)) (rm := ({ frames := 0, cells := 0, slots := 0, locals := 0 } : Room)) (mc := 0) (ms := 0) (av := [.long p0]) (D := (dC, dI)) (wc := []) (tc := []) (sz := sz) (X := fun _ => True) (Qc := fun A => va_Qi (fun (r : Int32) (u : Unit) => r = if 0 ≤ p0.toInt ∧ p0.toInt < 64 then 1 else 0) (KPost (dC, dI) A (fun (u : Unit) => [])) A) (by decide) rfl (Nat.le_of_ble_eq_true rfl) ?_
  intro p e s m below meth c A ls E hr hlocks hnm hsz hAe hX h hl
  have hx := E.1
  have hb := E.2.1
  have hl : lv_has ls 2 [(0, .long p0)] := hl
  refine lv_lload_n hx hb dX7_isCell_0 rfl (lv_at hl 0 rfl) ?_
  refine lv_lconst (v := 0) hx hb dX7_isCell_1 (by decide) ?_
  refine W.lcmp hx hb dX7_isCell_2 ?_
  refine lv_if_lt (tgt := 18) hx hb dX7_isCell_3 rfl (fun c_1 => ?_) (fun c_1 => ?_)
  · skip
    have i_1 : p0.toInt < 0 := by have z := klt_p c_1; first | exact z | (simp only [Int32.toInt_toInt64] at z; exact z)
    refine lv_iconst (v := 0) hx hb dX7_isCell_18 kic_0 ?_
    have hP9 := h.2.1.sub [] rfl
    have hD9 := h.2.2.1.sub (ws' := []) [] (by decide) rfl
    exact W.zret (v := 0) hx hb hr (by decide) (fun t ht hW => ⟨⟨0, (), rfl, (by (repeat' split) <;> first | (with_reducible rfl) | (exfalso; omega) | rfl | omega | contradiction), (by rw [ht]; exact hP9), hD9⟩, h.2.2.2.1.F ht⟩) h.2.2.2.1.2.2 dX7_isCell_19 hlocks
  · skip
    have i_1 : ¬ p0.toInt < 0 := by have z := klt_n c_1; first | exact z | (simp only [Int32.toInt_toInt64] at z; exact z)
    refine lv_lload_n hx hb dX7_isCell_6 rfl (lv_at hl 0 rfl) ?_
    refine lv_ldc2 (v := 64) hx hb E.2.2.2.1 (E.2.2.2.2 _ (List.mem_of_getElem? (i := 1) rfl)) dX7_isCell_7 ?_
    refine W.lcmp hx hb dX7_isCell_10 ?_
    refine lv_if_ge (tgt := 18) hx hb dX7_isCell_11 rfl (fun c_2 => ?_) (fun c_2 => ?_)
    · skip
      have i_2 : 64 ≤ p0.toInt := by have z := kge_p c_2; first | exact z | (simp only [Int32.toInt_toInt64] at z; exact z)
      refine lv_iconst (v := 0) hx hb dX7_isCell_18 kic_0 ?_
      have hP9 := h.2.1.sub [] rfl
      have hD9 := h.2.2.1.sub (ws' := []) [] (by decide) rfl
      exact W.zret (v := 0) hx hb hr (by decide) (fun t ht hW => ⟨⟨0, (), rfl, (by (repeat' split) <;> first | (with_reducible rfl) | (exfalso; omega) | rfl | omega | contradiction), (by rw [ht]; exact hP9), hD9⟩, h.2.2.2.1.F ht⟩) h.2.2.2.1.2.2 dX7_isCell_19 hlocks
    · skip
      have i_2 : ¬ 64 ≤ p0.toInt := by have z := kge_n c_2; first | exact z | (simp only [Int32.toInt_toInt64] at z; exact z)
      refine lv_iconst (v := 1) hx hb dX7_isCell_14 kic_1 ?_
      refine lv_goto (tgt := 19) hx hb dX7_isCell_15 rfl ?_
      have hP9 := h.2.1.sub [] rfl
      have hD9 := h.2.2.1.sub (ws' := []) [] (by decide) rfl
      exact W.zret (v := 1) hx hb hr (by decide) (fun t ht hW => ⟨⟨1, (), rfl, (by (repeat' split) <;> first | (with_reducible rfl) | (exfalso; omega) | rfl | omega | contradiction), (by rw [ht]; exact hP9), hD9⟩, h.2.2.2.1.F ht⟩) h.2.2.2.1.2.2 dX7_isCell_19 hlocks
set_option maxHeartbeats 4000000 in
set_option maxRecDepth 100000 in
theorem c_X8_isRegister (l : Launch) (dC : Nat → ClassId) (dI : Nat → Nat → Nat) (sz : Nat) (p0 : Int32)  : Met l yX8_isRegister wsX8_isRegister ({ frames := 0, cells := 0, slots := 0, locals := 0 } : Room) (va_Pc [.int p0] (KPre (dC, dI) [] [] sz (fun _ => True))) (va_Qi (fun (r : Int32) (u : Unit) => r = if 0 ≤ p0.toInt ∧ p0.toInt < 8 then 1 else 0) (KPost (dC, dI) (va_A [] sz) (fun (u : Unit) => [])) (va_A [] sz)) 0 0 (va_A [] sz) := by
  refine kMet (y := yX8_isRegister) (wsM := wsX8_isRegister) (cc := cX8_isRegister) (maxL := 1) (ret := (some .boolean)) (rm := ({ frames := 0, cells := 0, slots := 0, locals := 0 } : Room)) (mc := 0) (ms := 0) (av := [.int p0]) (D := (dC, dI)) (wc := []) (tc := []) (sz := sz) (X := fun _ => True) (Qc := fun A => va_Qi (fun (r : Int32) (u : Unit) => r = if 0 ≤ p0.toInt ∧ p0.toInt < 8 then 1 else 0) (KPost (dC, dI) A (fun (u : Unit) => [])) A) (by decide) rfl (Nat.le_of_ble_eq_true rfl) ?_
  intro p e s m below meth c A ls E hr hlocks hnm hsz hAe hX h hl
  have hx := E.1
  have hb := E.2.1
  have hl : lv_has ls 1 [(0, .int p0)] := hl
  refine lv_iload_n hx hb dX8_isRegister_0 rfl (lv_at hl 0 rfl) ?_
  refine lv_if_lt (tgt := 14) hx hb dX8_isRegister_1 rfl (fun c_1 => ?_) (fun c_1 => ?_)
  · skip
    have i_1 : p0.toInt < 0 := (fa_lt _ _).mp c_1
    refine lv_iconst (v := 0) hx hb dX8_isRegister_14 kic_0 ?_
    have hP9 := h.2.1.sub [] rfl
    have hD9 := h.2.2.1.sub (ws' := []) [] (by decide) rfl
    exact W.zret (v := 0) hx hb hr (by decide) (fun t ht hW => ⟨⟨0, (), rfl, (by (repeat' split) <;> first | (with_reducible rfl) | (exfalso; omega) | rfl | omega | contradiction), (by rw [ht]; exact hP9), hD9⟩, h.2.2.2.1.F ht⟩) h.2.2.2.1.2.2 dX8_isRegister_15 hlocks
  · skip
    have i_1 : ¬ p0.toInt < 0 := fun h9 => c_1 ((fa_lt _ _).mpr h9)
    refine lv_iload_n hx hb dX8_isRegister_4 rfl (lv_at hl 0 rfl) ?_
    refine lv_bipush (v := 8) hx hb dX8_isRegister_5 kbi_8 ?_
    refine lv_icmp_ge (tgt := 14) hx hb dX8_isRegister_7 rfl (fun c_2 => ?_) (fun c_2 => ?_)
    · skip
      have i_2 : 8 ≤ p0.toInt := (fa_le _ _).mp c_2
      refine lv_iconst (v := 0) hx hb dX8_isRegister_14 kic_0 ?_
      have hP9 := h.2.1.sub [] rfl
      have hD9 := h.2.2.1.sub (ws' := []) [] (by decide) rfl
      exact W.zret (v := 0) hx hb hr (by decide) (fun t ht hW => ⟨⟨0, (), rfl, (by (repeat' split) <;> first | (with_reducible rfl) | (exfalso; omega) | rfl | omega | contradiction), (by rw [ht]; exact hP9), hD9⟩, h.2.2.2.1.F ht⟩) h.2.2.2.1.2.2 dX8_isRegister_15 hlocks
    · skip
      have i_2 : ¬ 8 ≤ p0.toInt := fun h9 => c_2 ((fa_le _ _).mpr h9)
      refine lv_iconst (v := 1) hx hb dX8_isRegister_10 kic_1 ?_
      refine lv_goto (tgt := 15) hx hb dX8_isRegister_11 rfl ?_
      have hP9 := h.2.1.sub [] rfl
      have hD9 := h.2.2.1.sub (ws' := []) [] (by decide) rfl
      exact W.zret (v := 1) hx hb hr (by decide) (fun t ht hW => ⟨⟨1, (), rfl, (by (repeat' split) <;> first | (with_reducible rfl) | (exfalso; omega) | rfl | omega | contradiction), (by rw [ht]; exact hP9), hD9⟩, h.2.2.2.1.F ht⟩) h.2.2.2.1.2.2 dX8_isRegister_15 hlocks
set_option maxHeartbeats 4000000 in
set_option maxRecDepth 100000 in
theorem c_X8_isInstruction (l : Launch) (dC : Nat → ClassId) (dI : Nat → Nat → Nat) (sz : Nat) (p0 : Int32)  : Met l yX8_isInstruction wsX8_isInstruction ({ frames := 0, cells := 0, slots := 0, locals := 0 } : Room) (va_Pc [.int p0] (KPre (dC, dI) [] [] sz (fun _ => True))) (va_Qi (fun (r : Int32) (u : Unit) => r = if 0 ≤ p0.toInt ∧ p0.toInt < 12 then 1 else 0) (KPost (dC, dI) (va_A [] sz) (fun (u : Unit) => [])) (va_A [] sz)) 0 0 (va_A [] sz) := by
  refine kMet (y := yX8_isInstruction) (wsM := wsX8_isInstruction) (cc := cX8_isInstruction) (maxL := 1) (ret := (some .boolean)) (rm := ({ frames := 0, cells := 0, slots := 0, locals := 0 } : Room)) (mc := 0) (ms := 0) (av := [.int p0]) (D := (dC, dI)) (wc := []) (tc := []) (sz := sz) (X := fun _ => True) (Qc := fun A => va_Qi (fun (r : Int32) (u : Unit) => r = if 0 ≤ p0.toInt ∧ p0.toInt < 12 then 1 else 0) (KPost (dC, dI) A (fun (u : Unit) => [])) A) (by decide) rfl (Nat.le_of_ble_eq_true rfl) ?_
  intro p e s m below meth c A ls E hr hlocks hnm hsz hAe hX h hl
  have hx := E.1
  have hb := E.2.1
  have hl : lv_has ls 1 [(0, .int p0)] := hl
  refine lv_iload_n hx hb dX8_isInstruction_0 rfl (lv_at hl 0 rfl) ?_
  refine lv_if_lt (tgt := 14) hx hb dX8_isInstruction_1 rfl (fun c_1 => ?_) (fun c_1 => ?_)
  · skip
    have i_1 : p0.toInt < 0 := (fa_lt _ _).mp c_1
    refine lv_iconst (v := 0) hx hb dX8_isInstruction_14 kic_0 ?_
    have hP9 := h.2.1.sub [] rfl
    have hD9 := h.2.2.1.sub (ws' := []) [] (by decide) rfl
    exact W.zret (v := 0) hx hb hr (by decide) (fun t ht hW => ⟨⟨0, (), rfl, (by (repeat' split) <;> first | (with_reducible rfl) | (exfalso; omega) | rfl | omega | contradiction), (by rw [ht]; exact hP9), hD9⟩, h.2.2.2.1.F ht⟩) h.2.2.2.1.2.2 dX8_isInstruction_15 hlocks
  · skip
    have i_1 : ¬ p0.toInt < 0 := fun h9 => c_1 ((fa_lt _ _).mpr h9)
    refine lv_iload_n hx hb dX8_isInstruction_4 rfl (lv_at hl 0 rfl) ?_
    refine lv_bipush (v := 12) hx hb dX8_isInstruction_5 kbi_12 ?_
    refine lv_icmp_ge (tgt := 14) hx hb dX8_isInstruction_7 rfl (fun c_2 => ?_) (fun c_2 => ?_)
    · skip
      have i_2 : 12 ≤ p0.toInt := (fa_le _ _).mp c_2
      refine lv_iconst (v := 0) hx hb dX8_isInstruction_14 kic_0 ?_
      have hP9 := h.2.1.sub [] rfl
      have hD9 := h.2.2.1.sub (ws' := []) [] (by decide) rfl
      exact W.zret (v := 0) hx hb hr (by decide) (fun t ht hW => ⟨⟨0, (), rfl, (by (repeat' split) <;> first | (with_reducible rfl) | (exfalso; omega) | rfl | omega | contradiction), (by rw [ht]; exact hP9), hD9⟩, h.2.2.2.1.F ht⟩) h.2.2.2.1.2.2 dX8_isInstruction_15 hlocks
    · skip
      have i_2 : ¬ 12 ≤ p0.toInt := fun h9 => c_2 ((fa_le _ _).mpr h9)
      refine lv_iconst (v := 1) hx hb dX8_isInstruction_10 kic_1 ?_
      refine lv_goto (tgt := 15) hx hb dX8_isInstruction_11 rfl ?_
      have hP9 := h.2.1.sub [] rfl
      have hD9 := h.2.2.1.sub (ws' := []) [] (by decide) rfl
      exact W.zret (v := 1) hx hb hr (by decide) (fun t ht hW => ⟨⟨1, (), rfl, (by (repeat' split) <;> first | (with_reducible rfl) | (exfalso; omega) | rfl | omega | contradiction), (by rw [ht]; exact hP9), hD9⟩, h.2.2.2.1.F ht⟩) h.2.2.2.1.2.2 dX8_isInstruction_15 hlocks
set_option maxHeartbeats 4000000 in
set_option maxRecDepth 100000 in
theorem c_X8_isCell (l : Launch) (dC : Nat → ClassId) (dI : Nat → Nat → Nat) (sz : Nat) (p0 : Int32)  : Met l yX8_isCell wsX8_isCell ({ frames := 0, cells := 0, slots := 0, locals := 0 } : Room) (va_Pc [.int p0] (KPre (dC, dI) [] [] sz (fun _ => True))) (va_Qi (fun (r : Int32) (u : Unit) => r = if 0 ≤ p0.toInt ∧ p0.toInt < 64 then 1 else 0) (KPost (dC, dI) (va_A [] sz) (fun (u : Unit) => [])) (va_A [] sz)) 0 0 (va_A [] sz) := by
  refine kMet (y := yX8_isCell) (wsM := wsX8_isCell) (cc := cX8_isCell) (maxL := 1) (ret := (some .boolean)) (rm := ({ frames := 0, cells := 0, slots := 0, locals := 0 } : Room)) (mc := 0) (ms := 0) (av := [.int p0]) (D := (dC, dI)) (wc := []) (tc := []) (sz := sz) (X := fun _ => True) (Qc := fun A => va_Qi (fun (r : Int32) (u : Unit) => r = if 0 ≤ p0.toInt ∧ p0.toInt < 64 then 1 else 0) (KPost (dC, dI) A (fun (u : Unit) => [])) A) (by decide) rfl (Nat.le_of_ble_eq_true rfl) ?_
  intro p e s m below meth c A ls E hr hlocks hnm hsz hAe hX h hl
  have hx := E.1
  have hb := E.2.1
  have hl : lv_has ls 1 [(0, .int p0)] := hl
  refine lv_iload_n hx hb dX8_isCell_0 rfl (lv_at hl 0 rfl) ?_
  refine lv_if_lt (tgt := 14) hx hb dX8_isCell_1 rfl (fun c_1 => ?_) (fun c_1 => ?_)
  · skip
    have i_1 : p0.toInt < 0 := (fa_lt _ _).mp c_1
    refine lv_iconst (v := 0) hx hb dX8_isCell_14 kic_0 ?_
    have hP9 := h.2.1.sub [] rfl
    have hD9 := h.2.2.1.sub (ws' := []) [] (by decide) rfl
    exact W.zret (v := 0) hx hb hr (by decide) (fun t ht hW => ⟨⟨0, (), rfl, (by (repeat' split) <;> first | (with_reducible rfl) | (exfalso; omega) | rfl | omega | contradiction), (by rw [ht]; exact hP9), hD9⟩, h.2.2.2.1.F ht⟩) h.2.2.2.1.2.2 dX8_isCell_15 hlocks
  · skip
    have i_1 : ¬ p0.toInt < 0 := fun h9 => c_1 ((fa_lt _ _).mpr h9)
    refine lv_iload_n hx hb dX8_isCell_4 rfl (lv_at hl 0 rfl) ?_
    refine lv_bipush (v := 64) hx hb dX8_isCell_5 kbi_64 ?_
    refine lv_icmp_ge (tgt := 14) hx hb dX8_isCell_7 rfl (fun c_2 => ?_) (fun c_2 => ?_)
    · skip
      have i_2 : 64 ≤ p0.toInt := (fa_le _ _).mp c_2
      refine lv_iconst (v := 0) hx hb dX8_isCell_14 kic_0 ?_
      have hP9 := h.2.1.sub [] rfl
      have hD9 := h.2.2.1.sub (ws' := []) [] (by decide) rfl
      exact W.zret (v := 0) hx hb hr (by decide) (fun t ht hW => ⟨⟨0, (), rfl, (by (repeat' split) <;> first | (with_reducible rfl) | (exfalso; omega) | rfl | omega | contradiction), (by rw [ht]; exact hP9), hD9⟩, h.2.2.2.1.F ht⟩) h.2.2.2.1.2.2 dX8_isCell_15 hlocks
    · skip
      have i_2 : ¬ 64 ≤ p0.toInt := fun h9 => c_2 ((fa_le _ _).mpr h9)
      refine lv_iconst (v := 1) hx hb dX8_isCell_10 kic_1 ?_
      refine lv_goto (tgt := 15) hx hb dX8_isCell_11 rfl ?_
      have hP9 := h.2.1.sub [] rfl
      have hD9 := h.2.2.1.sub (ws' := []) [] (by decide) rfl
      exact W.zret (v := 1) hx hb hr (by decide) (fun t ht hW => ⟨⟨1, (), rfl, (by (repeat' split) <;> first | (with_reducible rfl) | (exfalso; omega) | rfl | omega | contradiction), (by rw [ht]; exact hP9), hD9⟩, h.2.2.2.1.F ht⟩) h.2.2.2.1.2.2 dX8_isCell_15 hlocks
set_option maxHeartbeats 4000000 in
set_option maxRecDepth 100000 in
theorem c_X8_isIn (l : Launch) (dC : Nat → ClassId) (dI : Nat → Nat → Nat) (sz : Nat) (p0 : Int64) (p1 : Int64) (p2 : Int64)  : Met l yX8_isIn wsX8_isIn ({ frames := 0, cells := 0, slots := 0, locals := 0 } : Room) (va_Pc [.long p0, .long p1, .long p2] (KPre (dC, dI) [] [] sz (fun _ => True))) (va_Qi (fun (r : Int32) (u : Unit) => r = if p1.toInt ≤ p0.toInt ∧ p0.toInt ≤ p2.toInt then 1 else 0) (KPost (dC, dI) (va_A [] sz) (fun (u : Unit) => [])) (va_A [] sz)) 0 0 (va_A [] sz) := by
  refine kMet (y := yX8_isIn) (wsM := wsX8_isIn) (cc := cX8_isIn) (maxL := 6) (ret := (some .boolean)) (rm := ({ frames := 0, cells := 0, slots := 0, locals := 0 } : Room)) (mc := 0) (ms := 0) (av := [.long p0, .long p1, .long p2]) (D := (dC, dI)) (wc := []) (tc := []) (sz := sz) (X := fun _ => True) (Qc := fun A => va_Qi (fun (r : Int32) (u : Unit) => r = if p1.toInt ≤ p0.toInt ∧ p0.toInt ≤ p2.toInt then 1 else 0) (KPost (dC, dI) A (fun (u : Unit) => [])) A) (by decide) rfl (Nat.le_of_ble_eq_true rfl) ?_
  intro p e s m below meth c A ls E hr hlocks hnm hsz hAe hX h hl
  have hx := E.1
  have hb := E.2.1
  have hl : lv_has ls 6 [(0, .long p0), (2, .long p1), (4, .long p2)] := hl
  refine lv_lload_n hx hb dX8_isIn_0 rfl (lv_at hl 0 rfl) ?_
  refine lv_lload_n hx hb dX8_isIn_1 rfl (lv_at hl 1 rfl) ?_
  refine W.lcmp hx hb dX8_isIn_2 ?_
  refine lv_if_lt (tgt := 17) hx hb dX8_isIn_3 rfl (fun c_1 => ?_) (fun c_1 => ?_)
  · skip
    have i_1 : p0.toInt < p1.toInt := by have z := klt_p c_1; first | exact z | (simp only [Int32.toInt_toInt64] at z; exact z)
    refine lv_iconst (v := 0) hx hb dX8_isIn_17 kic_0 ?_
    have hP9 := h.2.1.sub [] rfl
    have hD9 := h.2.2.1.sub (ws' := []) [] (by decide) rfl
    exact W.zret (v := 0) hx hb hr (by decide) (fun t ht hW => ⟨⟨0, (), rfl, (by (repeat' split) <;> first | (with_reducible rfl) | (exfalso; omega) | rfl | omega | contradiction), (by rw [ht]; exact hP9), hD9⟩, h.2.2.2.1.F ht⟩) h.2.2.2.1.2.2 dX8_isIn_18 hlocks
  · skip
    have i_1 : ¬ p0.toInt < p1.toInt := by have z := klt_n c_1; first | exact z | (simp only [Int32.toInt_toInt64] at z; exact z)
    refine lv_lload_n hx hb dX8_isIn_6 rfl (lv_at hl 0 rfl) ?_
    refine lv_lload hx hb dX8_isIn_7 (lv_at hl 2 rfl) ?_
    refine W.lcmp hx hb dX8_isIn_9 ?_
    refine lv_if_gt (tgt := 17) hx hb dX8_isIn_10 rfl (fun c_2 => ?_) (fun c_2 => ?_)
    · skip
      have i_2 : p2.toInt < p0.toInt := by have z := kgt_p c_2; first | exact z | (simp only [Int32.toInt_toInt64] at z; exact z)
      refine lv_iconst (v := 0) hx hb dX8_isIn_17 kic_0 ?_
      have hP9 := h.2.1.sub [] rfl
      have hD9 := h.2.2.1.sub (ws' := []) [] (by decide) rfl
      exact W.zret (v := 0) hx hb hr (by decide) (fun t ht hW => ⟨⟨0, (), rfl, (by (repeat' split) <;> first | (with_reducible rfl) | (exfalso; omega) | rfl | omega | contradiction), (by rw [ht]; exact hP9), hD9⟩, h.2.2.2.1.F ht⟩) h.2.2.2.1.2.2 dX8_isIn_18 hlocks
    · skip
      have i_2 : ¬ p2.toInt < p0.toInt := by have z := kgt_n c_2; first | exact z | (simp only [Int32.toInt_toInt64] at z; exact z)
      refine lv_iconst (v := 1) hx hb dX8_isIn_13 kic_1 ?_
      refine lv_goto (tgt := 18) hx hb dX8_isIn_14 rfl ?_
      have hP9 := h.2.1.sub [] rfl
      have hD9 := h.2.2.1.sub (ws' := []) [] (by decide) rfl
      exact W.zret (v := 1) hx hb hr (by decide) (fun t ht hW => ⟨⟨1, (), rfl, (by (repeat' split) <;> first | (with_reducible rfl) | (exfalso; omega) | rfl | omega | contradiction), (by rw [ht]; exact hP9), hD9⟩, h.2.2.2.1.F ht⟩) h.2.2.2.1.2.2 dX8_isIn_18 hlocks
set_option maxHeartbeats 4000000 in
set_option maxRecDepth 100000 in
theorem c_X8_hasD (l : Launch) (dC : Nat → ClassId) (dI : Nat → Nat → Nat) (sz : Nat) (p0 : Int32)  : Met l yX8_hasD wsX8_hasD ({ frames := 0, cells := 0, slots := 0, locals := 0 } : Room) (va_Pc [.int p0] (KPre (dC, dI) [] [] sz (fun _ => True))) (va_Qi (fun (r : Int32) (u : Unit) => r = if p0.toInt ≤ 7 then 1 else 0) (KPost (dC, dI) (va_A [] sz) (fun (u : Unit) => [])) (va_A [] sz)) 0 0 (va_A [] sz) := by
  refine kMet (y := yX8_hasD) (wsM := wsX8_hasD) (cc := cX8_hasD) (maxL := 1) (ret := (some .boolean)) (rm := ({ frames := 0, cells := 0, slots := 0, locals := 0 } : Room)) (mc := 0) (ms := 0) (av := [.int p0]) (D := (dC, dI)) (wc := []) (tc := []) (sz := sz) (X := fun _ => True) (Qc := fun A => va_Qi (fun (r : Int32) (u : Unit) => r = if p0.toInt ≤ 7 then 1 else 0) (KPost (dC, dI) A (fun (u : Unit) => [])) A) (by decide) rfl (Nat.le_of_ble_eq_true rfl) ?_
  intro p e s m below meth c A ls E hr hlocks hnm hsz hAe hX h hl
  have hx := E.1
  have hb := E.2.1
  have hl : lv_has ls 1 [(0, .int p0)] := hl
  refine lv_iload_n hx hb dX8_hasD_0 rfl (lv_at hl 0 rfl) ?_
  refine lv_bipush (v := 7) hx hb dX8_hasD_1 kbi_7 ?_
  refine lv_icmp_gt (tgt := 10) hx hb dX8_hasD_3 rfl (fun c_1 => ?_) (fun c_1 => ?_)
  · skip
    have i_1 : 7 < p0.toInt := (fa_lt _ _).mp c_1
    refine lv_iconst (v := 0) hx hb dX8_hasD_10 kic_0 ?_
    have hP9 := h.2.1.sub [] rfl
    have hD9 := h.2.2.1.sub (ws' := []) [] (by decide) rfl
    exact W.zret (v := 0) hx hb hr (by decide) (fun t ht hW => ⟨⟨0, (), rfl, (by (repeat' split) <;> first | (with_reducible rfl) | (exfalso; omega) | rfl | omega | contradiction), (by rw [ht]; exact hP9), hD9⟩, h.2.2.2.1.F ht⟩) h.2.2.2.1.2.2 dX8_hasD_11 hlocks
  · skip
    have i_1 : ¬ 7 < p0.toInt := fun h9 => c_1 ((fa_lt _ _).mpr h9)
    refine lv_iconst (v := 1) hx hb dX8_hasD_6 kic_1 ?_
    refine lv_goto (tgt := 11) hx hb dX8_hasD_7 rfl ?_
    have hP9 := h.2.1.sub [] rfl
    have hD9 := h.2.2.1.sub (ws' := []) [] (by decide) rfl
    exact W.zret (v := 1) hx hb hr (by decide) (fun t ht hW => ⟨⟨1, (), rfl, (by (repeat' split) <;> first | (with_reducible rfl) | (exfalso; omega) | rfl | omega | contradiction), (by rw [ht]; exact hP9), hD9⟩, h.2.2.2.1.F ht⟩) h.2.2.2.1.2.2 dX8_hasD_11 hlocks
set_option maxHeartbeats 4000000 in
set_option maxRecDepth 100000 in
theorem c_X8_hasY (l : Launch) (dC : Nat → ClassId) (dI : Nat → Nat → Nat) (sz : Nat) (p0 : Int32)  : Met l yX8_hasY wsX8_hasY ({ frames := 0, cells := 0, slots := 0, locals := 0 } : Room) (va_Pc [.int p0] (KPre (dC, dI) [] [] sz (fun _ => True))) (va_Qi (fun (r : Int32) (u : Unit) => r = if 2 ≤ p0.toInt ∧ ¬ p0.toInt = 7 then 1 else 0) (KPost (dC, dI) (va_A [] sz) (fun (u : Unit) => [])) (va_A [] sz)) 0 0 (va_A [] sz) := by
  refine kMet (y := yX8_hasY) (wsM := wsX8_hasY) (cc := cX8_hasY) (maxL := 1) (ret := (some .boolean)) (rm := ({ frames := 0, cells := 0, slots := 0, locals := 0 } : Room)) (mc := 0) (ms := 0) (av := [.int p0]) (D := (dC, dI)) (wc := []) (tc := []) (sz := sz) (X := fun _ => True) (Qc := fun A => va_Qi (fun (r : Int32) (u : Unit) => r = if 2 ≤ p0.toInt ∧ ¬ p0.toInt = 7 then 1 else 0) (KPost (dC, dI) A (fun (u : Unit) => [])) A) (by decide) rfl (Nat.le_of_ble_eq_true rfl) ?_
  intro p e s m below meth c A ls E hr hlocks hnm hsz hAe hX h hl
  have hx := E.1
  have hb := E.2.1
  have hl : lv_has ls 1 [(0, .int p0)] := hl
  refine lv_iload_n hx hb dX8_hasY_0 rfl (lv_at hl 0 rfl) ?_
  refine lv_iconst (v := 2) hx hb dX8_hasY_1 kic_2 ?_
  refine lv_icmp_lt (tgt := 15) hx hb dX8_hasY_2 rfl (fun c_1 => ?_) (fun c_1 => ?_)
  · skip
    have i_1 : p0.toInt < 2 := (fa_lt _ _).mp c_1
    refine lv_iconst (v := 0) hx hb dX8_hasY_15 kic_0 ?_
    have hP9 := h.2.1.sub [] rfl
    have hD9 := h.2.2.1.sub (ws' := []) [] (by decide) rfl
    exact W.zret (v := 0) hx hb hr (by decide) (fun t ht hW => ⟨⟨0, (), rfl, (by (repeat' split) <;> first | (with_reducible rfl) | (exfalso; omega) | rfl | omega | contradiction), (by rw [ht]; exact hP9), hD9⟩, h.2.2.2.1.F ht⟩) h.2.2.2.1.2.2 dX8_hasY_16 hlocks
  · skip
    have i_1 : ¬ p0.toInt < 2 := fun h9 => c_1 ((fa_lt _ _).mpr h9)
    refine lv_iload_n hx hb dX8_hasY_5 rfl (lv_at hl 0 rfl) ?_
    refine lv_bipush (v := 7) hx hb dX8_hasY_6 kbi_7 ?_
    refine lv_icmp_eq (tgt := 15) hx hb dX8_hasY_8 rfl (fun c_2 => ?_) (fun c_2 => ?_)
    · skip
      have i_2 : p0.toInt = 7 := (fa_eq _ _).mp c_2
      refine lv_iconst (v := 0) hx hb dX8_hasY_15 kic_0 ?_
      have hP9 := h.2.1.sub [] rfl
      have hD9 := h.2.2.1.sub (ws' := []) [] (by decide) rfl
      exact W.zret (v := 0) hx hb hr (by decide) (fun t ht hW => ⟨⟨0, (), rfl, (by (repeat' split) <;> first | (with_reducible rfl) | (exfalso; omega) | rfl | omega | contradiction), (by rw [ht]; exact hP9), hD9⟩, h.2.2.2.1.F ht⟩) h.2.2.2.1.2.2 dX8_hasY_16 hlocks
    · skip
      have i_2 : ¬ p0.toInt = 7 := fun h9 => c_2 ((fa_eq _ _).mpr h9)
      refine lv_iconst (v := 1) hx hb dX8_hasY_11 kic_1 ?_
      refine lv_goto (tgt := 16) hx hb dX8_hasY_12 rfl ?_
      have hP9 := h.2.1.sub [] rfl
      have hD9 := h.2.2.1.sub (ws' := []) [] (by decide) rfl
      exact W.zret (v := 1) hx hb hr (by decide) (fun t ht hW => ⟨⟨1, (), rfl, (by (repeat' split) <;> first | (with_reducible rfl) | (exfalso; omega) | rfl | omega | contradiction), (by rw [ht]; exact hP9), hD9⟩, h.2.2.2.1.F ht⟩) h.2.2.2.1.2.2 dX8_hasY_16 hlocks
set_option maxHeartbeats 4000000 in
set_option maxRecDepth 100000 in
theorem c_X7_slot (l : Launch) (dC : Nat → ClassId) (dI : Nat → Nat → Nat) (sz : Nat) (p0 : Int32) (p1 : Int32)  : Met l yX7_slot wsX7_slot ({ frames := 0, cells := 0, slots := 0, locals := 0 } : Room) (va_Pc [.int p0, .int p1] (KPre (dC, dI) [] [] sz (fun _ => True))) (va_Qi (fun (r : Int32) (u : Unit) => r = p0 * 10 + p1) (KPost (dC, dI) (va_A [] sz) (fun (u : Unit) => [])) (va_A [] sz)) 0 0 (va_A [] sz) := by
  refine kMet (y := yX7_slot) (wsM := wsX7_slot) (cc := cX7_slot) (maxL := 2) (ret := (some .int)) (rm := ({ frames := 0, cells := 0, slots := 0, locals := 0 } : Room)) (mc := 0) (ms := 0) (av := [.int p0, .int p1]) (D := (dC, dI)) (wc := []) (tc := []) (sz := sz) (X := fun _ => True) (Qc := fun A => va_Qi (fun (r : Int32) (u : Unit) => r = p0 * 10 + p1) (KPost (dC, dI) A (fun (u : Unit) => [])) A) (by decide) rfl (Nat.le_of_ble_eq_true rfl) ?_
  intro p e s m below meth c A ls E hr hlocks hnm hsz hAe hX h hl
  have hx := E.1
  have hb := E.2.1
  have hl : lv_has ls 2 [(0, .int p0), (1, .int p1)] := hl
  refine lv_iload_n hx hb dX7_slot_0 rfl (lv_at hl 0 rfl) ?_
  refine lv_bipush (v := 10) hx hb dX7_slot_1 kbi_10 ?_
  refine lv_imul hx hb dX7_slot_3 ?_
  refine lv_iload_n hx hb dX7_slot_4 rfl (lv_at hl 1 rfl) ?_
  refine lv_iadd hx hb dX7_slot_5 ?_
  have hP9 := h.2.1.sub [] rfl
  have hD9 := h.2.2.1.sub (ws' := []) [] (by decide) rfl
  exact W.iret (v := (p0 * 10) + p1) hx hb hr (fun t ht hW => ⟨⟨(p0 * 10) + p1, (), rfl, rfl, (by rw [ht]; exact hP9), hD9⟩, h.2.2.2.1.F ht⟩) h.2.2.2.1.2.2 dX7_slot_6 hlocks
set_option maxHeartbeats 4000000 in
set_option maxRecDepth 100000 in
theorem c_X7_refuse (l : Launch) (dC : Nat → ClassId) (dI : Nat → Nat → Nat) (sz : Nat) (o7 : Nat) (o2 : Nat) (o5 : Nat) (o3 : Nat) (o4 : Nat) (o1 : Nat) (o0 : Nat) (a7_6 : Nat) (a7_7 : Nat) (v7_8 : Int32) (v7_9 : Int32) (v7_10 : Int32) (a7_11 : Nat) (v7_12 : Int32) (a7_13 : Nat) (v7_14 : Int32) (a7_15 : Nat) (c7_15 : ClassId) (f7_15 : Nat → Int32) (p0 : Int32) (hp : -8 < p0.toInt ∧ p0.toInt ≤ 0) : Met l yX7_refuse wsX7_refuse ({ frames := 0, cells := 0, slots := 0, locals := 0 } : Room) (va_Pc [.ref o7, .int p0] (KPre (dC, dI) [(o7, .inr (7, [.ref o2, .ref o5, .ref o3, .ref o4, .ref o1, .ref o0, .ref a7_6, .ref a7_7, .int v7_8, .int v7_9, .int v7_10, .ref a7_11, .int v7_12, .ref a7_13, .int v7_14, .ref a7_15])), (a7_15, .inl (c7_15, 8, .inl f7_15))] [(c7_15, .int)] sz (fun _ => True))) (va_Qi (fun (r : Int32) (u : Unit) => r = p0) (KPost (dC, dI) (va_A [(o7, .inr (7, [.ref o2, .ref o5, .ref o3, .ref o4, .ref o1, .ref o0, .ref a7_6, .ref a7_7, .int v7_8, .int v7_9, .int v7_10, .ref a7_11, .int v7_12, .ref a7_13, .int v7_14, .ref a7_15])), (a7_15, .inl (c7_15, 8, .inl f7_15))] sz) (fun (u : Unit) => [(o7, .inr (7, [.ref o2, .ref o5, .ref o3, .ref o4, .ref o1, .ref o0, .ref a7_6, .ref a7_7, .int v7_8, .int v7_9, .int v7_10, .ref a7_11, .int v7_12, .ref a7_13, .int v7_14, .ref a7_15])), (a7_15, .inl (c7_15, 8, .inl (upd f7_15 (-p0).toNatClampNeg (f7_15 (-p0).toNatClampNeg + 1))))])) (va_A [(o7, .inr (7, [.ref o2, .ref o5, .ref o3, .ref o4, .ref o1, .ref o0, .ref a7_6, .ref a7_7, .int v7_8, .int v7_9, .int v7_10, .ref a7_11, .int v7_12, .ref a7_13, .int v7_14, .ref a7_15])), (a7_15, .inl (c7_15, 8, .inl f7_15))] sz)) 0 0 (va_A [(o7, .inr (7, [.ref o2, .ref o5, .ref o3, .ref o4, .ref o1, .ref o0, .ref a7_6, .ref a7_7, .int v7_8, .int v7_9, .int v7_10, .ref a7_11, .int v7_12, .ref a7_13, .int v7_14, .ref a7_15])), (a7_15, .inl (c7_15, 8, .inl f7_15))] sz) := by
  refine kMet (y := yX7_refuse) (wsM := wsX7_refuse) (cc := cX7_refuse) (maxL := 2) (ret := (some .int)) (rm := ({ frames := 0, cells := 0, slots := 0, locals := 0 } : Room)) (mc := 0) (ms := 0) (av := [.ref o7, .int p0]) (D := (dC, dI)) (wc := [(o7, .inr (7, [.ref o2, .ref o5, .ref o3, .ref o4, .ref o1, .ref o0, .ref a7_6, .ref a7_7, .int v7_8, .int v7_9, .int v7_10, .ref a7_11, .int v7_12, .ref a7_13, .int v7_14, .ref a7_15])), (a7_15, .inl (c7_15, 8, .inl f7_15))]) (tc := [(c7_15, .int)]) (sz := sz) (X := fun _ => True) (Qc := fun A => va_Qi (fun (r : Int32) (u : Unit) => r = p0) (KPost (dC, dI) A (fun (u : Unit) => [(o7, .inr (7, [.ref o2, .ref o5, .ref o3, .ref o4, .ref o1, .ref o0, .ref a7_6, .ref a7_7, .int v7_8, .int v7_9, .int v7_10, .ref a7_11, .int v7_12, .ref a7_13, .int v7_14, .ref a7_15])), (a7_15, .inl (c7_15, 8, .inl (upd f7_15 (-p0).toNatClampNeg (f7_15 (-p0).toNatClampNeg + 1))))])) A) (by decide) rfl (Nat.le_of_ble_eq_true rfl) ?_
  intro p e s m below meth c A ls E hr hlocks hnm hsz hAe hX h hl
  have hx := E.1
  have hb := E.2.1
  have hl : lv_has ls 2 [(0, .ref o7), (1, .int p0)] := hl
  refine lv_aload_n hx hb dX7_refuse_0 rfl (lv_at hl 0 rfl) ?_
  refine k_get (v := .ref a7_15) E h (fun w h => List.mem_cons_of_mem _ (List.mem_append_right _ h)) 0 rfl rfl 15 (Nat.le_of_ble_eq_true rfl) (List.mem_of_getElem? (i := 1) rfl) rfl dX7_refuse_1 ?_
  refine lv_iload_n hx hb dX7_refuse_4 rfl (lv_at hl 1 rfl) ?_
  refine lv_ineg hx hb dX7_refuse_5 ?_
  have e_1 : (-p0).toInt = -p0.toInt := by rw [Int32.toInt_neg]; exact fb_bmod (z := -p0.toInt) (by omega) (by omega)
  refine lv_dup2_11 hx hb dX7_refuse_6 rfl rfl ?_
  refine k_iald (v := f7_15 (-p0).toNatClampNeg) E h 1 0 rfl rfl (vp_in_iff.mpr (by omega)) rfl dX7_refuse_7 ?_
  refine lv_iconst (v := 1) hx hb dX7_refuse_8 kic_1 ?_
  refine lv_iadd hx hb dX7_refuse_9 ?_
  refine k_iast (j := (-p0).toNatClampNeg) (ws' := [(o7, .inr (7, [.ref o2, .ref o5, .ref o3, .ref o4, .ref o1, .ref o0, .ref a7_6, .ref a7_7, .int v7_8, .int v7_9, .int v7_10, .ref a7_11, .int v7_12, .ref a7_13, .int v7_14, .ref a7_15])), (a7_15, .inl (c7_15, 8, .inl (upd f7_15 ((-p0).toNatClampNeg) ((f7_15 (-p0).toNatClampNeg) + 1))))]) E h 1 0 rfl rfl (vp_in_iff.mpr (by omega)) rfl rfl dX7_refuse_10 (fun H locs h => ?_)
  refine lv_iload_n hx hb dX7_refuse_11 rfl (lv_at hl 1 rfl) ?_
  have hP9 := h.2.1.sub [0, 1] rfl
  have hD9 := h.2.2.1.sub (ws' := [(o7, .inr (7, [.ref o2, .ref o5, .ref o3, .ref o4, .ref o1, .ref o0, .ref a7_6, .ref a7_7, .int v7_8, .int v7_9, .int v7_10, .ref a7_11, .int v7_12, .ref a7_13, .int v7_14, .ref a7_15])), (a7_15, .inl (c7_15, 8, .inl (upd f7_15 ((-p0).toNatClampNeg) ((f7_15 (-p0).toNatClampNeg) + 1))))]) [0, 1] (by decide) rfl
  exact W.iret (v := p0) hx hb hr (fun t ht hW => ⟨⟨p0, (), rfl, rfl, (by rw [ht]; exact hP9), hD9⟩, h.2.2.2.1.F ht⟩) h.2.2.2.1.2.2 dX7_refuse_12 hlocks
set_option maxHeartbeats 4000000 in
set_option maxRecDepth 100000 in
theorem c_X8_no (l : Launch) (dC : Nat → ClassId) (dI : Nat → Nat → Nat) (sz : Nat) (o8 : Nat) (a8_0 : Nat) (a8_1 : Nat) (a8_2 : Nat) (a8_3 : Nat) (a8_4 : Nat) (a8_5 : Nat) (v8_6 : Int32) (a8_7 : Nat) (a8_8 : Nat) (a8_9 : Nat) (a8_10 : Nat) (a8_11 : Nat) (v8_12 : Int32) (a8_13 : Nat) (a8_14 : Nat) (a8_15 : Nat) (a8_16 : Nat) (a8_17 : Nat) (a8_18 : Nat) (a8_19 : Nat) (a8_20 : Nat) (a8_21 : Nat) (a8_22 : Nat) (a8_23 : Nat) (a8_24 : Nat) (v8_25 : Int32) (v8_26 : Int32) (a8_27 : Nat) (a8_28 : Nat) (a8_29 : Nat) (a8_30 : Nat) (a8_31 : Nat) (v8_32 : Int32) (v8_33 : Int32) (v8_34 : Int32) (v8_35 : Int32) (a8_36 : Nat) (a8_37 : Nat) (v8_38 : Int32) (v8_39 : Int32) (v8_40 : Int32) (a8_41 : Nat) (a8_42 : Nat) (v8_43 : Int32) (c8_13 : ClassId) (f8_13 : Nat → Int32) (p0 : Int32) (hp : -8 < p0.toInt ∧ p0.toInt ≤ 0) : Met l yX8_no wsX8_no ({ frames := 0, cells := 0, slots := 0, locals := 0 } : Room) (va_Pc [.ref o8, .int p0] (KPre (dC, dI) [(o8, .inr (8, [.ref a8_0, .ref a8_1, .ref a8_2, .ref a8_3, .ref a8_4, .ref a8_5, .int v8_6, .ref a8_7, .ref a8_8, .ref a8_9, .ref a8_10, .ref a8_11, .int v8_12, .ref a8_13, .ref a8_14, .ref a8_15, .ref a8_16, .ref a8_17, .ref a8_18, .ref a8_19, .ref a8_20, .ref a8_21, .ref a8_22, .ref a8_23, .ref a8_24, .int v8_25, .int v8_26, .ref a8_27, .ref a8_28, .ref a8_29, .ref a8_30, .ref a8_31, .int v8_32, .int v8_33, .int v8_34, .int v8_35, .ref a8_36, .ref a8_37, .int v8_38, .int v8_39, .int v8_40, .ref a8_41, .ref a8_42, .int v8_43])), (a8_13, .inl (c8_13, 8, .inl f8_13))] [(c8_13, .int)] sz (fun _ => True))) (va_Qi (fun (r : Int32) (u : Unit) => r = p0) (KPost (dC, dI) (va_A [(o8, .inr (8, [.ref a8_0, .ref a8_1, .ref a8_2, .ref a8_3, .ref a8_4, .ref a8_5, .int v8_6, .ref a8_7, .ref a8_8, .ref a8_9, .ref a8_10, .ref a8_11, .int v8_12, .ref a8_13, .ref a8_14, .ref a8_15, .ref a8_16, .ref a8_17, .ref a8_18, .ref a8_19, .ref a8_20, .ref a8_21, .ref a8_22, .ref a8_23, .ref a8_24, .int v8_25, .int v8_26, .ref a8_27, .ref a8_28, .ref a8_29, .ref a8_30, .ref a8_31, .int v8_32, .int v8_33, .int v8_34, .int v8_35, .ref a8_36, .ref a8_37, .int v8_38, .int v8_39, .int v8_40, .ref a8_41, .ref a8_42, .int v8_43])), (a8_13, .inl (c8_13, 8, .inl f8_13))] sz) (fun (u : Unit) => [(o8, .inr (8, [.ref a8_0, .ref a8_1, .ref a8_2, .ref a8_3, .ref a8_4, .ref a8_5, .int v8_6, .ref a8_7, .ref a8_8, .ref a8_9, .ref a8_10, .ref a8_11, .int v8_12, .ref a8_13, .ref a8_14, .ref a8_15, .ref a8_16, .ref a8_17, .ref a8_18, .ref a8_19, .ref a8_20, .ref a8_21, .ref a8_22, .ref a8_23, .ref a8_24, .int v8_25, .int v8_26, .ref a8_27, .ref a8_28, .ref a8_29, .ref a8_30, .ref a8_31, .int v8_32, .int v8_33, .int v8_34, .int v8_35, .ref a8_36, .ref a8_37, .int v8_38, .int v8_39, .int v8_40, .ref a8_41, .ref a8_42, .int v8_43])), (a8_13, .inl (c8_13, 8, .inl (upd f8_13 (-p0).toNatClampNeg (f8_13 (-p0).toNatClampNeg + 1))))])) (va_A [(o8, .inr (8, [.ref a8_0, .ref a8_1, .ref a8_2, .ref a8_3, .ref a8_4, .ref a8_5, .int v8_6, .ref a8_7, .ref a8_8, .ref a8_9, .ref a8_10, .ref a8_11, .int v8_12, .ref a8_13, .ref a8_14, .ref a8_15, .ref a8_16, .ref a8_17, .ref a8_18, .ref a8_19, .ref a8_20, .ref a8_21, .ref a8_22, .ref a8_23, .ref a8_24, .int v8_25, .int v8_26, .ref a8_27, .ref a8_28, .ref a8_29, .ref a8_30, .ref a8_31, .int v8_32, .int v8_33, .int v8_34, .int v8_35, .ref a8_36, .ref a8_37, .int v8_38, .int v8_39, .int v8_40, .ref a8_41, .ref a8_42, .int v8_43])), (a8_13, .inl (c8_13, 8, .inl f8_13))] sz)) 0 0 (va_A [(o8, .inr (8, [.ref a8_0, .ref a8_1, .ref a8_2, .ref a8_3, .ref a8_4, .ref a8_5, .int v8_6, .ref a8_7, .ref a8_8, .ref a8_9, .ref a8_10, .ref a8_11, .int v8_12, .ref a8_13, .ref a8_14, .ref a8_15, .ref a8_16, .ref a8_17, .ref a8_18, .ref a8_19, .ref a8_20, .ref a8_21, .ref a8_22, .ref a8_23, .ref a8_24, .int v8_25, .int v8_26, .ref a8_27, .ref a8_28, .ref a8_29, .ref a8_30, .ref a8_31, .int v8_32, .int v8_33, .int v8_34, .int v8_35, .ref a8_36, .ref a8_37, .int v8_38, .int v8_39, .int v8_40, .ref a8_41, .ref a8_42, .int v8_43])), (a8_13, .inl (c8_13, 8, .inl f8_13))] sz) := by
  refine kMet (y := yX8_no) (wsM := wsX8_no) (cc := cX8_no) (maxL := 2) (ret := (some .int)) (rm := ({ frames := 0, cells := 0, slots := 0, locals := 0 } : Room)) (mc := 0) (ms := 0) (av := [.ref o8, .int p0]) (D := (dC, dI)) (wc := [(o8, .inr (8, [.ref a8_0, .ref a8_1, .ref a8_2, .ref a8_3, .ref a8_4, .ref a8_5, .int v8_6, .ref a8_7, .ref a8_8, .ref a8_9, .ref a8_10, .ref a8_11, .int v8_12, .ref a8_13, .ref a8_14, .ref a8_15, .ref a8_16, .ref a8_17, .ref a8_18, .ref a8_19, .ref a8_20, .ref a8_21, .ref a8_22, .ref a8_23, .ref a8_24, .int v8_25, .int v8_26, .ref a8_27, .ref a8_28, .ref a8_29, .ref a8_30, .ref a8_31, .int v8_32, .int v8_33, .int v8_34, .int v8_35, .ref a8_36, .ref a8_37, .int v8_38, .int v8_39, .int v8_40, .ref a8_41, .ref a8_42, .int v8_43])), (a8_13, .inl (c8_13, 8, .inl f8_13))]) (tc := [(c8_13, .int)]) (sz := sz) (X := fun _ => True) (Qc := fun A => va_Qi (fun (r : Int32) (u : Unit) => r = p0) (KPost (dC, dI) A (fun (u : Unit) => [(o8, .inr (8, [.ref a8_0, .ref a8_1, .ref a8_2, .ref a8_3, .ref a8_4, .ref a8_5, .int v8_6, .ref a8_7, .ref a8_8, .ref a8_9, .ref a8_10, .ref a8_11, .int v8_12, .ref a8_13, .ref a8_14, .ref a8_15, .ref a8_16, .ref a8_17, .ref a8_18, .ref a8_19, .ref a8_20, .ref a8_21, .ref a8_22, .ref a8_23, .ref a8_24, .int v8_25, .int v8_26, .ref a8_27, .ref a8_28, .ref a8_29, .ref a8_30, .ref a8_31, .int v8_32, .int v8_33, .int v8_34, .int v8_35, .ref a8_36, .ref a8_37, .int v8_38, .int v8_39, .int v8_40, .ref a8_41, .ref a8_42, .int v8_43])), (a8_13, .inl (c8_13, 8, .inl (upd f8_13 (-p0).toNatClampNeg (f8_13 (-p0).toNatClampNeg + 1))))])) A) (by decide) rfl (Nat.le_of_ble_eq_true rfl) ?_
  intro p e s m below meth c A ls E hr hlocks hnm hsz hAe hX h hl
  have hx := E.1
  have hb := E.2.1
  have hl : lv_has ls 2 [(0, .ref o8), (1, .int p0)] := hl
  refine lv_aload_n hx hb dX8_no_0 rfl (lv_at hl 0 rfl) ?_
  refine k_get (v := .ref a8_13) E h (fun w h => List.mem_cons_of_mem _ (List.mem_append_right _ h)) 0 rfl rfl 13 (Nat.le_of_ble_eq_true rfl) (List.mem_of_getElem? (i := 1) rfl) rfl dX8_no_1 ?_
  refine lv_iload_n hx hb dX8_no_4 rfl (lv_at hl 1 rfl) ?_
  refine lv_ineg hx hb dX8_no_5 ?_
  have e_1 : (-p0).toInt = -p0.toInt := by rw [Int32.toInt_neg]; exact fb_bmod (z := -p0.toInt) (by omega) (by omega)
  refine lv_dup2_11 hx hb dX8_no_6 rfl rfl ?_
  refine k_iald (v := f8_13 (-p0).toNatClampNeg) E h 1 0 rfl rfl (vp_in_iff.mpr (by omega)) rfl dX8_no_7 ?_
  refine lv_iconst (v := 1) hx hb dX8_no_8 kic_1 ?_
  refine lv_iadd hx hb dX8_no_9 ?_
  refine k_iast (j := (-p0).toNatClampNeg) (ws' := [(o8, .inr (8, [.ref a8_0, .ref a8_1, .ref a8_2, .ref a8_3, .ref a8_4, .ref a8_5, .int v8_6, .ref a8_7, .ref a8_8, .ref a8_9, .ref a8_10, .ref a8_11, .int v8_12, .ref a8_13, .ref a8_14, .ref a8_15, .ref a8_16, .ref a8_17, .ref a8_18, .ref a8_19, .ref a8_20, .ref a8_21, .ref a8_22, .ref a8_23, .ref a8_24, .int v8_25, .int v8_26, .ref a8_27, .ref a8_28, .ref a8_29, .ref a8_30, .ref a8_31, .int v8_32, .int v8_33, .int v8_34, .int v8_35, .ref a8_36, .ref a8_37, .int v8_38, .int v8_39, .int v8_40, .ref a8_41, .ref a8_42, .int v8_43])), (a8_13, .inl (c8_13, 8, .inl (upd f8_13 ((-p0).toNatClampNeg) ((f8_13 (-p0).toNatClampNeg) + 1))))]) E h 1 0 rfl rfl (vp_in_iff.mpr (by omega)) rfl rfl dX8_no_10 (fun H locs h => ?_)
  refine lv_iload_n hx hb dX8_no_11 rfl (lv_at hl 1 rfl) ?_
  have hP9 := h.2.1.sub [0, 1] rfl
  have hD9 := h.2.2.1.sub (ws' := [(o8, .inr (8, [.ref a8_0, .ref a8_1, .ref a8_2, .ref a8_3, .ref a8_4, .ref a8_5, .int v8_6, .ref a8_7, .ref a8_8, .ref a8_9, .ref a8_10, .ref a8_11, .int v8_12, .ref a8_13, .ref a8_14, .ref a8_15, .ref a8_16, .ref a8_17, .ref a8_18, .ref a8_19, .ref a8_20, .ref a8_21, .ref a8_22, .ref a8_23, .ref a8_24, .int v8_25, .int v8_26, .ref a8_27, .ref a8_28, .ref a8_29, .ref a8_30, .ref a8_31, .int v8_32, .int v8_33, .int v8_34, .int v8_35, .ref a8_36, .ref a8_37, .int v8_38, .int v8_39, .int v8_40, .ref a8_41, .ref a8_42, .int v8_43])), (a8_13, .inl (c8_13, 8, .inl (upd f8_13 ((-p0).toNatClampNeg) ((f8_13 (-p0).toNatClampNeg) + 1))))]) [0, 1] (by decide) rfl
  exact W.iret (v := p0) hx hb hr (fun t ht hW => ⟨⟨p0, (), rfl, rfl, (by rw [ht]; exact hP9), hD9⟩, h.2.2.2.1.F ht⟩) h.2.2.2.1.2.2 dX8_no_12 hlocks
set_option maxHeartbeats 4000000 in
set_option maxRecDepth 100000 in
theorem c_X2_cutFor (l : Launch) (dC : Nat → ClassId) (dI : Nat → Nat → Nat) (sz : Nat) (o2 : Nat) (a2_0 : Nat) (a2_1 : Nat) (a2_2 : Nat) (a2_3 : Nat) (v2_4 : Int32) (c2_0 : ClassId) (f2_0 : Nat → Int32) (p0 : Int32) (p1 : Int64) (hp : 0 ≤ p0.toInt ∧ p0.toInt < 74) : Met l yX2_cutFor wsX2_cutFor ({ frames := 0, cells := 0, slots := 0, locals := 0 } : Room) (va_Pc [.ref o2, .int p0, .long p1] (KPre (dC, dI) [(o2, .inr (2, [.ref a2_0, .ref a2_1, .ref a2_2, .ref a2_3, .int v2_4])), (a2_0, .inl (c2_0, 8, .inl f2_0))] [(c2_0, .int)] sz (fun _ => True))) (va_Ql (fun (r : Int64) (u : Unit) => r = kput f2_0 p0 p1) (KPost (dC, dI) (va_A [(o2, .inr (2, [.ref a2_0, .ref a2_1, .ref a2_2, .ref a2_3, .int v2_4])), (a2_0, .inl (c2_0, 8, .inl f2_0))] sz) (fun (u : Unit) => [(o2, .inr (2, [.ref a2_0, .ref a2_1, .ref a2_2, .ref a2_3, .int v2_4])), (a2_0, .inl (c2_0, 8, .inl f2_0))])) (va_A [(o2, .inr (2, [.ref a2_0, .ref a2_1, .ref a2_2, .ref a2_3, .int v2_4])), (a2_0, .inl (c2_0, 8, .inl f2_0))] sz)) 0 0 (va_A [(o2, .inr (2, [.ref a2_0, .ref a2_1, .ref a2_2, .ref a2_3, .int v2_4])), (a2_0, .inl (c2_0, 8, .inl f2_0))] sz) := by
  refine kMet (y := yX2_cutFor) (wsM := wsX2_cutFor) (cc := cX2_cutFor) (maxL := 5) (ret := (some .long)) (rm := ({ frames := 0, cells := 0, slots := 0, locals := 0 } : Room)) (mc := 0) (ms := 0) (av := [.ref o2, .int p0, .long p1]) (D := (dC, dI)) (wc := [(o2, .inr (2, [.ref a2_0, .ref a2_1, .ref a2_2, .ref a2_3, .int v2_4])), (a2_0, .inl (c2_0, 8, .inl f2_0))]) (tc := [(c2_0, .int)]) (sz := sz) (X := fun _ => True) (Qc := fun A => va_Ql (fun (r : Int64) (u : Unit) => r = kput f2_0 p0 p1) (KPost (dC, dI) A (fun (u : Unit) => [(o2, .inr (2, [.ref a2_0, .ref a2_1, .ref a2_2, .ref a2_3, .int v2_4])), (a2_0, .inl (c2_0, 8, .inl f2_0))])) A) (by decide) rfl (Nat.le_of_ble_eq_true rfl) ?_
  intro p e s m below meth c A ls E hr hlocks hnm hsz hAe hX h hl
  have hx := E.1
  have hb := E.2.1
  have hl : lv_has ls 5 [(0, .ref o2), (1, .int p0), (2, .long p1)] := hl
  refine lv_iload_n hx hb dX2_cutFor_0 rfl (lv_at hl 1 rfl) ?_
  refine lv_bipush (v := 8) hx hb dX2_cutFor_1 kbi_8 ?_
  refine lv_icmp_ge (tgt := 15) hx hb dX2_cutFor_3 rfl (fun c_1 => ?_) (fun c_1 => ?_)
  · skip
    have i_1 : 8 ≤ p0.toInt := (fa_le _ _).mp c_1
    refine lv_bipush (v := 32) hx hb dX2_cutFor_15 kbi_32 ?_
    refine lv_istore (lv' := [(4, .int 32), (0, .ref o2), (1, .int p0), (2, .long p1)]) hx hb dX2_cutFor_17 hl (Nat.le_of_ble_eq_true rfl) rfl (fun ls hl => ?_)
    refine lv_lload_n hx hb dX2_cutFor_19 rfl (lv_at hl 3 rfl) ?_
    refine lv_lconst (v := 1) hx hb dX2_cutFor_20 (by decide) ?_
    refine lv_iload hx hb dX2_cutFor_21 (lv_at hl 0 rfl) ?_
    refine lv_lshl (v := 4294967296) hx hb dX2_cutFor_23 (by decide) ?_
    refine lv_lconst (v := 1) hx hb dX2_cutFor_24 (by decide) ?_
    refine lv_lsub hx hb dX2_cutFor_25 ?_
    refine k_topl (y := 4294967295) (by decide) ?_
    refine lv_land hx hb dX2_cutFor_26 ?_
    have hP9 := h.2.1.sub [0, 1] rfl
    have hD9 := h.2.2.1.sub (ws' := [(o2, .inr (2, [.ref a2_0, .ref a2_1, .ref a2_2, .ref a2_3, .int v2_4])), (a2_0, .inl (c2_0, 8, .inl f2_0))]) [0, 1] (by decide) rfl
    exact W.lret (v := p1 &&& 4294967295) hx hb hr (fun t ht hW => ⟨⟨p1 &&& 4294967295, (), rfl, (by unfold kput; split <;> first | rfl | omega), (by rw [ht]; exact hP9), hD9⟩, h.2.2.2.1.F ht⟩) h.2.2.2.1.2.2 dX2_cutFor_27 hlocks
  · skip
    have i_1 : ¬ 8 ≤ p0.toInt := fun h9 => c_1 ((fa_le _ _).mpr h9)
    refine lv_aload_n hx hb dX2_cutFor_6 rfl (lv_at hl 0 rfl) ?_
    refine k_get (v := .ref a2_0) E h (fun w h => List.mem_cons_of_mem _ (List.mem_append_right _ h)) 0 rfl rfl 0 (Nat.le_of_ble_eq_true rfl) (List.mem_of_getElem? (i := 1) rfl) rfl dX2_cutFor_7 ?_
    refine lv_iload_n hx hb dX2_cutFor_10 rfl (lv_at hl 1 rfl) ?_
    refine k_iald (v := f2_0 p0.toNatClampNeg) E h 1 0 rfl rfl (vp_in_iff.mpr (by omega)) rfl dX2_cutFor_11 ?_
    refine lv_goto (tgt := 17) hx hb dX2_cutFor_12 rfl ?_
    refine lv_istore (lv' := [(4, .int (f2_0 p0.toNatClampNeg)), (0, .ref o2), (1, .int p0), (2, .long p1)]) hx hb dX2_cutFor_17 hl (Nat.le_of_ble_eq_true rfl) rfl (fun ls hl => ?_)
    refine lv_lload_n hx hb dX2_cutFor_19 rfl (lv_at hl 3 rfl) ?_
    refine lv_lconst (v := 1) hx hb dX2_cutFor_20 (by decide) ?_
    refine lv_iload hx hb dX2_cutFor_21 (lv_at hl 0 rfl) ?_
    refine lv_lshl (v := 1 <<< ((f2_0 p0.toNatClampNeg).toInt64 &&& 63)) hx hb dX2_cutFor_23 rfl ?_
    refine lv_lconst (v := 1) hx hb dX2_cutFor_24 (by decide) ?_
    refine lv_lsub hx hb dX2_cutFor_25 ?_
    refine lv_land hx hb dX2_cutFor_26 ?_
    have hP9 := h.2.1.sub [0, 1] rfl
    have hD9 := h.2.2.1.sub (ws' := [(o2, .inr (2, [.ref a2_0, .ref a2_1, .ref a2_2, .ref a2_3, .int v2_4])), (a2_0, .inl (c2_0, 8, .inl f2_0))]) [0, 1] (by decide) rfl
    exact W.lret (v := p1 &&& ((1 <<< ((f2_0 p0.toNatClampNeg).toInt64 &&& 63)) - 1)) hx hb hr (fun t ht hW => ⟨⟨p1 &&& ((1 <<< ((f2_0 p0.toNatClampNeg).toInt64 &&& 63)) - 1), (), rfl, (by unfold kput; split <;> first | rfl | omega), (by rw [ht]; exact hP9), hD9⟩, h.2.2.2.1.F ht⟩) h.2.2.2.1.2.2 dX2_cutFor_27 hlocks
set_option maxHeartbeats 4000000 in
set_option maxRecDepth 100000 in
theorem c_X2_put (l : Launch) (dC : Nat → ClassId) (dI : Nat → Nat → Nat) (sz : Nat) (o2 : Nat) (a2_0 : Nat) (a2_1 : Nat) (a2_2 : Nat) (a2_3 : Nat) (v2_4 : Int32) (c2_0 : ClassId) (f2_0 : Nat → Int32) (c2_1 : ClassId) (f2_1 : Nat → Int64) (p0 : Int32) (p1 : Int64) (hp : 0 ≤ p0.toInt ∧ p0.toInt < 74) : Met l yX2_put wsX2_put ({ frames := 1, cells := 0, slots := 0, locals := 24 } : Room) (va_Pc [.ref o2, .int p0, .long p1] (KPre (dC, dI) [(o2, .inr (2, [.ref a2_0, .ref a2_1, .ref a2_2, .ref a2_3, .int v2_4])), (a2_0, .inl (c2_0, 8, .inl f2_0)), (a2_1, .inl (c2_1, 74, .inr (.inl f2_1)))] [(c2_0, .int), (c2_1, .long)] sz (fun _ => True))) (va_Qi (fun (r : Int32) (u : Unit) => r = if kput f2_0 p0 p1 = f2_1 p0.toNatClampNeg then 0 else 1) (KPost (dC, dI) (va_A [(o2, .inr (2, [.ref a2_0, .ref a2_1, .ref a2_2, .ref a2_3, .int v2_4])), (a2_0, .inl (c2_0, 8, .inl f2_0)), (a2_1, .inl (c2_1, 74, .inr (.inl f2_1)))] sz) (fun (u : Unit) => [(o2, .inr (2, [.ref a2_0, .ref a2_1, .ref a2_2, .ref a2_3, .int v2_4])), (a2_0, .inl (c2_0, 8, .inl f2_0)), (a2_1, .inl (c2_1, 74, .inr (.inl (gput f2_0 f2_1 p0 p1))))])) (va_A [(o2, .inr (2, [.ref a2_0, .ref a2_1, .ref a2_2, .ref a2_3, .int v2_4])), (a2_0, .inl (c2_0, 8, .inl f2_0)), (a2_1, .inl (c2_1, 74, .inr (.inl f2_1)))] sz)) 0 0 (va_A [(o2, .inr (2, [.ref a2_0, .ref a2_1, .ref a2_2, .ref a2_3, .int v2_4])), (a2_0, .inl (c2_0, 8, .inl f2_0)), (a2_1, .inl (c2_1, 74, .inr (.inl f2_1)))] sz) := by
  refine kMet (y := yX2_put) (wsM := wsX2_put) (cc := cX2_put) (maxL := 6) (ret := (some .int)) (rm := ({ frames := 1, cells := 0, slots := 0, locals := 24 } : Room)) (mc := 0) (ms := 0) (av := [.ref o2, .int p0, .long p1]) (D := (dC, dI)) (wc := [(o2, .inr (2, [.ref a2_0, .ref a2_1, .ref a2_2, .ref a2_3, .int v2_4])), (a2_0, .inl (c2_0, 8, .inl f2_0)), (a2_1, .inl (c2_1, 74, .inr (.inl f2_1)))]) (tc := [(c2_0, .int), (c2_1, .long)]) (sz := sz) (X := fun _ => True) (Qc := fun A => va_Qi (fun (r : Int32) (u : Unit) => r = if kput f2_0 p0 p1 = f2_1 p0.toNatClampNeg then 0 else 1) (KPost (dC, dI) A (fun (u : Unit) => [(o2, .inr (2, [.ref a2_0, .ref a2_1, .ref a2_2, .ref a2_3, .int v2_4])), (a2_0, .inl (c2_0, 8, .inl f2_0)), (a2_1, .inl (c2_1, 74, .inr (.inl (gput f2_0 f2_1 p0 p1))))])) A) (by decide) rfl (Nat.le_of_ble_eq_true rfl) ?_
  intro p e s m below meth c A ls E hr hlocks hnm hsz hAe hX h hl
  have hx := E.1
  have hb := E.2.1
  have hl : lv_has ls 6 [(0, .ref o2), (1, .int p0), (2, .long p1)] := hl
  refine lv_aload_n hx hb dX2_put_0 rfl (lv_at hl 0 rfl) ?_
  refine k_get (v := .ref a2_1) E h (fun w h => List.mem_cons_of_mem _ (List.mem_append_right _ h)) 0 rfl rfl 1 (Nat.le_of_ble_eq_true rfl) (List.mem_of_getElem? (i := 1) rfl) rfl dX2_put_1 ?_
  refine lv_iload_n hx hb dX2_put_4 rfl (lv_at hl 1 rfl) ?_
  refine k_lald (v := f2_1 p0.toNatClampNeg) E h 2 1 rfl rfl (vp_in_iff.mpr (by omega)) rfl dX2_put_5 ?_
  refine lv_lstore (lv' := [(4, .long (f2_1 p0.toNatClampNeg)), (0, .ref o2), (1, .int p0), (2, .long p1)]) hx hb dX2_put_6 hl (by decide) rfl (fun ls hl => ?_)
  refine lv_aload_n hx hb dX2_put_8 rfl (lv_at hl 1 rfl) ?_
  refine k_get (v := .ref a2_1) E h (fun w h => List.mem_cons_of_mem _ (List.mem_append_right _ h)) 0 rfl rfl 1 (Nat.le_of_ble_eq_true rfl) (List.mem_of_getElem? (i := 1) rfl) rfl dX2_put_9 ?_
  refine lv_iload_n hx hb dX2_put_12 rfl (lv_at hl 2 rfl) ?_
  refine lv_aload_n hx hb dX2_put_13 rfl (lv_at hl 1 rfl) ?_
  refine lv_iload_n hx hb dX2_put_14 rfl (lv_at hl 2 rfl) ?_
  refine lv_lload_n hx hb dX2_put_15 rfl (lv_at hl 3 rfl) ?_
  refine W.eq (g2 := F0 m 16 ls [.long p1, .int p0, .ref o2, .int p0, .ref a2_1]) rfl ?_
  refine kc_l (wc := [(o2, .inr (2, [.ref a2_0, .ref a2_1, .ref a2_2, .ref a2_3, .int v2_4])), (a2_0, .inl (c2_0, 8, .inl f2_0))]) (wr := [(a2_1, .inl (c2_1, 74, .inr (.inl f2_1)))]) h (va_runV (As := [.int p0, .long p1]) (rest := [.int p0, .ref a2_1]) E (c_X2_cutFor l dC dI _ (o2 := o2) (a2_0 := a2_0) (a2_1 := a2_1) (a2_2 := a2_2) (a2_3 := a2_3) (v2_4 := v2_4) (c2_0 := c2_0) (f2_0 := f2_0) (p0 := p0) (p1 := p1)  (hp := (by first | decide | omega))) (cwV 2 E.2.2.2.2 gX2_put_X2_cutFor rfl rfl rfl hdV_X2_cutFor ⟨Nat.le_of_ble_eq_true rfl, Nat.le_of_ble_eq_true rfl⟩) (kPreV (q0 := 0) (ci := 2) (q := (RX2, TX2, 5)) h KX_true (fun _ _ _ => trivial) [0, 1] [0] (by decide) rfl rfl rfl rfl) rfl rfl hl.1 rfl (lv_room (Nat.le_of_ble_eq_true rfl)) dX2_put_16 ⟨Nat.le_of_ble_eq_true rfl, Nat.le_of_ble_eq_true rfl⟩) [0, 1] [2] rfl rfl (by decide) (by decide) (fun r_1 u_1 H locs hw_1 h => ?_)
  have h : KS (dC, dI) A [(a2_1, .inl (c2_1, 74, .inr (.inl f2_1))), (o2, .inr (2, [.ref a2_0, .ref a2_1, .ref a2_2, .ref a2_3, .int v2_4])), (a2_0, .inl (c2_0, 8, .inl f2_0))] [(c2_0, .int), (c2_1, .long)] s H locs := h
  have hw_1 : r_1 = kput f2_0 p0 p1 := by first | exact hw_1 | (simp only [Int32.toInt_toInt64] at hw_1; exact hw_1)
  refine k_topl (y := kput f2_0 p0 p1) (hw_1) ?_
  refine W.eq (g2 := F0 m 19 ls [.long (kput f2_0 p0 p1), .int p0, .ref a2_1]) rfl ?_
  refine k_last (j := p0.toNatClampNeg) (ws' := [(a2_1, .inl (c2_1, 74, .inr (.inl (vp_updL f2_1 p0.toNatClampNeg (kput f2_0 p0 p1))))), (o2, .inr (2, [.ref a2_0, .ref a2_1, .ref a2_2, .ref a2_3, .int v2_4])), (a2_0, .inl (c2_0, 8, .inl f2_0))]) E h 0 1 rfl rfl (vp_in_iff.mpr (by omega)) rfl rfl dX2_put_19 (fun H locs h => ?_)
  refine lv_aload_n hx hb dX2_put_20 rfl (lv_at hl 1 rfl) ?_
  refine k_get (v := .ref a2_1) E h (fun w h => List.mem_cons_of_mem _ (List.mem_append_right _ h)) 1 rfl rfl 1 (Nat.le_of_ble_eq_true rfl) (List.mem_of_getElem? (i := 1) rfl) rfl dX2_put_21 ?_
  refine lv_iload_n hx hb dX2_put_24 rfl (lv_at hl 2 rfl) ?_
  refine k_lald (v := kput f2_0 p0 p1) E h 0 1 rfl rfl (vp_in_iff.mpr (by omega)) pk_uLs dX2_put_25 ?_
  refine lv_lload hx hb dX2_put_26 (lv_at hl 0 rfl) ?_
  refine W.lcmp hx hb dX2_put_28 ?_
  refine lv_if_ne (tgt := 36) hx hb dX2_put_29 rfl (fun c_2 => ?_) (fun c_2 => ?_)
  · skip
    have i_2 : ¬ (kput f2_0 p0 p1).toInt = (f2_1 p0.toNatClampNeg).toInt := by have z := keq_n c_2; first | exact z | (simp only [Int32.toInt_toInt64] at z; exact z)
    have j_2 := keq64_n c_2
    refine lv_iconst (v := 1) hx hb dX2_put_36 kic_1 ?_
    have hP9 := h.2.1.sub [1, 2, 0] rfl
    have hD9 := h.2.2.1.sub (ws' := [(o2, .inr (2, [.ref a2_0, .ref a2_1, .ref a2_2, .ref a2_3, .int v2_4])), (a2_0, .inl (c2_0, 8, .inl f2_0)), (a2_1, .inl (c2_1, 74, .inr (.inl (vp_updL f2_1 p0.toNatClampNeg (kput f2_0 p0 p1)))))]) [1, 2, 0] (by decide) rfl
    exact W.iret (v := 1) hx hb hr (fun t ht hW => ⟨⟨1, (), rfl, (by (repeat' split) <;> first | (with_reducible rfl) | (exfalso; omega) | rfl | omega | contradiction), (by rw [ht]; exact hP9), hD9⟩, h.2.2.2.1.F ht⟩) h.2.2.2.1.2.2 dX2_put_37 hlocks
  · skip
    have i_2 : (kput f2_0 p0 p1).toInt = (f2_1 p0.toNatClampNeg).toInt := by have z := keq_p c_2; first | exact z | (simp only [Int32.toInt_toInt64] at z; exact z)
    have j_2 := keq64_p c_2
    refine lv_iconst (v := 0) hx hb dX2_put_32 kic_0 ?_
    refine lv_goto (tgt := 37) hx hb dX2_put_33 rfl ?_
    have hP9 := h.2.1.sub [1, 2, 0] rfl
    have hD9 := h.2.2.1.sub (ws' := [(o2, .inr (2, [.ref a2_0, .ref a2_1, .ref a2_2, .ref a2_3, .int v2_4])), (a2_0, .inl (c2_0, 8, .inl f2_0)), (a2_1, .inl (c2_1, 74, .inr (.inl (vp_updL f2_1 p0.toNatClampNeg (kput f2_0 p0 p1)))))]) [1, 2, 0] (by decide) rfl
    exact W.iret (v := 0) hx hb hr (fun t ht hW => ⟨⟨0, (), rfl, (by (repeat' split) <;> first | (with_reducible rfl) | (exfalso; omega) | rfl | omega | contradiction), (by rw [ht]; exact hP9), hD9⟩, h.2.2.2.1.F ht⟩) h.2.2.2.1.2.2 dX2_put_37 hlocks
set_option maxHeartbeats 4000000 in
set_option maxRecDepth 100000 in
theorem c_X2_forgetOlds (l : Launch) (dC : Nat → ClassId) (dI : Nat → Nat → Nat) (sz : Nat) (o2 : Nat) (a2_0 : Nat) (a2_1 : Nat) (a2_2 : Nat) (a2_3 : Nat) (v2_4 : Int32)  : Met l yX2_forgetOlds wsX2_forgetOlds ({ frames := 0, cells := 0, slots := 0, locals := 0 } : Room) (va_Pc [.ref o2] (KPre (dC, dI) [(o2, .inr (2, [.ref a2_0, .ref a2_1, .ref a2_2, .ref a2_3, .int v2_4]))] [] sz (fun _ => True))) (va_Qv (fun (u : Unit) => True) (KPost (dC, dI) (va_A [(o2, .inr (2, [.ref a2_0, .ref a2_1, .ref a2_2, .ref a2_3, .int v2_4]))] sz) (fun (u : Unit) => [(o2, .inr (2, [.ref a2_0, .ref a2_1, .ref a2_2, .ref a2_3, .int 0]))])) (va_A [(o2, .inr (2, [.ref a2_0, .ref a2_1, .ref a2_2, .ref a2_3, .int v2_4]))] sz)) 0 0 (va_A [(o2, .inr (2, [.ref a2_0, .ref a2_1, .ref a2_2, .ref a2_3, .int v2_4]))] sz) := by
  refine kMet (y := yX2_forgetOlds) (wsM := wsX2_forgetOlds) (cc := cX2_forgetOlds) (maxL := 1) (ret := none) (rm := ({ frames := 0, cells := 0, slots := 0, locals := 0 } : Room)) (mc := 0) (ms := 0) (av := [.ref o2]) (D := (dC, dI)) (wc := [(o2, .inr (2, [.ref a2_0, .ref a2_1, .ref a2_2, .ref a2_3, .int v2_4]))]) (tc := []) (sz := sz) (X := fun _ => True) (Qc := fun A => va_Qv (fun (u : Unit) => True) (KPost (dC, dI) A (fun (u : Unit) => [(o2, .inr (2, [.ref a2_0, .ref a2_1, .ref a2_2, .ref a2_3, .int 0]))])) A) (by decide) rfl (Nat.le_of_ble_eq_true rfl) ?_
  intro p e s m below meth c A ls E hr hlocks hnm hsz hAe hX h hl
  have hx := E.1
  have hb := E.2.1
  have hl : lv_has ls 1 [(0, .ref o2)] := hl
  refine lv_aload_n hx hb dX2_forgetOlds_0 rfl (lv_at hl 0 rfl) ?_
  refine lv_iconst (v := 0) hx hb dX2_forgetOlds_1 kic_0 ?_
  refine k_put (v := .int 0) (ty := .int) (ws' := [(o2, .inr (2, [.ref a2_0, .ref a2_1, .ref a2_2, .ref a2_3, .int 0]))]) E h (fun w h => List.mem_cons_of_mem _ (List.mem_append_right _ h)) tyX2_ok nmX2 0 rfl rfl 4 (by decide) (List.mem_of_getElem? (i := 1) rfl) rfl (by decide +kernel) rfl rfl (Nat.le_of_ble_eq_true rfl) rfl dX2_forgetOlds_2 (fun H locs h => ?_)
  have hP9 := h.2.1.sub [0] rfl
  have hD9 := h.2.2.1.sub (ws' := [(o2, .inr (2, [.ref a2_0, .ref a2_1, .ref a2_2, .ref a2_3, .int 0]))]) [0] (by decide) rfl
  exact W.vret hx hb hr (fun t ht hW => ⟨⟨(), rfl, trivial, (by rw [ht]; exact hP9), hD9⟩, h.2.2.2.1.F ht⟩) h.2.2.2.1.2.2 dX2_forgetOlds_5 hlocks
set_option maxHeartbeats 4000000 in
set_option maxRecDepth 100000 in
theorem c_X8_cut (l : Launch) (dC : Nat → ClassId) (dI : Nat → Nat → Nat) (sz : Nat) (o8 : Nat) (a8_0 : Nat) (a8_1 : Nat) (a8_2 : Nat) (a8_3 : Nat) (a8_4 : Nat) (a8_5 : Nat) (v8_6 : Int32) (a8_7 : Nat) (a8_8 : Nat) (a8_9 : Nat) (a8_10 : Nat) (a8_11 : Nat) (v8_12 : Int32) (a8_13 : Nat) (a8_14 : Nat) (a8_15 : Nat) (a8_16 : Nat) (a8_17 : Nat) (a8_18 : Nat) (a8_19 : Nat) (a8_20 : Nat) (a8_21 : Nat) (a8_22 : Nat) (a8_23 : Nat) (a8_24 : Nat) (v8_25 : Int32) (v8_26 : Int32) (a8_27 : Nat) (a8_28 : Nat) (a8_29 : Nat) (a8_30 : Nat) (a8_31 : Nat) (v8_32 : Int32) (v8_33 : Int32) (v8_34 : Int32) (v8_35 : Int32) (a8_36 : Nat) (a8_37 : Nat) (v8_38 : Int32) (v8_39 : Int32) (v8_40 : Int32) (a8_41 : Nat) (a8_42 : Nat) (v8_43 : Int32) (c8_5 : ClassId) (f8_5 : Nat → Int32) (p0 : Int32) (p1 : Int64) (hp : 0 ≤ p0.toInt ∧ p0.toInt < 8) : Met l yX8_cut wsX8_cut ({ frames := 0, cells := 0, slots := 0, locals := 0 } : Room) (va_Pc [.ref o8, .int p0, .long p1] (KPre (dC, dI) [(o8, .inr (8, [.ref a8_0, .ref a8_1, .ref a8_2, .ref a8_3, .ref a8_4, .ref a8_5, .int v8_6, .ref a8_7, .ref a8_8, .ref a8_9, .ref a8_10, .ref a8_11, .int v8_12, .ref a8_13, .ref a8_14, .ref a8_15, .ref a8_16, .ref a8_17, .ref a8_18, .ref a8_19, .ref a8_20, .ref a8_21, .ref a8_22, .ref a8_23, .ref a8_24, .int v8_25, .int v8_26, .ref a8_27, .ref a8_28, .ref a8_29, .ref a8_30, .ref a8_31, .int v8_32, .int v8_33, .int v8_34, .int v8_35, .ref a8_36, .ref a8_37, .int v8_38, .int v8_39, .int v8_40, .ref a8_41, .ref a8_42, .int v8_43])), (a8_5, .inl (c8_5, 8, .inl f8_5))] [(c8_5, .int)] sz (fun _ => True))) (va_Ql (fun (r : Int64) (u : Unit) => r = kcut (f8_5 p0.toNatClampNeg) p1) (KPost (dC, dI) (va_A [(o8, .inr (8, [.ref a8_0, .ref a8_1, .ref a8_2, .ref a8_3, .ref a8_4, .ref a8_5, .int v8_6, .ref a8_7, .ref a8_8, .ref a8_9, .ref a8_10, .ref a8_11, .int v8_12, .ref a8_13, .ref a8_14, .ref a8_15, .ref a8_16, .ref a8_17, .ref a8_18, .ref a8_19, .ref a8_20, .ref a8_21, .ref a8_22, .ref a8_23, .ref a8_24, .int v8_25, .int v8_26, .ref a8_27, .ref a8_28, .ref a8_29, .ref a8_30, .ref a8_31, .int v8_32, .int v8_33, .int v8_34, .int v8_35, .ref a8_36, .ref a8_37, .int v8_38, .int v8_39, .int v8_40, .ref a8_41, .ref a8_42, .int v8_43])), (a8_5, .inl (c8_5, 8, .inl f8_5))] sz) (fun (u : Unit) => [(o8, .inr (8, [.ref a8_0, .ref a8_1, .ref a8_2, .ref a8_3, .ref a8_4, .ref a8_5, .int v8_6, .ref a8_7, .ref a8_8, .ref a8_9, .ref a8_10, .ref a8_11, .int v8_12, .ref a8_13, .ref a8_14, .ref a8_15, .ref a8_16, .ref a8_17, .ref a8_18, .ref a8_19, .ref a8_20, .ref a8_21, .ref a8_22, .ref a8_23, .ref a8_24, .int v8_25, .int v8_26, .ref a8_27, .ref a8_28, .ref a8_29, .ref a8_30, .ref a8_31, .int v8_32, .int v8_33, .int v8_34, .int v8_35, .ref a8_36, .ref a8_37, .int v8_38, .int v8_39, .int v8_40, .ref a8_41, .ref a8_42, .int v8_43])), (a8_5, .inl (c8_5, 8, .inl f8_5))])) (va_A [(o8, .inr (8, [.ref a8_0, .ref a8_1, .ref a8_2, .ref a8_3, .ref a8_4, .ref a8_5, .int v8_6, .ref a8_7, .ref a8_8, .ref a8_9, .ref a8_10, .ref a8_11, .int v8_12, .ref a8_13, .ref a8_14, .ref a8_15, .ref a8_16, .ref a8_17, .ref a8_18, .ref a8_19, .ref a8_20, .ref a8_21, .ref a8_22, .ref a8_23, .ref a8_24, .int v8_25, .int v8_26, .ref a8_27, .ref a8_28, .ref a8_29, .ref a8_30, .ref a8_31, .int v8_32, .int v8_33, .int v8_34, .int v8_35, .ref a8_36, .ref a8_37, .int v8_38, .int v8_39, .int v8_40, .ref a8_41, .ref a8_42, .int v8_43])), (a8_5, .inl (c8_5, 8, .inl f8_5))] sz)) 0 0 (va_A [(o8, .inr (8, [.ref a8_0, .ref a8_1, .ref a8_2, .ref a8_3, .ref a8_4, .ref a8_5, .int v8_6, .ref a8_7, .ref a8_8, .ref a8_9, .ref a8_10, .ref a8_11, .int v8_12, .ref a8_13, .ref a8_14, .ref a8_15, .ref a8_16, .ref a8_17, .ref a8_18, .ref a8_19, .ref a8_20, .ref a8_21, .ref a8_22, .ref a8_23, .ref a8_24, .int v8_25, .int v8_26, .ref a8_27, .ref a8_28, .ref a8_29, .ref a8_30, .ref a8_31, .int v8_32, .int v8_33, .int v8_34, .int v8_35, .ref a8_36, .ref a8_37, .int v8_38, .int v8_39, .int v8_40, .ref a8_41, .ref a8_42, .int v8_43])), (a8_5, .inl (c8_5, 8, .inl f8_5))] sz) := by
  refine kMet (y := yX8_cut) (wsM := wsX8_cut) (cc := cX8_cut) (maxL := 4) (ret := (some .long)) (rm := ({ frames := 0, cells := 0, slots := 0, locals := 0 } : Room)) (mc := 0) (ms := 0) (av := [.ref o8, .int p0, .long p1]) (D := (dC, dI)) (wc := [(o8, .inr (8, [.ref a8_0, .ref a8_1, .ref a8_2, .ref a8_3, .ref a8_4, .ref a8_5, .int v8_6, .ref a8_7, .ref a8_8, .ref a8_9, .ref a8_10, .ref a8_11, .int v8_12, .ref a8_13, .ref a8_14, .ref a8_15, .ref a8_16, .ref a8_17, .ref a8_18, .ref a8_19, .ref a8_20, .ref a8_21, .ref a8_22, .ref a8_23, .ref a8_24, .int v8_25, .int v8_26, .ref a8_27, .ref a8_28, .ref a8_29, .ref a8_30, .ref a8_31, .int v8_32, .int v8_33, .int v8_34, .int v8_35, .ref a8_36, .ref a8_37, .int v8_38, .int v8_39, .int v8_40, .ref a8_41, .ref a8_42, .int v8_43])), (a8_5, .inl (c8_5, 8, .inl f8_5))]) (tc := [(c8_5, .int)]) (sz := sz) (X := fun _ => True) (Qc := fun A => va_Ql (fun (r : Int64) (u : Unit) => r = kcut (f8_5 p0.toNatClampNeg) p1) (KPost (dC, dI) A (fun (u : Unit) => [(o8, .inr (8, [.ref a8_0, .ref a8_1, .ref a8_2, .ref a8_3, .ref a8_4, .ref a8_5, .int v8_6, .ref a8_7, .ref a8_8, .ref a8_9, .ref a8_10, .ref a8_11, .int v8_12, .ref a8_13, .ref a8_14, .ref a8_15, .ref a8_16, .ref a8_17, .ref a8_18, .ref a8_19, .ref a8_20, .ref a8_21, .ref a8_22, .ref a8_23, .ref a8_24, .int v8_25, .int v8_26, .ref a8_27, .ref a8_28, .ref a8_29, .ref a8_30, .ref a8_31, .int v8_32, .int v8_33, .int v8_34, .int v8_35, .ref a8_36, .ref a8_37, .int v8_38, .int v8_39, .int v8_40, .ref a8_41, .ref a8_42, .int v8_43])), (a8_5, .inl (c8_5, 8, .inl f8_5))])) A) (by decide) rfl (Nat.le_of_ble_eq_true rfl) ?_
  intro p e s m below meth c A ls E hr hlocks hnm hsz hAe hX h hl
  have hx := E.1
  have hb := E.2.1
  have hl : lv_has ls 4 [(0, .ref o8), (1, .int p0), (2, .long p1)] := hl
  refine lv_lload_n hx hb dX8_cut_0 rfl (lv_at hl 2 rfl) ?_
  refine lv_lconst (v := 1) hx hb dX8_cut_1 (by decide) ?_
  refine lv_aload_n hx hb dX8_cut_2 rfl (lv_at hl 0 rfl) ?_
  refine k_get (v := .ref a8_5) E h (fun w h => List.mem_cons_of_mem _ (List.mem_append_right _ h)) 0 rfl rfl 5 (Nat.le_of_ble_eq_true rfl) (List.mem_of_getElem? (i := 1) rfl) rfl dX8_cut_3 ?_
  refine lv_iload_n hx hb dX8_cut_6 rfl (lv_at hl 1 rfl) ?_
  refine k_iald (v := f8_5 p0.toNatClampNeg) E h 1 0 rfl rfl (vp_in_iff.mpr (by omega)) rfl dX8_cut_7 ?_
  refine lv_lshl (v := 1 <<< ((f8_5 p0.toNatClampNeg).toInt64 &&& 63)) hx hb dX8_cut_8 rfl ?_
  refine lv_lconst (v := 1) hx hb dX8_cut_9 (by decide) ?_
  refine lv_lsub hx hb dX8_cut_10 ?_
  refine lv_land hx hb dX8_cut_11 ?_
  have hP9 := h.2.1.sub [0, 1] rfl
  have hD9 := h.2.2.1.sub (ws' := [(o8, .inr (8, [.ref a8_0, .ref a8_1, .ref a8_2, .ref a8_3, .ref a8_4, .ref a8_5, .int v8_6, .ref a8_7, .ref a8_8, .ref a8_9, .ref a8_10, .ref a8_11, .int v8_12, .ref a8_13, .ref a8_14, .ref a8_15, .ref a8_16, .ref a8_17, .ref a8_18, .ref a8_19, .ref a8_20, .ref a8_21, .ref a8_22, .ref a8_23, .ref a8_24, .int v8_25, .int v8_26, .ref a8_27, .ref a8_28, .ref a8_29, .ref a8_30, .ref a8_31, .int v8_32, .int v8_33, .int v8_34, .int v8_35, .ref a8_36, .ref a8_37, .int v8_38, .int v8_39, .int v8_40, .ref a8_41, .ref a8_42, .int v8_43])), (a8_5, .inl (c8_5, 8, .inl f8_5))]) [0, 1] (by decide) rfl
  exact W.lret (v := p1 &&& ((1 <<< ((f8_5 p0.toNatClampNeg).toInt64 &&& 63)) - 1)) hx hb hr (fun t ht hW => ⟨⟨p1 &&& ((1 <<< ((f8_5 p0.toNatClampNeg).toInt64 &&& 63)) - 1), (), rfl, rfl, (by rw [ht]; exact hP9), hD9⟩, h.2.2.2.1.F ht⟩) h.2.2.2.1.2.2 dX8_cut_12 hlocks
