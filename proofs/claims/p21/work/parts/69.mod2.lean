theorem IW_at {w : Nat → Int32} {x : Int32} (h : IW w) (h0 : 0 ≤ x.toInt ∧ x.toInt < 8) : 1 ≤ (w x.toNatClampNeg).toInt ∧ (w x.toNatClampNeg).toInt ≤ 32 := h _ (by unfold Int32.toNatClampNeg; omega)
theorem kslot3 {x y : Int32} (h0 : 0 ≤ x.toInt ∧ x.toInt < 12) (h1 : 0 ≤ y.toInt) (h2 : y.toInt ≤ 10) : (10 * x + y).toInt = 10 * x.toInt + y.toInt := by
  have e1 : (10 * x).toInt = 10 * x.toInt := by rw [Int32.toInt_mul]; exact fb_bmod (z := 10 * x.toInt) (by omega) (by omega)
  rw [Int32.toInt_add, e1]
  exact fb_bmod (by omega) (by omega)
set_option maxHeartbeats 4000000 in
set_option maxRecDepth 100000 in
theorem c_X8_isActs (l : Launch) (dC : Nat → ClassId) (dI : Nat → Nat → Nat) (sz : Nat) (p0 : Int32) (p1 : Int32) (p2 : Int32) (p3 : Int32)  : Met l yX8_isActs wsX8_isActs ({ frames := 1, cells := 0, slots := 0, locals := 25 } : Room) (va_Pc [.int p0, .int p1, .int p2, .int p3] (KPre (dC, dI) [] [] sz (fun _ => True))) (va_Qi (fun (r : Int32) (u : Unit) => r = if kActOK p0 p1 p2 p3 = true then 1 else 0) (KPost (dC, dI) (va_A [] sz) (fun (u : Unit) => [])) (va_A [] sz)) 0 0 (va_A [] sz) := by
  refine kMet (y := yX8_isActs) (wsM := wsX8_isActs) (cc := cX8_isActs) (maxL := 5) (ret := (some .boolean)) (rm := ({ frames := 1, cells := 0, slots := 0, locals := 25 } : Room)) (mc := 0) (ms := 0) (av := [.int p0, .int p1, .int p2, .int p3]) (D := (dC, dI)) (wc := []) (tc := []) (sz := sz) (X := fun _ => True) (Qc := fun A => va_Qi (fun (r : Int32) (u : Unit) => r = if kActOK p0 p1 p2 p3 = true then 1 else 0) (KPost (dC, dI) A (fun (u : Unit) => [])) A) (by decide) rfl (Nat.le_of_ble_eq_true rfl) ?_
  intro p e s m below meth c A ls E hr hlocks hnm hsz hAe hX h hl
  have hx := E.1
  have hb := E.2.1
  have hl : lv_has ls 5 [(0, .int p0), (1, .int p1), (2, .int p2), (3, .int p3)] := hl
  refine lv_iload_n hx hb dX8_isActs_0 rfl (lv_at hl 0 rfl) ?_
  refine lv_i2l (v := p0.toInt64) hx hb dX8_isActs_1 rfl ?_
  refine lv_lconst (v := 0) hx hb dX8_isActs_2 (by decide) ?_
  refine lv_ldc2 (v := 10) hx hb E.2.2.2.1 (E.2.2.2.2 _ (List.mem_of_getElem? (i := 1) rfl)) dX8_isActs_3 ?_
  refine kc_i (wc := []) (wr := []) h (va_runS (As := [.long p0.toInt64, .long 0, .long 10]) (rest := []) E (c_X8_isIn l dC dI _ (p0 := p0.toInt64) (p1 := 0) (p2 := 10)  ) (va_cwS 3 E.2.2.2.2 gX8_isActs_X8_isIn rfl rfl rfl hdS_X8_isIn ⟨Nat.le_of_ble_eq_true rfl, Nat.le_of_ble_eq_true rfl⟩) (kPreS h KX_true (fun _ _ _ => trivial) [] [] (by decide) rfl rfl) rfl rfl hl.1 rfl (lv_room (Nat.le_of_ble_eq_true rfl)) dX8_isActs_6 ⟨Nat.le_of_ble_eq_true rfl, Nat.le_of_ble_eq_true rfl⟩) [] [] rfl rfl (by decide) (by decide) (fun r_1 u_1 H locs hw_1 h => ?_)
  have h : KS (dC, dI) A [] [] s H locs := h
  have hw_1 : r_1 = if 0 ≤ p0.toInt ∧ p0.toInt ≤ 10 then 1 else 0 := by first | exact hw_1 | (simp only [Int32.toInt_toInt64] at hw_1; exact hw_1)
  refine W.eq (g2 := F0 m 9 ls [.int r_1]) rfl ?_
  refine lv_if_eq (tgt := 26) hx hb dX8_isActs_9 rfl (fun c_2 => ?_) (fun c_2 => ?_)
  · skip
    have b_2 := kb0 hw_1 c_2
    refine lv_iconst (v := 0) hx hb dX8_isActs_26 kic_0 ?_
    have hP9 := h.2.1.sub [] rfl
    have hD9 := h.2.2.1.sub (ws' := []) [] (by decide) rfl
    exact W.zret (v := 0) hx hb hr (by decide) (fun t ht hW => ⟨⟨0, (), rfl, (by split <;> first | (with_reducible rfl) | (rename_i q; exfalso; simp only [kActOK, decide_eq_true_eq] at q; omega) | rfl), (by rw [ht]; exact hP9), hD9⟩, h.2.2.2.1.F ht⟩) h.2.2.2.1.2.2 dX8_isActs_27 hlocks
  · skip
    have b_2 := kb1 hw_1 c_2
    refine lv_iload_n hx hb dX8_isActs_12 rfl (lv_at hl 0 rfl) ?_
    refine kc_i (wc := []) (wr := []) h (va_runS (As := [.int p0]) (rest := []) E (c_X8_hasD l dC dI _ (p0 := p0)  ) (va_cwS 1 E.2.2.2.2 gX8_isActs_X8_hasD rfl rfl rfl hdS_X8_hasD ⟨Nat.le_of_ble_eq_true rfl, Nat.le_of_ble_eq_true rfl⟩) (kPreS h KX_true (fun _ _ _ => trivial) [] [] (by decide) rfl rfl) rfl rfl hl.1 rfl (lv_room (Nat.le_of_ble_eq_true rfl)) dX8_isActs_13 ⟨Nat.le_of_ble_eq_true rfl, Nat.le_of_ble_eq_true rfl⟩) [] [] rfl rfl (by decide) (by decide) (fun r_3 u_3 H locs hw_3 h => ?_)
    have h : KS (dC, dI) A [] [] s H locs := h
    have hw_3 : r_3 = if p0.toInt ≤ 7 then 1 else 0 := by first | exact hw_3 | (simp only [Int32.toInt_toInt64] at hw_3; exact hw_3)
    refine W.eq (g2 := F0 m 16 ls [.int r_3]) rfl ?_
    refine lv_if_eq (tgt := 28) hx hb dX8_isActs_16 rfl (fun c_4 => ?_) (fun c_4 => ?_)
    · skip
      have b_4 := kb0 hw_3 c_4
      refine lv_iload_n hx hb dX8_isActs_28 rfl (lv_at hl 0 rfl) ?_
      refine lv_bipush (v := 9) hx hb dX8_isActs_29 kbi_9 ?_
      refine lv_icmp_lt (tgt := 38) hx hb dX8_isActs_31 rfl (fun c_5 => ?_) (fun c_5 => ?_)
      · skip
        have i_5 : p0.toInt < 9 := (fa_lt _ _).mp c_5
        refine lv_iconst (v := 0) hx hb dX8_isActs_38 kic_0 ?_
        refine lv_istore (lv' := [(4, .int 0), (0, .int p0), (1, .int p1), (2, .int p2), (3, .int p3)]) hx hb dX8_isActs_39 hl (Nat.le_of_ble_eq_true rfl) rfl (fun ls hl => ?_)
        refine lv_iload_n hx hb dX8_isActs_41 rfl (lv_at hl 1 rfl) ?_
        refine lv_if_ne (tgt := 60) hx hb dX8_isActs_42 rfl (fun c_6 => ?_) (fun c_6 => ?_)
        · skip
          have i_6 : ¬ p0.toInt = 0 := fun h9 => c_6 ((fa_eq _ _).mpr h9)
          refine lv_iload hx hb dX8_isActs_60 (lv_at hl 0 rfl) ?_
          refine lv_if_eq (tgt := 78) hx hb dX8_isActs_62 rfl (fun _ => ?_) (fun c_7 => absurd (by decide) c_7)
          refine lv_iload_n hx hb dX8_isActs_78 rfl (lv_at hl 3 rfl) ?_
          refine kc_i (wc := []) (wr := []) h (va_runS (As := [.int p2]) (rest := []) E (c_X8_isRegister l dC dI _ (p0 := p2)  ) (va_cwS 1 E.2.2.2.2 gX8_isActs_X8_isRegister rfl rfl rfl hdS_X8_isRegister ⟨Nat.le_of_ble_eq_true rfl, Nat.le_of_ble_eq_true rfl⟩) (kPreS h KX_true (fun _ _ _ => trivial) [] [] (by decide) rfl rfl) rfl rfl hl.1 rfl (lv_room (Nat.le_of_ble_eq_true rfl)) dX8_isActs_79 ⟨Nat.le_of_ble_eq_true rfl, Nat.le_of_ble_eq_true rfl⟩) [] [] rfl rfl (by decide) (by decide) (fun r_8 u_8 H locs hw_8 h => ?_)
          have h : KS (dC, dI) A [] [] s H locs := h
          have hw_8 : r_8 = if 0 ≤ p2.toInt ∧ p2.toInt < 8 then 1 else 0 := by first | exact hw_8 | (simp only [Int32.toInt_toInt64] at hw_8; exact hw_8)
          refine W.eq (g2 := F0 m 82 ls [.int r_8]) rfl ?_
          refine lv_if_ne (tgt := 87) hx hb dX8_isActs_82 rfl (fun c_9 => ?_) (fun c_9 => ?_)
          · skip
            have b_9 := kb1 hw_8 c_9
            refine lv_iload_n hx hb dX8_isActs_87 rfl (lv_at hl 1 rfl) ?_
            refine kc_i (wc := []) (wr := []) h (va_runS (As := [.int p0]) (rest := []) E (c_X8_hasY l dC dI _ (p0 := p0)  ) (va_cwS 1 E.2.2.2.2 gX8_isActs_X8_hasY rfl rfl rfl hdS_X8_hasY ⟨Nat.le_of_ble_eq_true rfl, Nat.le_of_ble_eq_true rfl⟩) (kPreS h KX_true (fun _ _ _ => trivial) [] [] (by decide) rfl rfl) rfl rfl hl.1 rfl (lv_room (Nat.le_of_ble_eq_true rfl)) dX8_isActs_88 ⟨Nat.le_of_ble_eq_true rfl, Nat.le_of_ble_eq_true rfl⟩) [] [] rfl rfl (by decide) (by decide) (fun r_10 u_10 H locs hw_10 h => ?_)
            have h : KS (dC, dI) A [] [] s H locs := h
            have hw_10 : r_10 = if 2 ≤ p0.toInt ∧ ¬ p0.toInt = 7 then 1 else 0 := by first | exact hw_10 | (simp only [Int32.toInt_toInt64] at hw_10; exact hw_10)
            refine W.eq (g2 := F0 m 91 ls [.int r_10]) rfl ?_
            refine lv_if_ne (tgt := 96) hx hb dX8_isActs_91 rfl (fun c_11 => ?_) (fun c_11 => ?_)
            · skip
              have b_11 := kb1 hw_10 c_11
              refine lv_iload_n hx hb dX8_isActs_96 rfl (lv_at hl 1 rfl) ?_
              refine lv_bipush (v := 6) hx hb dX8_isActs_97 kbi_6 ?_
              refine lv_icmp_ne (tgt := 116) hx hb dX8_isActs_99 rfl (fun c_12 => ?_) (fun c_12 => ?_)
              · skip
                have i_12 : ¬ p0.toInt = 6 := fun h9 => c_12 ((fa_eq _ _).mpr h9)
                refine lv_iload hx hb dX8_isActs_116 (lv_at hl 0 rfl) ?_
                refine lv_if_eq (tgt := 131) hx hb dX8_isActs_118 rfl (fun _ => ?_) (fun c_13 => absurd (by decide) c_13)
                refine lv_iload_n hx hb dX8_isActs_131 rfl (lv_at hl 4 rfl) ?_
                refine kc_i (wc := []) (wr := []) h (va_runS (As := [.int p3]) (rest := []) E (c_X8_isRegister l dC dI _ (p0 := p3)  ) (va_cwS 1 E.2.2.2.2 gX8_isActs_X8_isRegister rfl rfl rfl hdS_X8_isRegister ⟨Nat.le_of_ble_eq_true rfl, Nat.le_of_ble_eq_true rfl⟩) (kPreS h KX_true (fun _ _ _ => trivial) [] [] (by decide) rfl rfl) rfl rfl hl.1 rfl (lv_room (Nat.le_of_ble_eq_true rfl)) dX8_isActs_132 ⟨Nat.le_of_ble_eq_true rfl, Nat.le_of_ble_eq_true rfl⟩) [] [] rfl rfl (by decide) (by decide) (fun r_14 u_14 H locs hw_14 h => ?_)
                have h : KS (dC, dI) A [] [] s H locs := h
                have hw_14 : r_14 = if 0 ≤ p3.toInt ∧ p3.toInt < 8 then 1 else 0 := by first | exact hw_14 | (simp only [Int32.toInt_toInt64] at hw_14; exact hw_14)
                refine W.eq (g2 := F0 m 135 ls [.int r_14]) rfl ?_
                have hP9 := h.2.1.sub [] rfl
                have hD9 := h.2.2.1.sub (ws' := []) [] (by decide) rfl
                exact W.zret (v := r_14) hx hb hr (by rw [hw_14]; split <;> rfl) (fun t ht hW => ⟨⟨r_14, (), rfl, (by rw [hw_14]; (repeat' split) <;> first | (with_reducible rfl) | (rename_i q r; exfalso; simp only [kActOK, decide_eq_true_eq] at q r; omega) | rfl ), (by rw [ht]; exact hP9), hD9⟩, h.2.2.2.1.F ht⟩) h.2.2.2.1.2.2 dX8_isActs_135 hlocks
              · skip
                have i_12 : p0.toInt = 6 := (fa_eq _ _).mp c_12
                refine lv_iload_n hx hb dX8_isActs_102 rfl (lv_at hl 4 rfl) ?_
                refine lv_i2l (v := p3.toInt64) hx hb dX8_isActs_103 rfl ?_
                refine lv_ldc2 (v := -31) hx hb E.2.2.2.1 (E.2.2.2.2 _ (List.mem_of_getElem? (i := 3) rfl)) dX8_isActs_104 ?_
                refine lv_ldc2 (v := 31) hx hb E.2.2.2.1 (E.2.2.2.2 _ (List.mem_of_getElem? (i := 4) rfl)) dX8_isActs_107 ?_
                refine kc_i (wc := []) (wr := []) h (va_runS (As := [.long p3.toInt64, .long (-31), .long 31]) (rest := []) E (c_X8_isIn l dC dI _ (p0 := p3.toInt64) (p1 := (-31)) (p2 := 31)  ) (va_cwS 3 E.2.2.2.2 gX8_isActs_X8_isIn rfl rfl rfl hdS_X8_isIn ⟨Nat.le_of_ble_eq_true rfl, Nat.le_of_ble_eq_true rfl⟩) (kPreS h KX_true (fun _ _ _ => trivial) [] [] (by decide) rfl rfl) rfl rfl hl.1 rfl (lv_room (Nat.le_of_ble_eq_true rfl)) dX8_isActs_110 ⟨Nat.le_of_ble_eq_true rfl, Nat.le_of_ble_eq_true rfl⟩) [] [] rfl rfl (by decide) (by decide) (fun r_15 u_15 H locs hw_15 h => ?_)
                have h : KS (dC, dI) A [] [] s H locs := h
                have hw_15 : r_15 = if (-31) ≤ p3.toInt ∧ p3.toInt ≤ 31 then 1 else 0 := by first | exact hw_15 | (simp only [Int32.toInt_toInt64] at hw_15; exact hw_15)
                refine W.eq (g2 := F0 m 113 ls [.int r_15]) rfl ?_
                refine lv_goto (tgt := 135) hx hb dX8_isActs_113 rfl ?_
                have hP9 := h.2.1.sub [] rfl
                have hD9 := h.2.2.1.sub (ws' := []) [] (by decide) rfl
                exact W.zret (v := r_15) hx hb hr (by rw [hw_15]; split <;> rfl) (fun t ht hW => ⟨⟨r_15, (), rfl, (by rw [hw_15]; (repeat' split) <;> first | (with_reducible rfl) | (rename_i q r; exfalso; simp only [kActOK, decide_eq_true_eq] at q r; omega) | rfl ), (by rw [ht]; exact hP9), hD9⟩, h.2.2.2.1.F ht⟩) h.2.2.2.1.2.2 dX8_isActs_135 hlocks
            · skip
              have b_11 := kb0 hw_10 c_11
              refine lv_iconst (v := 1) hx hb dX8_isActs_94 kic_1 ?_
              have hP9 := h.2.1.sub [] rfl
              have hD9 := h.2.2.1.sub (ws' := []) [] (by decide) rfl
              exact W.zret (v := 1) hx hb hr (by decide) (fun t ht hW => ⟨⟨1, (), rfl, (by split <;> first | (with_reducible rfl) | (rename_i q; exfalso; simp only [kActOK, decide_eq_true_eq] at q; omega) | rfl), (by rw [ht]; exact hP9), hD9⟩, h.2.2.2.1.F ht⟩) h.2.2.2.1.2.2 dX8_isActs_95 hlocks
          · skip
            have b_9 := kb0 hw_8 c_9
            refine lv_iconst (v := 0) hx hb dX8_isActs_85 kic_0 ?_
            have hP9 := h.2.1.sub [] rfl
            have hD9 := h.2.2.1.sub (ws' := []) [] (by decide) rfl
            exact W.zret (v := 0) hx hb hr (by decide) (fun t ht hW => ⟨⟨0, (), rfl, (by split <;> first | (with_reducible rfl) | (rename_i q; exfalso; simp only [kActOK, decide_eq_true_eq] at q; omega) | rfl), (by rw [ht]; exact hP9), hD9⟩, h.2.2.2.1.F ht⟩) h.2.2.2.1.2.2 dX8_isActs_86 hlocks
        · skip
          have i_6 : p0.toInt = 0 := (fa_eq _ _).mp c_6
          refine lv_iload_n hx hb dX8_isActs_45 rfl (lv_at hl 3 rfl) ?_
          refine lv_i2l (v := p2.toInt64) hx hb dX8_isActs_46 rfl ?_
          refine lv_lconst (v := 0) hx hb dX8_isActs_47 (by decide) ?_
          refine lv_ldc2 (v := 255) hx hb E.2.2.2.1 (E.2.2.2.2 _ (List.mem_of_getElem? (i := 2) rfl)) dX8_isActs_48 ?_
          refine kc_i (wc := []) (wr := []) h (va_runS (As := [.long p2.toInt64, .long 0, .long 255]) (rest := []) E (c_X8_isIn l dC dI _ (p0 := p2.toInt64) (p1 := 0) (p2 := 255)  ) (va_cwS 3 E.2.2.2.2 gX8_isActs_X8_isIn rfl rfl rfl hdS_X8_isIn ⟨Nat.le_of_ble_eq_true rfl, Nat.le_of_ble_eq_true rfl⟩) (kPreS h KX_true (fun _ _ _ => trivial) [] [] (by decide) rfl rfl) rfl rfl hl.1 rfl (lv_room (Nat.le_of_ble_eq_true rfl)) dX8_isActs_51 ⟨Nat.le_of_ble_eq_true rfl, Nat.le_of_ble_eq_true rfl⟩) [] [] rfl rfl (by decide) (by decide) (fun r_16 u_16 H locs hw_16 h => ?_)
          have h : KS (dC, dI) A [] [] s H locs := h
          have hw_16 : r_16 = if 0 ≤ p2.toInt ∧ p2.toInt ≤ 255 then 1 else 0 := by first | exact hw_16 | (simp only [Int32.toInt_toInt64] at hw_16; exact hw_16)
          refine W.eq (g2 := F0 m 54 ls [.int r_16]) rfl ?_
          refine lv_if_ne (tgt := 87) hx hb dX8_isActs_54 rfl (fun c_17 => ?_) (fun c_17 => ?_)
          · skip
            have b_17 := kb1 hw_16 c_17
            refine lv_iload_n hx hb dX8_isActs_87 rfl (lv_at hl 1 rfl) ?_
            refine kc_i (wc := []) (wr := []) h (va_runS (As := [.int p0]) (rest := []) E (c_X8_hasY l dC dI _ (p0 := p0)  ) (va_cwS 1 E.2.2.2.2 gX8_isActs_X8_hasY rfl rfl rfl hdS_X8_hasY ⟨Nat.le_of_ble_eq_true rfl, Nat.le_of_ble_eq_true rfl⟩) (kPreS h KX_true (fun _ _ _ => trivial) [] [] (by decide) rfl rfl) rfl rfl hl.1 rfl (lv_room (Nat.le_of_ble_eq_true rfl)) dX8_isActs_88 ⟨Nat.le_of_ble_eq_true rfl, Nat.le_of_ble_eq_true rfl⟩) [] [] rfl rfl (by decide) (by decide) (fun r_18 u_18 H locs hw_18 h => ?_)
            have h : KS (dC, dI) A [] [] s H locs := h
            have hw_18 : r_18 = if 2 ≤ p0.toInt ∧ ¬ p0.toInt = 7 then 1 else 0 := by first | exact hw_18 | (simp only [Int32.toInt_toInt64] at hw_18; exact hw_18)
            refine W.eq (g2 := F0 m 91 ls [.int r_18]) rfl ?_
            refine lv_if_ne (tgt := 96) hx hb dX8_isActs_91 rfl (fun c_19 => ?_) (fun c_19 => ?_)
            · skip
              have b_19 := kb1 hw_18 c_19
              refine lv_iload_n hx hb dX8_isActs_96 rfl (lv_at hl 1 rfl) ?_
              refine lv_bipush (v := 6) hx hb dX8_isActs_97 kbi_6 ?_
              refine lv_icmp_ne (tgt := 116) hx hb dX8_isActs_99 rfl (fun c_20 => ?_) (fun c_20 => ?_)
              · skip
                have i_20 : ¬ p0.toInt = 6 := fun h9 => c_20 ((fa_eq _ _).mpr h9)
                refine lv_iload hx hb dX8_isActs_116 (lv_at hl 0 rfl) ?_
                refine lv_if_eq (tgt := 131) hx hb dX8_isActs_118 rfl (fun _ => ?_) (fun c_21 => absurd (by decide) c_21)
                refine lv_iload_n hx hb dX8_isActs_131 rfl (lv_at hl 4 rfl) ?_
                refine kc_i (wc := []) (wr := []) h (va_runS (As := [.int p3]) (rest := []) E (c_X8_isRegister l dC dI _ (p0 := p3)  ) (va_cwS 1 E.2.2.2.2 gX8_isActs_X8_isRegister rfl rfl rfl hdS_X8_isRegister ⟨Nat.le_of_ble_eq_true rfl, Nat.le_of_ble_eq_true rfl⟩) (kPreS h KX_true (fun _ _ _ => trivial) [] [] (by decide) rfl rfl) rfl rfl hl.1 rfl (lv_room (Nat.le_of_ble_eq_true rfl)) dX8_isActs_132 ⟨Nat.le_of_ble_eq_true rfl, Nat.le_of_ble_eq_true rfl⟩) [] [] rfl rfl (by decide) (by decide) (fun r_22 u_22 H locs hw_22 h => ?_)
                have h : KS (dC, dI) A [] [] s H locs := h
                have hw_22 : r_22 = if 0 ≤ p3.toInt ∧ p3.toInt < 8 then 1 else 0 := by first | exact hw_22 | (simp only [Int32.toInt_toInt64] at hw_22; exact hw_22)
                refine W.eq (g2 := F0 m 135 ls [.int r_22]) rfl ?_
                have hP9 := h.2.1.sub [] rfl
                have hD9 := h.2.2.1.sub (ws' := []) [] (by decide) rfl
                exact W.zret (v := r_22) hx hb hr (by rw [hw_22]; split <;> rfl) (fun t ht hW => ⟨⟨r_22, (), rfl, (by rw [hw_22]; (repeat' split) <;> first | (with_reducible rfl) | (rename_i q r; exfalso; simp only [kActOK, decide_eq_true_eq] at q r; omega) | rfl ), (by rw [ht]; exact hP9), hD9⟩, h.2.2.2.1.F ht⟩) h.2.2.2.1.2.2 dX8_isActs_135 hlocks
              · skip
                have i_20 : p0.toInt = 6 := (fa_eq _ _).mp c_20
                exfalso; omega
            · skip
              have b_19 := kb0 hw_18 c_19
              refine lv_iconst (v := 1) hx hb dX8_isActs_94 kic_1 ?_
              have hP9 := h.2.1.sub [] rfl
              have hD9 := h.2.2.1.sub (ws' := []) [] (by decide) rfl
              exact W.zret (v := 1) hx hb hr (by decide) (fun t ht hW => ⟨⟨1, (), rfl, (by split <;> first | (with_reducible rfl) | (rename_i q; exfalso; simp only [kActOK, decide_eq_true_eq] at q; omega) | rfl), (by rw [ht]; exact hP9), hD9⟩, h.2.2.2.1.F ht⟩) h.2.2.2.1.2.2 dX8_isActs_95 hlocks
          · skip
            have b_17 := kb0 hw_16 c_17
            refine lv_goto (tgt := 85) hx hb dX8_isActs_57 rfl ?_
            refine lv_iconst (v := 0) hx hb dX8_isActs_85 kic_0 ?_
            have hP9 := h.2.1.sub [] rfl
            have hD9 := h.2.2.1.sub (ws' := []) [] (by decide) rfl
            exact W.zret (v := 0) hx hb hr (by decide) (fun t ht hW => ⟨⟨0, (), rfl, (by split <;> first | (with_reducible rfl) | (rename_i q; exfalso; simp only [kActOK, decide_eq_true_eq] at q; omega) | rfl), (by rw [ht]; exact hP9), hD9⟩, h.2.2.2.1.F ht⟩) h.2.2.2.1.2.2 dX8_isActs_86 hlocks
      · skip
        have i_5 : ¬ p0.toInt < 9 := fun h9 => c_5 ((fa_lt _ _).mpr h9)
        refine lv_iconst (v := 1) hx hb dX8_isActs_34 kic_1 ?_
        refine lv_goto (tgt := 39) hx hb dX8_isActs_35 rfl ?_
        refine lv_istore (lv' := [(4, .int 1), (0, .int p0), (1, .int p1), (2, .int p2), (3, .int p3)]) hx hb dX8_isActs_39 hl (Nat.le_of_ble_eq_true rfl) rfl (fun ls hl => ?_)
        refine lv_iload_n hx hb dX8_isActs_41 rfl (lv_at hl 1 rfl) ?_
        refine lv_if_ne (tgt := 60) hx hb dX8_isActs_42 rfl (fun c_24 => ?_) (fun c_24 => ?_)
        · skip
          have i_24 : ¬ p0.toInt = 0 := fun h9 => c_24 ((fa_eq _ _).mpr h9)
          refine lv_iload hx hb dX8_isActs_60 (lv_at hl 0 rfl) ?_
          refine lv_if_eq (tgt := 78) hx hb dX8_isActs_62 rfl (fun c_25 => absurd c_25 (by decide)) (fun _ => ?_)
          refine lv_iload_n hx hb dX8_isActs_65 rfl (lv_at hl 3 rfl) ?_
          refine lv_i2l (v := p2.toInt64) hx hb dX8_isActs_66 rfl ?_
          refine lv_lconst (v := 0) hx hb dX8_isActs_67 (by decide) ?_
          refine lv_lconst (v := 1) hx hb dX8_isActs_68 (by decide) ?_
          refine kc_i (wc := []) (wr := []) h (va_runS (As := [.long p2.toInt64, .long 0, .long 1]) (rest := []) E (c_X8_isIn l dC dI _ (p0 := p2.toInt64) (p1 := 0) (p2 := 1)  ) (va_cwS 3 E.2.2.2.2 gX8_isActs_X8_isIn rfl rfl rfl hdS_X8_isIn ⟨Nat.le_of_ble_eq_true rfl, Nat.le_of_ble_eq_true rfl⟩) (kPreS h KX_true (fun _ _ _ => trivial) [] [] (by decide) rfl rfl) rfl rfl hl.1 rfl (lv_room (Nat.le_of_ble_eq_true rfl)) dX8_isActs_69 ⟨Nat.le_of_ble_eq_true rfl, Nat.le_of_ble_eq_true rfl⟩) [] [] rfl rfl (by decide) (by decide) (fun r_26 u_26 H locs hw_26 h => ?_)
          have h : KS (dC, dI) A [] [] s H locs := h
          have hw_26 : r_26 = if 0 ≤ p2.toInt ∧ p2.toInt ≤ 1 then 1 else 0 := by first | exact hw_26 | (simp only [Int32.toInt_toInt64] at hw_26; exact hw_26)
          refine W.eq (g2 := F0 m 72 ls [.int r_26]) rfl ?_
          refine lv_if_ne (tgt := 87) hx hb dX8_isActs_72 rfl (fun c_27 => ?_) (fun c_27 => ?_)
          · skip
            have b_27 := kb1 hw_26 c_27
            refine lv_iload_n hx hb dX8_isActs_87 rfl (lv_at hl 1 rfl) ?_
            refine kc_i (wc := []) (wr := []) h (va_runS (As := [.int p0]) (rest := []) E (c_X8_hasY l dC dI _ (p0 := p0)  ) (va_cwS 1 E.2.2.2.2 gX8_isActs_X8_hasY rfl rfl rfl hdS_X8_hasY ⟨Nat.le_of_ble_eq_true rfl, Nat.le_of_ble_eq_true rfl⟩) (kPreS h KX_true (fun _ _ _ => trivial) [] [] (by decide) rfl rfl) rfl rfl hl.1 rfl (lv_room (Nat.le_of_ble_eq_true rfl)) dX8_isActs_88 ⟨Nat.le_of_ble_eq_true rfl, Nat.le_of_ble_eq_true rfl⟩) [] [] rfl rfl (by decide) (by decide) (fun r_28 u_28 H locs hw_28 h => ?_)
            have h : KS (dC, dI) A [] [] s H locs := h
            have hw_28 : r_28 = if 2 ≤ p0.toInt ∧ ¬ p0.toInt = 7 then 1 else 0 := by first | exact hw_28 | (simp only [Int32.toInt_toInt64] at hw_28; exact hw_28)
            refine W.eq (g2 := F0 m 91 ls [.int r_28]) rfl ?_
            refine lv_if_ne (tgt := 96) hx hb dX8_isActs_91 rfl (fun c_29 => ?_) (fun c_29 => ?_)
            · skip
              have b_29 := kb1 hw_28 c_29
              refine lv_iload_n hx hb dX8_isActs_96 rfl (lv_at hl 1 rfl) ?_
              refine lv_bipush (v := 6) hx hb dX8_isActs_97 kbi_6 ?_
              refine lv_icmp_ne (tgt := 116) hx hb dX8_isActs_99 rfl (fun c_30 => ?_) (fun c_30 => ?_)
              · skip
                have i_30 : ¬ p0.toInt = 6 := fun h9 => c_30 ((fa_eq _ _).mpr h9)
                refine lv_iload hx hb dX8_isActs_116 (lv_at hl 0 rfl) ?_
                refine lv_if_eq (tgt := 131) hx hb dX8_isActs_118 rfl (fun c_31 => absurd c_31 (by decide)) (fun _ => ?_)
                refine lv_iload_n hx hb dX8_isActs_121 rfl (lv_at hl 4 rfl) ?_
                refine lv_i2l (v := p3.toInt64) hx hb dX8_isActs_122 rfl ?_
                refine lv_lconst (v := 0) hx hb dX8_isActs_123 (by decide) ?_
                refine lv_lconst (v := 1) hx hb dX8_isActs_124 (by decide) ?_
                refine kc_i (wc := []) (wr := []) h (va_runS (As := [.long p3.toInt64, .long 0, .long 1]) (rest := []) E (c_X8_isIn l dC dI _ (p0 := p3.toInt64) (p1 := 0) (p2 := 1)  ) (va_cwS 3 E.2.2.2.2 gX8_isActs_X8_isIn rfl rfl rfl hdS_X8_isIn ⟨Nat.le_of_ble_eq_true rfl, Nat.le_of_ble_eq_true rfl⟩) (kPreS h KX_true (fun _ _ _ => trivial) [] [] (by decide) rfl rfl) rfl rfl hl.1 rfl (lv_room (Nat.le_of_ble_eq_true rfl)) dX8_isActs_125 ⟨Nat.le_of_ble_eq_true rfl, Nat.le_of_ble_eq_true rfl⟩) [] [] rfl rfl (by decide) (by decide) (fun r_32 u_32 H locs hw_32 h => ?_)
                have h : KS (dC, dI) A [] [] s H locs := h
                have hw_32 : r_32 = if 0 ≤ p3.toInt ∧ p3.toInt ≤ 1 then 1 else 0 := by first | exact hw_32 | (simp only [Int32.toInt_toInt64] at hw_32; exact hw_32)
                refine W.eq (g2 := F0 m 128 ls [.int r_32]) rfl ?_
                refine lv_goto (tgt := 135) hx hb dX8_isActs_128 rfl ?_
                have hP9 := h.2.1.sub [] rfl
                have hD9 := h.2.2.1.sub (ws' := []) [] (by decide) rfl
                exact W.zret (v := r_32) hx hb hr (by rw [hw_32]; split <;> rfl) (fun t ht hW => ⟨⟨r_32, (), rfl, (by rw [hw_32]; (repeat' split) <;> first | (with_reducible rfl) | (rename_i q r; exfalso; simp only [kActOK, decide_eq_true_eq] at q r; omega) | rfl ), (by rw [ht]; exact hP9), hD9⟩, h.2.2.2.1.F ht⟩) h.2.2.2.1.2.2 dX8_isActs_135 hlocks
              · skip
                have i_30 : p0.toInt = 6 := (fa_eq _ _).mp c_30
                exfalso; omega
            · skip
              have b_29 := kb0 hw_28 c_29
              refine lv_iconst (v := 1) hx hb dX8_isActs_94 kic_1 ?_
              have hP9 := h.2.1.sub [] rfl
              have hD9 := h.2.2.1.sub (ws' := []) [] (by decide) rfl
              exact W.zret (v := 1) hx hb hr (by decide) (fun t ht hW => ⟨⟨1, (), rfl, (by split <;> first | (with_reducible rfl) | (rename_i q; exfalso; simp only [kActOK, decide_eq_true_eq] at q; omega) | rfl), (by rw [ht]; exact hP9), hD9⟩, h.2.2.2.1.F ht⟩) h.2.2.2.1.2.2 dX8_isActs_95 hlocks
          · skip
            have b_27 := kb0 hw_26 c_27
            refine lv_goto (tgt := 85) hx hb dX8_isActs_75 rfl ?_
            refine lv_iconst (v := 0) hx hb dX8_isActs_85 kic_0 ?_
            have hP9 := h.2.1.sub [] rfl
            have hD9 := h.2.2.1.sub (ws' := []) [] (by decide) rfl
            exact W.zret (v := 0) hx hb hr (by decide) (fun t ht hW => ⟨⟨0, (), rfl, (by split <;> first | (with_reducible rfl) | (rename_i q; exfalso; simp only [kActOK, decide_eq_true_eq] at q; omega) | rfl), (by rw [ht]; exact hP9), hD9⟩, h.2.2.2.1.F ht⟩) h.2.2.2.1.2.2 dX8_isActs_86 hlocks
        · skip
          have i_24 : p0.toInt = 0 := (fa_eq _ _).mp c_24
          exfalso; omega
    · skip
      have b_4 := kb1 hw_3 c_4
      refine lv_iload_n hx hb dX8_isActs_19 rfl (lv_at hl 1 rfl) ?_
      refine kc_i (wc := []) (wr := []) h (va_runS (As := [.int p1]) (rest := []) E (c_X8_isRegister l dC dI _ (p0 := p1)  ) (va_cwS 1 E.2.2.2.2 gX8_isActs_X8_isRegister rfl rfl rfl hdS_X8_isRegister ⟨Nat.le_of_ble_eq_true rfl, Nat.le_of_ble_eq_true rfl⟩) (kPreS h KX_true (fun _ _ _ => trivial) [] [] (by decide) rfl rfl) rfl rfl hl.1 rfl (lv_room (Nat.le_of_ble_eq_true rfl)) dX8_isActs_20 ⟨Nat.le_of_ble_eq_true rfl, Nat.le_of_ble_eq_true rfl⟩) [] [] rfl rfl (by decide) (by decide) (fun r_42 u_42 H locs hw_42 h => ?_)
      have h : KS (dC, dI) A [] [] s H locs := h
      have hw_42 : r_42 = if 0 ≤ p1.toInt ∧ p1.toInt < 8 then 1 else 0 := by first | exact hw_42 | (simp only [Int32.toInt_toInt64] at hw_42; exact hw_42)
      refine W.eq (g2 := F0 m 23 ls [.int r_42]) rfl ?_
      refine lv_if_ne (tgt := 28) hx hb dX8_isActs_23 rfl (fun c_43 => ?_) (fun c_43 => ?_)
      · skip
        have b_43 := kb1 hw_42 c_43
        refine lv_iload_n hx hb dX8_isActs_28 rfl (lv_at hl 0 rfl) ?_
        refine lv_bipush (v := 9) hx hb dX8_isActs_29 kbi_9 ?_
        refine lv_icmp_lt (tgt := 38) hx hb dX8_isActs_31 rfl (fun c_44 => ?_) (fun c_44 => ?_)
        · skip
          have i_44 : p0.toInt < 9 := (fa_lt _ _).mp c_44
          refine lv_iconst (v := 0) hx hb dX8_isActs_38 kic_0 ?_
          refine lv_istore (lv' := [(4, .int 0), (0, .int p0), (1, .int p1), (2, .int p2), (3, .int p3)]) hx hb dX8_isActs_39 hl (Nat.le_of_ble_eq_true rfl) rfl (fun ls hl => ?_)
          refine lv_iload_n hx hb dX8_isActs_41 rfl (lv_at hl 1 rfl) ?_
          refine lv_if_ne (tgt := 60) hx hb dX8_isActs_42 rfl (fun c_45 => ?_) (fun c_45 => ?_)
          · skip
            have i_45 : ¬ p0.toInt = 0 := fun h9 => c_45 ((fa_eq _ _).mpr h9)
            refine lv_iload hx hb dX8_isActs_60 (lv_at hl 0 rfl) ?_
            refine lv_if_eq (tgt := 78) hx hb dX8_isActs_62 rfl (fun _ => ?_) (fun c_46 => absurd (by decide) c_46)
            refine lv_iload_n hx hb dX8_isActs_78 rfl (lv_at hl 3 rfl) ?_
            refine kc_i (wc := []) (wr := []) h (va_runS (As := [.int p2]) (rest := []) E (c_X8_isRegister l dC dI _ (p0 := p2)  ) (va_cwS 1 E.2.2.2.2 gX8_isActs_X8_isRegister rfl rfl rfl hdS_X8_isRegister ⟨Nat.le_of_ble_eq_true rfl, Nat.le_of_ble_eq_true rfl⟩) (kPreS h KX_true (fun _ _ _ => trivial) [] [] (by decide) rfl rfl) rfl rfl hl.1 rfl (lv_room (Nat.le_of_ble_eq_true rfl)) dX8_isActs_79 ⟨Nat.le_of_ble_eq_true rfl, Nat.le_of_ble_eq_true rfl⟩) [] [] rfl rfl (by decide) (by decide) (fun r_47 u_47 H locs hw_47 h => ?_)
            have h : KS (dC, dI) A [] [] s H locs := h
            have hw_47 : r_47 = if 0 ≤ p2.toInt ∧ p2.toInt < 8 then 1 else 0 := by first | exact hw_47 | (simp only [Int32.toInt_toInt64] at hw_47; exact hw_47)
            refine W.eq (g2 := F0 m 82 ls [.int r_47]) rfl ?_
            refine lv_if_ne (tgt := 87) hx hb dX8_isActs_82 rfl (fun c_48 => ?_) (fun c_48 => ?_)
            · skip
              have b_48 := kb1 hw_47 c_48
              refine lv_iload_n hx hb dX8_isActs_87 rfl (lv_at hl 1 rfl) ?_
              refine kc_i (wc := []) (wr := []) h (va_runS (As := [.int p0]) (rest := []) E (c_X8_hasY l dC dI _ (p0 := p0)  ) (va_cwS 1 E.2.2.2.2 gX8_isActs_X8_hasY rfl rfl rfl hdS_X8_hasY ⟨Nat.le_of_ble_eq_true rfl, Nat.le_of_ble_eq_true rfl⟩) (kPreS h KX_true (fun _ _ _ => trivial) [] [] (by decide) rfl rfl) rfl rfl hl.1 rfl (lv_room (Nat.le_of_ble_eq_true rfl)) dX8_isActs_88 ⟨Nat.le_of_ble_eq_true rfl, Nat.le_of_ble_eq_true rfl⟩) [] [] rfl rfl (by decide) (by decide) (fun r_49 u_49 H locs hw_49 h => ?_)
              have h : KS (dC, dI) A [] [] s H locs := h
              have hw_49 : r_49 = if 2 ≤ p0.toInt ∧ ¬ p0.toInt = 7 then 1 else 0 := by first | exact hw_49 | (simp only [Int32.toInt_toInt64] at hw_49; exact hw_49)
              refine W.eq (g2 := F0 m 91 ls [.int r_49]) rfl ?_
              refine lv_if_ne (tgt := 96) hx hb dX8_isActs_91 rfl (fun c_50 => ?_) (fun c_50 => ?_)
              · skip
                have b_50 := kb1 hw_49 c_50
                refine lv_iload_n hx hb dX8_isActs_96 rfl (lv_at hl 1 rfl) ?_
                refine lv_bipush (v := 6) hx hb dX8_isActs_97 kbi_6 ?_
                refine lv_icmp_ne (tgt := 116) hx hb dX8_isActs_99 rfl (fun c_51 => ?_) (fun c_51 => ?_)
                · skip
                  have i_51 : ¬ p0.toInt = 6 := fun h9 => c_51 ((fa_eq _ _).mpr h9)
                  refine lv_iload hx hb dX8_isActs_116 (lv_at hl 0 rfl) ?_
                  refine lv_if_eq (tgt := 131) hx hb dX8_isActs_118 rfl (fun _ => ?_) (fun c_52 => absurd (by decide) c_52)
                  refine lv_iload_n hx hb dX8_isActs_131 rfl (lv_at hl 4 rfl) ?_
                  refine kc_i (wc := []) (wr := []) h (va_runS (As := [.int p3]) (rest := []) E (c_X8_isRegister l dC dI _ (p0 := p3)  ) (va_cwS 1 E.2.2.2.2 gX8_isActs_X8_isRegister rfl rfl rfl hdS_X8_isRegister ⟨Nat.le_of_ble_eq_true rfl, Nat.le_of_ble_eq_true rfl⟩) (kPreS h KX_true (fun _ _ _ => trivial) [] [] (by decide) rfl rfl) rfl rfl hl.1 rfl (lv_room (Nat.le_of_ble_eq_true rfl)) dX8_isActs_132 ⟨Nat.le_of_ble_eq_true rfl, Nat.le_of_ble_eq_true rfl⟩) [] [] rfl rfl (by decide) (by decide) (fun r_53 u_53 H locs hw_53 h => ?_)
                  have h : KS (dC, dI) A [] [] s H locs := h
                  have hw_53 : r_53 = if 0 ≤ p3.toInt ∧ p3.toInt < 8 then 1 else 0 := by first | exact hw_53 | (simp only [Int32.toInt_toInt64] at hw_53; exact hw_53)
                  refine W.eq (g2 := F0 m 135 ls [.int r_53]) rfl ?_
                  have hP9 := h.2.1.sub [] rfl
                  have hD9 := h.2.2.1.sub (ws' := []) [] (by decide) rfl
                  exact W.zret (v := r_53) hx hb hr (by rw [hw_53]; split <;> rfl) (fun t ht hW => ⟨⟨r_53, (), rfl, (by rw [hw_53]; (repeat' split) <;> first | (with_reducible rfl) | (rename_i q r; exfalso; simp only [kActOK, decide_eq_true_eq] at q r; omega) | rfl ), (by rw [ht]; exact hP9), hD9⟩, h.2.2.2.1.F ht⟩) h.2.2.2.1.2.2 dX8_isActs_135 hlocks
                · skip
                  have i_51 : p0.toInt = 6 := (fa_eq _ _).mp c_51
                  refine lv_iload_n hx hb dX8_isActs_102 rfl (lv_at hl 4 rfl) ?_
                  refine lv_i2l (v := p3.toInt64) hx hb dX8_isActs_103 rfl ?_
                  refine lv_ldc2 (v := -31) hx hb E.2.2.2.1 (E.2.2.2.2 _ (List.mem_of_getElem? (i := 3) rfl)) dX8_isActs_104 ?_
                  refine lv_ldc2 (v := 31) hx hb E.2.2.2.1 (E.2.2.2.2 _ (List.mem_of_getElem? (i := 4) rfl)) dX8_isActs_107 ?_
                  refine kc_i (wc := []) (wr := []) h (va_runS (As := [.long p3.toInt64, .long (-31), .long 31]) (rest := []) E (c_X8_isIn l dC dI _ (p0 := p3.toInt64) (p1 := (-31)) (p2 := 31)  ) (va_cwS 3 E.2.2.2.2 gX8_isActs_X8_isIn rfl rfl rfl hdS_X8_isIn ⟨Nat.le_of_ble_eq_true rfl, Nat.le_of_ble_eq_true rfl⟩) (kPreS h KX_true (fun _ _ _ => trivial) [] [] (by decide) rfl rfl) rfl rfl hl.1 rfl (lv_room (Nat.le_of_ble_eq_true rfl)) dX8_isActs_110 ⟨Nat.le_of_ble_eq_true rfl, Nat.le_of_ble_eq_true rfl⟩) [] [] rfl rfl (by decide) (by decide) (fun r_54 u_54 H locs hw_54 h => ?_)
                  have h : KS (dC, dI) A [] [] s H locs := h
                  have hw_54 : r_54 = if (-31) ≤ p3.toInt ∧ p3.toInt ≤ 31 then 1 else 0 := by first | exact hw_54 | (simp only [Int32.toInt_toInt64] at hw_54; exact hw_54)
                  refine W.eq (g2 := F0 m 113 ls [.int r_54]) rfl ?_
                  refine lv_goto (tgt := 135) hx hb dX8_isActs_113 rfl ?_
                  have hP9 := h.2.1.sub [] rfl
                  have hD9 := h.2.2.1.sub (ws' := []) [] (by decide) rfl
                  exact W.zret (v := r_54) hx hb hr (by rw [hw_54]; split <;> rfl) (fun t ht hW => ⟨⟨r_54, (), rfl, (by rw [hw_54]; (repeat' split) <;> first | (with_reducible rfl) | (rename_i q r; exfalso; simp only [kActOK, decide_eq_true_eq] at q r; omega) | rfl ), (by rw [ht]; exact hP9), hD9⟩, h.2.2.2.1.F ht⟩) h.2.2.2.1.2.2 dX8_isActs_135 hlocks
              · skip
                have b_50 := kb0 hw_49 c_50
                refine lv_iconst (v := 1) hx hb dX8_isActs_94 kic_1 ?_
                have hP9 := h.2.1.sub [] rfl
                have hD9 := h.2.2.1.sub (ws' := []) [] (by decide) rfl
                exact W.zret (v := 1) hx hb hr (by decide) (fun t ht hW => ⟨⟨1, (), rfl, (by split <;> first | (with_reducible rfl) | (rename_i q; exfalso; simp only [kActOK, decide_eq_true_eq] at q; omega) | rfl), (by rw [ht]; exact hP9), hD9⟩, h.2.2.2.1.F ht⟩) h.2.2.2.1.2.2 dX8_isActs_95 hlocks
            · skip
              have b_48 := kb0 hw_47 c_48
              refine lv_iconst (v := 0) hx hb dX8_isActs_85 kic_0 ?_
              have hP9 := h.2.1.sub [] rfl
              have hD9 := h.2.2.1.sub (ws' := []) [] (by decide) rfl
              exact W.zret (v := 0) hx hb hr (by decide) (fun t ht hW => ⟨⟨0, (), rfl, (by split <;> first | (with_reducible rfl) | (rename_i q; exfalso; simp only [kActOK, decide_eq_true_eq] at q; omega) | rfl), (by rw [ht]; exact hP9), hD9⟩, h.2.2.2.1.F ht⟩) h.2.2.2.1.2.2 dX8_isActs_86 hlocks
          · skip
            have i_45 : p0.toInt = 0 := (fa_eq _ _).mp c_45
            refine lv_iload_n hx hb dX8_isActs_45 rfl (lv_at hl 3 rfl) ?_
            refine lv_i2l (v := p2.toInt64) hx hb dX8_isActs_46 rfl ?_
            refine lv_lconst (v := 0) hx hb dX8_isActs_47 (by decide) ?_
            refine lv_ldc2 (v := 255) hx hb E.2.2.2.1 (E.2.2.2.2 _ (List.mem_of_getElem? (i := 2) rfl)) dX8_isActs_48 ?_
            refine kc_i (wc := []) (wr := []) h (va_runS (As := [.long p2.toInt64, .long 0, .long 255]) (rest := []) E (c_X8_isIn l dC dI _ (p0 := p2.toInt64) (p1 := 0) (p2 := 255)  ) (va_cwS 3 E.2.2.2.2 gX8_isActs_X8_isIn rfl rfl rfl hdS_X8_isIn ⟨Nat.le_of_ble_eq_true rfl, Nat.le_of_ble_eq_true rfl⟩) (kPreS h KX_true (fun _ _ _ => trivial) [] [] (by decide) rfl rfl) rfl rfl hl.1 rfl (lv_room (Nat.le_of_ble_eq_true rfl)) dX8_isActs_51 ⟨Nat.le_of_ble_eq_true rfl, Nat.le_of_ble_eq_true rfl⟩) [] [] rfl rfl (by decide) (by decide) (fun r_55 u_55 H locs hw_55 h => ?_)
            have h : KS (dC, dI) A [] [] s H locs := h
            have hw_55 : r_55 = if 0 ≤ p2.toInt ∧ p2.toInt ≤ 255 then 1 else 0 := by first | exact hw_55 | (simp only [Int32.toInt_toInt64] at hw_55; exact hw_55)
            refine W.eq (g2 := F0 m 54 ls [.int r_55]) rfl ?_
            refine lv_if_ne (tgt := 87) hx hb dX8_isActs_54 rfl (fun c_56 => ?_) (fun c_56 => ?_)
            · skip
              have b_56 := kb1 hw_55 c_56
              refine lv_iload_n hx hb dX8_isActs_87 rfl (lv_at hl 1 rfl) ?_
              refine kc_i (wc := []) (wr := []) h (va_runS (As := [.int p0]) (rest := []) E (c_X8_hasY l dC dI _ (p0 := p0)  ) (va_cwS 1 E.2.2.2.2 gX8_isActs_X8_hasY rfl rfl rfl hdS_X8_hasY ⟨Nat.le_of_ble_eq_true rfl, Nat.le_of_ble_eq_true rfl⟩) (kPreS h KX_true (fun _ _ _ => trivial) [] [] (by decide) rfl rfl) rfl rfl hl.1 rfl (lv_room (Nat.le_of_ble_eq_true rfl)) dX8_isActs_88 ⟨Nat.le_of_ble_eq_true rfl, Nat.le_of_ble_eq_true rfl⟩) [] [] rfl rfl (by decide) (by decide) (fun r_57 u_57 H locs hw_57 h => ?_)
              have h : KS (dC, dI) A [] [] s H locs := h
              have hw_57 : r_57 = if 2 ≤ p0.toInt ∧ ¬ p0.toInt = 7 then 1 else 0 := by first | exact hw_57 | (simp only [Int32.toInt_toInt64] at hw_57; exact hw_57)
              refine W.eq (g2 := F0 m 91 ls [.int r_57]) rfl ?_
              refine lv_if_ne (tgt := 96) hx hb dX8_isActs_91 rfl (fun c_58 => ?_) (fun c_58 => ?_)
              · skip
                have b_58 := kb1 hw_57 c_58
                refine lv_iload_n hx hb dX8_isActs_96 rfl (lv_at hl 1 rfl) ?_
                refine lv_bipush (v := 6) hx hb dX8_isActs_97 kbi_6 ?_
                refine lv_icmp_ne (tgt := 116) hx hb dX8_isActs_99 rfl (fun c_59 => ?_) (fun c_59 => ?_)
                · skip
                  have i_59 : ¬ p0.toInt = 6 := fun h9 => c_59 ((fa_eq _ _).mpr h9)
                  refine lv_iload hx hb dX8_isActs_116 (lv_at hl 0 rfl) ?_
                  refine lv_if_eq (tgt := 131) hx hb dX8_isActs_118 rfl (fun _ => ?_) (fun c_60 => absurd (by decide) c_60)
                  refine lv_iload_n hx hb dX8_isActs_131 rfl (lv_at hl 4 rfl) ?_
                  refine kc_i (wc := []) (wr := []) h (va_runS (As := [.int p3]) (rest := []) E (c_X8_isRegister l dC dI _ (p0 := p3)  ) (va_cwS 1 E.2.2.2.2 gX8_isActs_X8_isRegister rfl rfl rfl hdS_X8_isRegister ⟨Nat.le_of_ble_eq_true rfl, Nat.le_of_ble_eq_true rfl⟩) (kPreS h KX_true (fun _ _ _ => trivial) [] [] (by decide) rfl rfl) rfl rfl hl.1 rfl (lv_room (Nat.le_of_ble_eq_true rfl)) dX8_isActs_132 ⟨Nat.le_of_ble_eq_true rfl, Nat.le_of_ble_eq_true rfl⟩) [] [] rfl rfl (by decide) (by decide) (fun r_61 u_61 H locs hw_61 h => ?_)
                  have h : KS (dC, dI) A [] [] s H locs := h
                  have hw_61 : r_61 = if 0 ≤ p3.toInt ∧ p3.toInt < 8 then 1 else 0 := by first | exact hw_61 | (simp only [Int32.toInt_toInt64] at hw_61; exact hw_61)
                  refine W.eq (g2 := F0 m 135 ls [.int r_61]) rfl ?_
                  have hP9 := h.2.1.sub [] rfl
                  have hD9 := h.2.2.1.sub (ws' := []) [] (by decide) rfl
                  exact W.zret (v := r_61) hx hb hr (by rw [hw_61]; split <;> rfl) (fun t ht hW => ⟨⟨r_61, (), rfl, (by rw [hw_61]; (repeat' split) <;> first | (with_reducible rfl) | (rename_i q r; exfalso; simp only [kActOK, decide_eq_true_eq] at q r; omega) | rfl ), (by rw [ht]; exact hP9), hD9⟩, h.2.2.2.1.F ht⟩) h.2.2.2.1.2.2 dX8_isActs_135 hlocks
                · skip
                  have i_59 : p0.toInt = 6 := (fa_eq _ _).mp c_59
                  exfalso; omega
              · skip
                have b_58 := kb0 hw_57 c_58
                refine lv_iconst (v := 1) hx hb dX8_isActs_94 kic_1 ?_
                have hP9 := h.2.1.sub [] rfl
                have hD9 := h.2.2.1.sub (ws' := []) [] (by decide) rfl
                exact W.zret (v := 1) hx hb hr (by decide) (fun t ht hW => ⟨⟨1, (), rfl, (by split <;> first | (with_reducible rfl) | (rename_i q; exfalso; simp only [kActOK, decide_eq_true_eq] at q; omega) | rfl), (by rw [ht]; exact hP9), hD9⟩, h.2.2.2.1.F ht⟩) h.2.2.2.1.2.2 dX8_isActs_95 hlocks
            · skip
              have b_56 := kb0 hw_55 c_56
              refine lv_goto (tgt := 85) hx hb dX8_isActs_57 rfl ?_
              refine lv_iconst (v := 0) hx hb dX8_isActs_85 kic_0 ?_
              have hP9 := h.2.1.sub [] rfl
              have hD9 := h.2.2.1.sub (ws' := []) [] (by decide) rfl
              exact W.zret (v := 0) hx hb hr (by decide) (fun t ht hW => ⟨⟨0, (), rfl, (by split <;> first | (with_reducible rfl) | (rename_i q; exfalso; simp only [kActOK, decide_eq_true_eq] at q; omega) | rfl), (by rw [ht]; exact hP9), hD9⟩, h.2.2.2.1.F ht⟩) h.2.2.2.1.2.2 dX8_isActs_86 hlocks
        · skip
          have i_44 : ¬ p0.toInt < 9 := fun h9 => c_44 ((fa_lt _ _).mpr h9)
          refine lv_iconst (v := 1) hx hb dX8_isActs_34 kic_1 ?_
          refine lv_goto (tgt := 39) hx hb dX8_isActs_35 rfl ?_
          refine lv_istore (lv' := [(4, .int 1), (0, .int p0), (1, .int p1), (2, .int p2), (3, .int p3)]) hx hb dX8_isActs_39 hl (Nat.le_of_ble_eq_true rfl) rfl (fun ls hl => ?_)
          refine lv_iload_n hx hb dX8_isActs_41 rfl (lv_at hl 1 rfl) ?_
          refine lv_if_ne (tgt := 60) hx hb dX8_isActs_42 rfl (fun c_63 => ?_) (fun c_63 => ?_)
          · skip
            have i_63 : ¬ p0.toInt = 0 := fun h9 => c_63 ((fa_eq _ _).mpr h9)
            refine lv_iload hx hb dX8_isActs_60 (lv_at hl 0 rfl) ?_
            refine lv_if_eq (tgt := 78) hx hb dX8_isActs_62 rfl (fun c_64 => absurd c_64 (by decide)) (fun _ => ?_)
            refine lv_iload_n hx hb dX8_isActs_65 rfl (lv_at hl 3 rfl) ?_
            refine lv_i2l (v := p2.toInt64) hx hb dX8_isActs_66 rfl ?_
            refine lv_lconst (v := 0) hx hb dX8_isActs_67 (by decide) ?_
            refine lv_lconst (v := 1) hx hb dX8_isActs_68 (by decide) ?_
            refine kc_i (wc := []) (wr := []) h (va_runS (As := [.long p2.toInt64, .long 0, .long 1]) (rest := []) E (c_X8_isIn l dC dI _ (p0 := p2.toInt64) (p1 := 0) (p2 := 1)  ) (va_cwS 3 E.2.2.2.2 gX8_isActs_X8_isIn rfl rfl rfl hdS_X8_isIn ⟨Nat.le_of_ble_eq_true rfl, Nat.le_of_ble_eq_true rfl⟩) (kPreS h KX_true (fun _ _ _ => trivial) [] [] (by decide) rfl rfl) rfl rfl hl.1 rfl (lv_room (Nat.le_of_ble_eq_true rfl)) dX8_isActs_69 ⟨Nat.le_of_ble_eq_true rfl, Nat.le_of_ble_eq_true rfl⟩) [] [] rfl rfl (by decide) (by decide) (fun r_65 u_65 H locs hw_65 h => ?_)
            have h : KS (dC, dI) A [] [] s H locs := h
            have hw_65 : r_65 = if 0 ≤ p2.toInt ∧ p2.toInt ≤ 1 then 1 else 0 := by first | exact hw_65 | (simp only [Int32.toInt_toInt64] at hw_65; exact hw_65)
            refine W.eq (g2 := F0 m 72 ls [.int r_65]) rfl ?_
            refine lv_if_ne (tgt := 87) hx hb dX8_isActs_72 rfl (fun c_66 => ?_) (fun c_66 => ?_)
            · skip
              have b_66 := kb1 hw_65 c_66
              refine lv_iload_n hx hb dX8_isActs_87 rfl (lv_at hl 1 rfl) ?_
              refine kc_i (wc := []) (wr := []) h (va_runS (As := [.int p0]) (rest := []) E (c_X8_hasY l dC dI _ (p0 := p0)  ) (va_cwS 1 E.2.2.2.2 gX8_isActs_X8_hasY rfl rfl rfl hdS_X8_hasY ⟨Nat.le_of_ble_eq_true rfl, Nat.le_of_ble_eq_true rfl⟩) (kPreS h KX_true (fun _ _ _ => trivial) [] [] (by decide) rfl rfl) rfl rfl hl.1 rfl (lv_room (Nat.le_of_ble_eq_true rfl)) dX8_isActs_88 ⟨Nat.le_of_ble_eq_true rfl, Nat.le_of_ble_eq_true rfl⟩) [] [] rfl rfl (by decide) (by decide) (fun r_67 u_67 H locs hw_67 h => ?_)
              have h : KS (dC, dI) A [] [] s H locs := h
              have hw_67 : r_67 = if 2 ≤ p0.toInt ∧ ¬ p0.toInt = 7 then 1 else 0 := by first | exact hw_67 | (simp only [Int32.toInt_toInt64] at hw_67; exact hw_67)
              refine W.eq (g2 := F0 m 91 ls [.int r_67]) rfl ?_
              refine lv_if_ne (tgt := 96) hx hb dX8_isActs_91 rfl (fun c_68 => ?_) (fun c_68 => ?_)
              · skip
                have b_68 := kb1 hw_67 c_68
                refine lv_iload_n hx hb dX8_isActs_96 rfl (lv_at hl 1 rfl) ?_
                refine lv_bipush (v := 6) hx hb dX8_isActs_97 kbi_6 ?_
                refine lv_icmp_ne (tgt := 116) hx hb dX8_isActs_99 rfl (fun c_69 => ?_) (fun c_69 => ?_)
                · skip
                  have i_69 : ¬ p0.toInt = 6 := fun h9 => c_69 ((fa_eq _ _).mpr h9)
                  refine lv_iload hx hb dX8_isActs_116 (lv_at hl 0 rfl) ?_
                  refine lv_if_eq (tgt := 131) hx hb dX8_isActs_118 rfl (fun c_70 => absurd c_70 (by decide)) (fun _ => ?_)
                  refine lv_iload_n hx hb dX8_isActs_121 rfl (lv_at hl 4 rfl) ?_
                  refine lv_i2l (v := p3.toInt64) hx hb dX8_isActs_122 rfl ?_
                  refine lv_lconst (v := 0) hx hb dX8_isActs_123 (by decide) ?_
                  refine lv_lconst (v := 1) hx hb dX8_isActs_124 (by decide) ?_
                  refine kc_i (wc := []) (wr := []) h (va_runS (As := [.long p3.toInt64, .long 0, .long 1]) (rest := []) E (c_X8_isIn l dC dI _ (p0 := p3.toInt64) (p1 := 0) (p2 := 1)  ) (va_cwS 3 E.2.2.2.2 gX8_isActs_X8_isIn rfl rfl rfl hdS_X8_isIn ⟨Nat.le_of_ble_eq_true rfl, Nat.le_of_ble_eq_true rfl⟩) (kPreS h KX_true (fun _ _ _ => trivial) [] [] (by decide) rfl rfl) rfl rfl hl.1 rfl (lv_room (Nat.le_of_ble_eq_true rfl)) dX8_isActs_125 ⟨Nat.le_of_ble_eq_true rfl, Nat.le_of_ble_eq_true rfl⟩) [] [] rfl rfl (by decide) (by decide) (fun r_71 u_71 H locs hw_71 h => ?_)
                  have h : KS (dC, dI) A [] [] s H locs := h
                  have hw_71 : r_71 = if 0 ≤ p3.toInt ∧ p3.toInt ≤ 1 then 1 else 0 := by first | exact hw_71 | (simp only [Int32.toInt_toInt64] at hw_71; exact hw_71)
                  refine W.eq (g2 := F0 m 128 ls [.int r_71]) rfl ?_
                  refine lv_goto (tgt := 135) hx hb dX8_isActs_128 rfl ?_
                  have hP9 := h.2.1.sub [] rfl
                  have hD9 := h.2.2.1.sub (ws' := []) [] (by decide) rfl
                  exact W.zret (v := r_71) hx hb hr (by rw [hw_71]; split <;> rfl) (fun t ht hW => ⟨⟨r_71, (), rfl, (by rw [hw_71]; (repeat' split) <;> first | (with_reducible rfl) | (rename_i q r; exfalso; simp only [kActOK, decide_eq_true_eq] at q r; omega) | rfl ), (by rw [ht]; exact hP9), hD9⟩, h.2.2.2.1.F ht⟩) h.2.2.2.1.2.2 dX8_isActs_135 hlocks
                · skip
                  have i_69 : p0.toInt = 6 := (fa_eq _ _).mp c_69
                  exfalso; omega
              · skip
                have b_68 := kb0 hw_67 c_68
                refine lv_iconst (v := 1) hx hb dX8_isActs_94 kic_1 ?_
                have hP9 := h.2.1.sub [] rfl
                have hD9 := h.2.2.1.sub (ws' := []) [] (by decide) rfl
                exact W.zret (v := 1) hx hb hr (by decide) (fun t ht hW => ⟨⟨1, (), rfl, (by split <;> first | (with_reducible rfl) | (rename_i q; exfalso; simp only [kActOK, decide_eq_true_eq] at q; omega) | rfl), (by rw [ht]; exact hP9), hD9⟩, h.2.2.2.1.F ht⟩) h.2.2.2.1.2.2 dX8_isActs_95 hlocks
            · skip
              have b_66 := kb0 hw_65 c_66
              refine lv_goto (tgt := 85) hx hb dX8_isActs_75 rfl ?_
              refine lv_iconst (v := 0) hx hb dX8_isActs_85 kic_0 ?_
              have hP9 := h.2.1.sub [] rfl
              have hD9 := h.2.2.1.sub (ws' := []) [] (by decide) rfl
              exact W.zret (v := 0) hx hb hr (by decide) (fun t ht hW => ⟨⟨0, (), rfl, (by split <;> first | (with_reducible rfl) | (rename_i q; exfalso; simp only [kActOK, decide_eq_true_eq] at q; omega) | rfl), (by rw [ht]; exact hP9), hD9⟩, h.2.2.2.1.F ht⟩) h.2.2.2.1.2.2 dX8_isActs_86 hlocks
          · skip
            have i_63 : p0.toInt = 0 := (fa_eq _ _).mp c_63
            exfalso; omega
      · skip
        have b_43 := kb0 hw_42 c_43
        refine lv_iconst (v := 0) hx hb dX8_isActs_26 kic_0 ?_
        have hP9 := h.2.1.sub [] rfl
        have hD9 := h.2.2.1.sub (ws' := []) [] (by decide) rfl
        exact W.zret (v := 0) hx hb hr (by decide) (fun t ht hW => ⟨⟨0, (), rfl, (by split <;> first | (with_reducible rfl) | (rename_i q; exfalso; simp only [kActOK, decide_eq_true_eq] at q; omega) | rfl), (by rw [ht]; exact hP9), hD9⟩, h.2.2.2.1.F ht⟩) h.2.2.2.1.2.2 dX8_isActs_27 hlocks
set_option maxHeartbeats 4000000 in
set_option maxRecDepth 100000 in
theorem c_X8_puts (l : Launch) (dC : Nat → ClassId) (dI : Nat → Nat → Nat) (sz : Nat) (o8 : Nat) (a8_0 : Nat) (a8_1 : Nat) (a8_2 : Nat) (a8_3 : Nat) (a8_4 : Nat) (a8_5 : Nat) (v8_6 : Int32) (a8_7 : Nat) (a8_8 : Nat) (a8_9 : Nat) (a8_10 : Nat) (a8_11 : Nat) (v8_12 : Int32) (a8_13 : Nat) (a8_14 : Nat) (a8_15 : Nat) (a8_16 : Nat) (a8_17 : Nat) (a8_18 : Nat) (a8_19 : Nat) (a8_20 : Nat) (a8_21 : Nat) (a8_22 : Nat) (a8_23 : Nat) (a8_24 : Nat) (v8_25 : Int32) (v8_26 : Int32) (a8_27 : Nat) (a8_28 : Nat) (a8_29 : Nat) (a8_30 : Nat) (a8_31 : Nat) (v8_32 : Int32) (v8_33 : Int32) (v8_34 : Int32) (v8_35 : Int32) (a8_36 : Nat) (a8_37 : Nat) (v8_38 : Int32) (v8_39 : Int32) (v8_40 : Int32) (a8_41 : Nat) (a8_42 : Nat) (v8_43 : Int32) (c8_8 : ClassId) (f8_8 : Nat → Int32) (c8_0 : ClassId) (f8_0 : Nat → Int64) (c8_5 : ClassId) (f8_5 : Nat → Int32) (p0 : Int32) (p1 : Int64) (hIw : IW f8_5) (hN : IN f8_0) (hp : 0 ≤ p0.toInt ∧ p0.toInt < 120) (hd : 0 ≤ (f8_8 p0.toNatClampNeg).toInt ∧ (f8_8 p0.toNatClampNeg).toInt < 8) : Met l yX8_puts wsX8_puts ({ frames := 1, cells := 0, slots := 0, locals := 23 } : Room) (va_Pc [.ref o8, .int p0, .long p1] (KPre (dC, dI) [(o8, .inr (8, [.ref a8_0, .ref a8_1, .ref a8_2, .ref a8_3, .ref a8_4, .ref a8_5, .int v8_6, .ref a8_7, .ref a8_8, .ref a8_9, .ref a8_10, .ref a8_11, .int v8_12, .ref a8_13, .ref a8_14, .ref a8_15, .ref a8_16, .ref a8_17, .ref a8_18, .ref a8_19, .ref a8_20, .ref a8_21, .ref a8_22, .ref a8_23, .ref a8_24, .int v8_25, .int v8_26, .ref a8_27, .ref a8_28, .ref a8_29, .ref a8_30, .ref a8_31, .int v8_32, .int v8_33, .int v8_34, .int v8_35, .ref a8_36, .ref a8_37, .int v8_38, .int v8_39, .int v8_40, .ref a8_41, .ref a8_42, .int v8_43])), (a8_8, .inl (c8_8, 120, .inl f8_8)), (a8_0, .inl (c8_0, 74, .inr (.inl f8_0))), (a8_5, .inl (c8_5, 8, .inl f8_5))] [(c8_8, .int), (c8_0, .long), (c8_5, .int)] sz (fun _ => True))) (va_Qv (fun (u : (Nat → Int64)) => IN u) (KPost (dC, dI) (va_A [(o8, .inr (8, [.ref a8_0, .ref a8_1, .ref a8_2, .ref a8_3, .ref a8_4, .ref a8_5, .int v8_6, .ref a8_7, .ref a8_8, .ref a8_9, .ref a8_10, .ref a8_11, .int v8_12, .ref a8_13, .ref a8_14, .ref a8_15, .ref a8_16, .ref a8_17, .ref a8_18, .ref a8_19, .ref a8_20, .ref a8_21, .ref a8_22, .ref a8_23, .ref a8_24, .int v8_25, .int v8_26, .ref a8_27, .ref a8_28, .ref a8_29, .ref a8_30, .ref a8_31, .int v8_32, .int v8_33, .int v8_34, .int v8_35, .ref a8_36, .ref a8_37, .int v8_38, .int v8_39, .int v8_40, .ref a8_41, .ref a8_42, .int v8_43])), (a8_8, .inl (c8_8, 120, .inl f8_8)), (a8_0, .inl (c8_0, 74, .inr (.inl f8_0))), (a8_5, .inl (c8_5, 8, .inl f8_5))] sz) (fun (u : (Nat → Int64)) => [(o8, .inr (8, [.ref a8_0, .ref a8_1, .ref a8_2, .ref a8_3, .ref a8_4, .ref a8_5, .int v8_6, .ref a8_7, .ref a8_8, .ref a8_9, .ref a8_10, .ref a8_11, .int v8_12, .ref a8_13, .ref a8_14, .ref a8_15, .ref a8_16, .ref a8_17, .ref a8_18, .ref a8_19, .ref a8_20, .ref a8_21, .ref a8_22, .ref a8_23, .ref a8_24, .int v8_25, .int v8_26, .ref a8_27, .ref a8_28, .ref a8_29, .ref a8_30, .ref a8_31, .int v8_32, .int v8_33, .int v8_34, .int v8_35, .ref a8_36, .ref a8_37, .int v8_38, .int v8_39, .int v8_40, .ref a8_41, .ref a8_42, .int v8_43])), (a8_8, .inl (c8_8, 120, .inl f8_8)), (a8_0, .inl (c8_0, 74, .inr (.inl u))), (a8_5, .inl (c8_5, 8, .inl f8_5))])) (va_A [(o8, .inr (8, [.ref a8_0, .ref a8_1, .ref a8_2, .ref a8_3, .ref a8_4, .ref a8_5, .int v8_6, .ref a8_7, .ref a8_8, .ref a8_9, .ref a8_10, .ref a8_11, .int v8_12, .ref a8_13, .ref a8_14, .ref a8_15, .ref a8_16, .ref a8_17, .ref a8_18, .ref a8_19, .ref a8_20, .ref a8_21, .ref a8_22, .ref a8_23, .ref a8_24, .int v8_25, .int v8_26, .ref a8_27, .ref a8_28, .ref a8_29, .ref a8_30, .ref a8_31, .int v8_32, .int v8_33, .int v8_34, .int v8_35, .ref a8_36, .ref a8_37, .int v8_38, .int v8_39, .int v8_40, .ref a8_41, .ref a8_42, .int v8_43])), (a8_8, .inl (c8_8, 120, .inl f8_8)), (a8_0, .inl (c8_0, 74, .inr (.inl f8_0))), (a8_5, .inl (c8_5, 8, .inl f8_5))] sz)) 0 0 (va_A [(o8, .inr (8, [.ref a8_0, .ref a8_1, .ref a8_2, .ref a8_3, .ref a8_4, .ref a8_5, .int v8_6, .ref a8_7, .ref a8_8, .ref a8_9, .ref a8_10, .ref a8_11, .int v8_12, .ref a8_13, .ref a8_14, .ref a8_15, .ref a8_16, .ref a8_17, .ref a8_18, .ref a8_19, .ref a8_20, .ref a8_21, .ref a8_22, .ref a8_23, .ref a8_24, .int v8_25, .int v8_26, .ref a8_27, .ref a8_28, .ref a8_29, .ref a8_30, .ref a8_31, .int v8_32, .int v8_33, .int v8_34, .int v8_35, .ref a8_36, .ref a8_37, .int v8_38, .int v8_39, .int v8_40, .ref a8_41, .ref a8_42, .int v8_43])), (a8_8, .inl (c8_8, 120, .inl f8_8)), (a8_0, .inl (c8_0, 74, .inr (.inl f8_0))), (a8_5, .inl (c8_5, 8, .inl f8_5))] sz) := by
  refine kMet (y := yX8_puts) (wsM := wsX8_puts) (cc := cX8_puts) (maxL := 4) (ret := none) (rm := ({ frames := 1, cells := 0, slots := 0, locals := 23 } : Room)) (mc := 0) (ms := 0) (av := [.ref o8, .int p0, .long p1]) (D := (dC, dI)) (wc := [(o8, .inr (8, [.ref a8_0, .ref a8_1, .ref a8_2, .ref a8_3, .ref a8_4, .ref a8_5, .int v8_6, .ref a8_7, .ref a8_8, .ref a8_9, .ref a8_10, .ref a8_11, .int v8_12, .ref a8_13, .ref a8_14, .ref a8_15, .ref a8_16, .ref a8_17, .ref a8_18, .ref a8_19, .ref a8_20, .ref a8_21, .ref a8_22, .ref a8_23, .ref a8_24, .int v8_25, .int v8_26, .ref a8_27, .ref a8_28, .ref a8_29, .ref a8_30, .ref a8_31, .int v8_32, .int v8_33, .int v8_34, .int v8_35, .ref a8_36, .ref a8_37, .int v8_38, .int v8_39, .int v8_40, .ref a8_41, .ref a8_42, .int v8_43])), (a8_8, .inl (c8_8, 120, .inl f8_8)), (a8_0, .inl (c8_0, 74, .inr (.inl f8_0))), (a8_5, .inl (c8_5, 8, .inl f8_5))]) (tc := [(c8_8, .int), (c8_0, .long), (c8_5, .int)]) (sz := sz) (X := fun _ => True) (Qc := fun A => va_Qv (fun (u : (Nat → Int64)) => IN u) (KPost (dC, dI) A (fun (u : (Nat → Int64)) => [(o8, .inr (8, [.ref a8_0, .ref a8_1, .ref a8_2, .ref a8_3, .ref a8_4, .ref a8_5, .int v8_6, .ref a8_7, .ref a8_8, .ref a8_9, .ref a8_10, .ref a8_11, .int v8_12, .ref a8_13, .ref a8_14, .ref a8_15, .ref a8_16, .ref a8_17, .ref a8_18, .ref a8_19, .ref a8_20, .ref a8_21, .ref a8_22, .ref a8_23, .ref a8_24, .int v8_25, .int v8_26, .ref a8_27, .ref a8_28, .ref a8_29, .ref a8_30, .ref a8_31, .int v8_32, .int v8_33, .int v8_34, .int v8_35, .ref a8_36, .ref a8_37, .int v8_38, .int v8_39, .int v8_40, .ref a8_41, .ref a8_42, .int v8_43])), (a8_8, .inl (c8_8, 120, .inl f8_8)), (a8_0, .inl (c8_0, 74, .inr (.inl u))), (a8_5, .inl (c8_5, 8, .inl f8_5))])) A) (by decide) rfl (Nat.le_of_ble_eq_true rfl) ?_
  intro p e s m below meth c A ls E hr hlocks hnm hsz hAe hX h hl
  have hx := E.1
  have hb := E.2.1
  have hl : lv_has ls 4 [(0, .ref o8), (1, .int p0), (2, .long p1)] := hl
  refine lv_aload_n hx hb dX8_puts_0 rfl (lv_at hl 0 rfl) ?_
  refine k_get (v := .ref a8_0) E h (fun w h => List.mem_cons_of_mem _ (List.mem_append_right _ h)) 0 rfl rfl 0 (Nat.le_of_ble_eq_true rfl) (List.mem_of_getElem? (i := 1) rfl) rfl dX8_puts_1 ?_
  refine lv_aload_n hx hb dX8_puts_4 rfl (lv_at hl 0 rfl) ?_
  refine k_get (v := .ref a8_8) E h (fun w h => List.mem_cons_of_mem _ (List.mem_append_right _ h)) 0 rfl rfl 8 (Nat.le_of_ble_eq_true rfl) (List.mem_of_getElem? (i := 2) rfl) rfl dX8_puts_5 ?_
  refine lv_iload_n hx hb dX8_puts_8 rfl (lv_at hl 1 rfl) ?_
  refine k_iald (v := f8_8 p0.toNatClampNeg) E h 1 0 rfl rfl (vp_in_iff.mpr (by omega)) rfl dX8_puts_9 ?_
  refine lv_aload_n hx hb dX8_puts_10 rfl (lv_at hl 0 rfl) ?_
  refine lv_aload_n hx hb dX8_puts_11 rfl (lv_at hl 0 rfl) ?_
  refine k_get (v := .ref a8_8) E h (fun w h => List.mem_cons_of_mem _ (List.mem_append_right _ h)) 0 rfl rfl 8 (Nat.le_of_ble_eq_true rfl) (List.mem_of_getElem? (i := 2) rfl) rfl dX8_puts_12 ?_
  refine lv_iload_n hx hb dX8_puts_15 rfl (lv_at hl 1 rfl) ?_
  refine k_iald (v := f8_8 p0.toNatClampNeg) E h 1 0 rfl rfl (vp_in_iff.mpr (by omega)) rfl dX8_puts_16 ?_
  refine W.eq (g2 := F0 m 17 ls [.int (f8_8 p0.toNatClampNeg), .ref o8, .int (f8_8 p0.toNatClampNeg), .ref a8_0]) rfl ?_
  refine lv_lload_n hx hb dX8_puts_17 rfl (lv_at hl 2 rfl) ?_
  refine kc_l (wc := [(o8, .inr (8, [.ref a8_0, .ref a8_1, .ref a8_2, .ref a8_3, .ref a8_4, .ref a8_5, .int v8_6, .ref a8_7, .ref a8_8, .ref a8_9, .ref a8_10, .ref a8_11, .int v8_12, .ref a8_13, .ref a8_14, .ref a8_15, .ref a8_16, .ref a8_17, .ref a8_18, .ref a8_19, .ref a8_20, .ref a8_21, .ref a8_22, .ref a8_23, .ref a8_24, .int v8_25, .int v8_26, .ref a8_27, .ref a8_28, .ref a8_29, .ref a8_30, .ref a8_31, .int v8_32, .int v8_33, .int v8_34, .int v8_35, .ref a8_36, .ref a8_37, .int v8_38, .int v8_39, .int v8_40, .ref a8_41, .ref a8_42, .int v8_43])), (a8_5, .inl (c8_5, 8, .inl f8_5))]) (wr := [(a8_8, .inl (c8_8, 120, .inl f8_8)), (a8_0, .inl (c8_0, 74, .inr (.inl f8_0)))]) h (va_runV (As := [.int (f8_8 p0.toNatClampNeg), .long p1]) (rest := [.int (f8_8 p0.toNatClampNeg), .ref a8_0]) E (c_X8_cut l dC dI _ (o8 := o8) (a8_0 := a8_0) (a8_1 := a8_1) (a8_2 := a8_2) (a8_3 := a8_3) (a8_4 := a8_4) (a8_5 := a8_5) (v8_6 := v8_6) (a8_7 := a8_7) (a8_8 := a8_8) (a8_9 := a8_9) (a8_10 := a8_10) (a8_11 := a8_11) (v8_12 := v8_12) (a8_13 := a8_13) (a8_14 := a8_14) (a8_15 := a8_15) (a8_16 := a8_16) (a8_17 := a8_17) (a8_18 := a8_18) (a8_19 := a8_19) (a8_20 := a8_20) (a8_21 := a8_21) (a8_22 := a8_22) (a8_23 := a8_23) (a8_24 := a8_24) (v8_25 := v8_25) (v8_26 := v8_26) (a8_27 := a8_27) (a8_28 := a8_28) (a8_29 := a8_29) (a8_30 := a8_30) (a8_31 := a8_31) (v8_32 := v8_32) (v8_33 := v8_33) (v8_34 := v8_34) (v8_35 := v8_35) (a8_36 := a8_36) (a8_37 := a8_37) (v8_38 := v8_38) (v8_39 := v8_39) (v8_40 := v8_40) (a8_41 := a8_41) (a8_42 := a8_42) (v8_43 := v8_43) (c8_5 := c8_5) (f8_5 := f8_5) (p0 := f8_8 p0.toNatClampNeg) (p1 := p1)  (hp := (by first | decide | omega))) (cwV 2 E.2.2.2.2 gX8_puts_X8_cut rfl rfl rfl hdV_X8_cut ⟨Nat.le_of_ble_eq_true rfl, Nat.le_of_ble_eq_true rfl⟩) (kPreV (q0 := 0) (ci := 8) (q := (RX8, TX8, 44)) h KX_true (fun _ _ _ => trivial) [0, 3] [2] (by decide) rfl rfl rfl rfl) rfl rfl hl.1 rfl (lv_room (Nat.le_of_ble_eq_true rfl)) dX8_puts_18 ⟨Nat.le_of_ble_eq_true rfl, Nat.le_of_ble_eq_true rfl⟩) [0, 3] [1, 2] rfl rfl (by decide) (by decide) (fun r_1 u_1 H locs hw_1 h => ?_)
  have h : KS (dC, dI) A [(a8_8, .inl (c8_8, 120, .inl f8_8)), (a8_0, .inl (c8_0, 74, .inr (.inl f8_0))), (o8, .inr (8, [.ref a8_0, .ref a8_1, .ref a8_2, .ref a8_3, .ref a8_4, .ref a8_5, .int v8_6, .ref a8_7, .ref a8_8, .ref a8_9, .ref a8_10, .ref a8_11, .int v8_12, .ref a8_13, .ref a8_14, .ref a8_15, .ref a8_16, .ref a8_17, .ref a8_18, .ref a8_19, .ref a8_20, .ref a8_21, .ref a8_22, .ref a8_23, .ref a8_24, .int v8_25, .int v8_26, .ref a8_27, .ref a8_28, .ref a8_29, .ref a8_30, .ref a8_31, .int v8_32, .int v8_33, .int v8_34, .int v8_35, .ref a8_36, .ref a8_37, .int v8_38, .int v8_39, .int v8_40, .ref a8_41, .ref a8_42, .int v8_43])), (a8_5, .inl (c8_5, 8, .inl f8_5))] [(c8_8, .int), (c8_0, .long), (c8_5, .int)] s H locs := h
  have hw_1 : r_1 = kcut (f8_5 (f8_8 p0.toNatClampNeg).toNatClampNeg) p1 := by first | exact hw_1 | (simp only [Int32.toInt_toInt64] at hw_1; exact hw_1)
  refine k_topl (y := kcut (f8_5 (f8_8 p0.toNatClampNeg).toNatClampNeg) p1) (hw_1) ?_
  refine W.eq (g2 := F0 m 21 ls [.long (kcut (f8_5 (f8_8 p0.toNatClampNeg).toNatClampNeg) p1), .int (f8_8 p0.toNatClampNeg), .ref a8_0]) rfl ?_
  refine k_last (j := (f8_8 p0.toNatClampNeg).toNatClampNeg) (ws' := [(a8_8, .inl (c8_8, 120, .inl f8_8)), (a8_0, .inl (c8_0, 74, .inr (.inl (vp_updL f8_0 ((f8_8 p0.toNatClampNeg).toNatClampNeg) (kcut (f8_5 (f8_8 p0.toNatClampNeg).toNatClampNeg) p1))))), (o8, .inr (8, [.ref a8_0, .ref a8_1, .ref a8_2, .ref a8_3, .ref a8_4, .ref a8_5, .int v8_6, .ref a8_7, .ref a8_8, .ref a8_9, .ref a8_10, .ref a8_11, .int v8_12, .ref a8_13, .ref a8_14, .ref a8_15, .ref a8_16, .ref a8_17, .ref a8_18, .ref a8_19, .ref a8_20, .ref a8_21, .ref a8_22, .ref a8_23, .ref a8_24, .int v8_25, .int v8_26, .ref a8_27, .ref a8_28, .ref a8_29, .ref a8_30, .ref a8_31, .int v8_32, .int v8_33, .int v8_34, .int v8_35, .ref a8_36, .ref a8_37, .int v8_38, .int v8_39, .int v8_40, .ref a8_41, .ref a8_42, .int v8_43])), (a8_5, .inl (c8_5, 8, .inl f8_5))]) E h 1 1 rfl rfl (vp_in_iff.mpr (by omega)) rfl rfl dX8_puts_21 (fun H locs h => ?_)
  have hP9 := h.2.1.sub [2, 0, 1, 3] rfl
  have hD9 := h.2.2.1.sub (ws' := [(o8, .inr (8, [.ref a8_0, .ref a8_1, .ref a8_2, .ref a8_3, .ref a8_4, .ref a8_5, .int v8_6, .ref a8_7, .ref a8_8, .ref a8_9, .ref a8_10, .ref a8_11, .int v8_12, .ref a8_13, .ref a8_14, .ref a8_15, .ref a8_16, .ref a8_17, .ref a8_18, .ref a8_19, .ref a8_20, .ref a8_21, .ref a8_22, .ref a8_23, .ref a8_24, .int v8_25, .int v8_26, .ref a8_27, .ref a8_28, .ref a8_29, .ref a8_30, .ref a8_31, .int v8_32, .int v8_33, .int v8_34, .int v8_35, .ref a8_36, .ref a8_37, .int v8_38, .int v8_39, .int v8_40, .ref a8_41, .ref a8_42, .int v8_43])), (a8_8, .inl (c8_8, 120, .inl f8_8)), (a8_0, .inl (c8_0, 74, .inr (.inl (vp_updL f8_0 ((f8_8 p0.toNatClampNeg).toNatClampNeg) (kcut (f8_5 (f8_8 p0.toNatClampNeg).toNatClampNeg) p1))))), (a8_5, .inl (c8_5, 8, .inl f8_5))]) [2, 0, 1, 3] (by decide) rfl
  exact W.vret hx hb hr (fun t ht hW => ⟨⟨vp_updL f8_0 ((f8_8 p0.toNatClampNeg).toNatClampNeg) (kcut (f8_5 (f8_8 p0.toNatClampNeg).toNatClampNeg) p1), rfl, IN_upd hN (kcut_in _ (IW_at hIw hd).1 (IW_at hIw hd).2), (by rw [ht]; exact hP9), hD9⟩, h.2.2.2.1.F ht⟩) h.2.2.2.1.2.2 dX8_puts_22 hlocks
