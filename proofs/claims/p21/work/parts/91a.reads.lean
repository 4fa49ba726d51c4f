def rR (K X Y : Nat → Int32) : Nat → Int32 := fun j => kRd (K j) (X j) (Y j)
def rW (K D : Nat → Int32) : Nat → Int32 := fun j => kWr (K j) (D j)
theorem mDis_and {s d : Nat} (h : ∀ i, s.testBit i = true → d.testBit i = false) : s &&& d = 0 := by
  apply Nat.eq_of_testBit_eq
  intro i
  rw [Nat.testBit_and, Nat.zero_testBit]
  cases hs : s.testBit i
  · rfl
  · rw [h i hs]
    rfl
theorem mAnd_dis {s d : Nat} (h : s &&& d = 0) : ∀ i, s.testBit i = true → d.testBit i = false := by
  intro i hi
  have z : (s &&& d).testBit i = false := by rw [h, Nat.zero_testBit]
  rw [Nat.testBit_and, hi] at z
  cases hd : d.testBit i
  · rfl
  · rw [hd] at z
    exact absurd z (by decide)
def PK8 (K D X Y L8 WC : Nat → Int32) (wd : Nat → Nat) (bs i : Nat) : Prop := ∃ (L : Nat) (A : Nat → Nat), WC i = nI L ∧ L ≤ 10 ∧ mMW (iQ K (rR K X Y) (rW K D) (lenN L8 i) i bs) 0 L ∧ mPW (iQ K (rR K X Y) (rW K D) (lenN L8 i) i bs) A L 0 0 ∧ WD A wd (i * 10) L
def PK8a (K D X Y L8 M WC : Nat → Int32) (wd : Nat → Nat) (bs : Nat) : Prop := ∀ i, i < 12 → ¬ M i = 0 → PK8 K D X Y L8 WC wd bs i
theorem PK8_new {K D X Y L8 M M' WC : Nat → Int32} {wd wd' A : Nat → Nat} {bs i L : Nat} (hL8 : IL L8) (h : PK8a K D X Y L8 M WC wd bs) (hi : i < 12) (hL : L ≤ 10) (hM : mMW (iQ K (rR K X Y) (rW K D) (lenN L8 i) i bs) 0 L) (hP : mPW (iQ K (rR K X Y) (rW K D) (lenN L8 i) i bs) A L 0 0) (h1 : WD A wd' (i * 10) L) (h2 : ∀ j, (j < i * 10 ∨ i * 10 + 10 ≤ j) → wd' j = wd j) (h3 : ∀ j, j < 12 → j ≠ i → M' j = M j) : PK8a K D X Y L8 M' (upd WC i (nI L)) wd' bs := by
  intro k hk hm
  by_cases e : k = i
  · subst e
    exact ⟨L, A, pk_us, hL, hM, hP, h1⟩
  · rw [h3 k hk e] at hm
    obtain ⟨L', A', e1, e2, e3, e4, e5⟩ := h k hk hm
    refine ⟨L', A', by rw [pk_un e]; exact e1, e2, e3, e4, fun j hj b hb => ?_⟩
    have hb1 := mBit_lt (mPW_lt _ _ _ e4 j (Nat.zero_le _) (by omega)) hb
    have hb2 : b < lenN L8 k := hb1
    have hb3 := (IL_n hL8 hk).2
    rw [h2 (k * 10 + b) (by omega)]
    exact e5 j hj b hb
theorem pcn_le (P : Nat → Nat) (s p : Nat) : ∀ k, pcn P s p k ≤ k
  | 0 => Nat.le_refl 0
  | k + 1 => by
    have := pcn_le P s p k
    show pcn P s p k + _ ≤ _
    split <;> omega
set_option maxHeartbeats 4000000 in
set_option maxRecDepth 100000 in
theorem c_readsN (l : Launch) (dC : Nat → ClassId) (dI : Nat → Nat → Nat) (sz : Nat) (o8 : Nat) (a8_0 : Nat) (a8_1 : Nat) (a8_2 : Nat) (a8_3 : Nat) (a8_4 : Nat) (a8_5 : Nat) (v8_6 : Int32) (a8_7 : Nat) (a8_8 : Nat) (a8_9 : Nat) (a8_10 : Nat) (a8_11 : Nat) (v8_12 : Int32) (a8_13 : Nat) (a8_14 : Nat) (a8_15 : Nat) (a8_16 : Nat) (a8_17 : Nat) (a8_18 : Nat) (a8_19 : Nat) (a8_20 : Nat) (a8_21 : Nat) (a8_22 : Nat) (a8_23 : Nat) (a8_24 : Nat) (v8_25 : Int32) (v8_26 : Int32) (a8_27 : Nat) (a8_28 : Nat) (a8_29 : Nat) (a8_30 : Nat) (a8_31 : Nat) (v8_32 : Int32) (v8_33 : Int32) (v8_34 : Int32) (v8_35 : Int32) (a8_36 : Nat) (a8_37 : Nat) (v8_38 : Int32) (v8_39 : Int32) (v8_40 : Int32) (a8_41 : Nat) (a8_42 : Nat) (v8_43 : Int32) (c8_7 : ClassId) (f8_7 : Nat → Int32) (c8_8 : ClassId) (f8_8 : Nat → Int32) (c8_9 : ClassId) (f8_9 : Nat → Int32) (c8_10 : ClassId) (f8_10 : Nat → Int32) (m9 : Nat) (hK : IK f8_7) (hp : m9 < 120) : Met l yX8_reads wsX8_reads ({ frames := 0, cells := 0, slots := 0, locals := 0 } : Room) (va_Pc [.ref o8, .int (nI m9)] (KPre (dC, dI) [(o8, .inr (8, [.ref a8_0, .ref a8_1, .ref a8_2, .ref a8_3, .ref a8_4, .ref a8_5, .int v8_6, .ref a8_7, .ref a8_8, .ref a8_9, .ref a8_10, .ref a8_11, .int v8_12, .ref a8_13, .ref a8_14, .ref a8_15, .ref a8_16, .ref a8_17, .ref a8_18, .ref a8_19, .ref a8_20, .ref a8_21, .ref a8_22, .ref a8_23, .ref a8_24, .int v8_25, .int v8_26, .ref a8_27, .ref a8_28, .ref a8_29, .ref a8_30, .ref a8_31, .int v8_32, .int v8_33, .int v8_34, .int v8_35, .ref a8_36, .ref a8_37, .int v8_38, .int v8_39, .int v8_40, .ref a8_41, .ref a8_42, .int v8_43])), (a8_7, .inl (c8_7, 120, .inl f8_7)), (a8_8, .inl (c8_8, 120, .inl f8_8)), (a8_9, .inl (c8_9, 120, .inl f8_9)), (a8_10, .inl (c8_10, 120, .inl f8_10))] [(c8_7, .int), (c8_8, .int), (c8_9, .int), (c8_10, .int)] sz (fun _ => True))) (va_Qi (fun (r : Int32) (u : Unit) => r = (rR f8_7 f8_9 f8_10) m9) (KPost (dC, dI) (va_A [(o8, .inr (8, [.ref a8_0, .ref a8_1, .ref a8_2, .ref a8_3, .ref a8_4, .ref a8_5, .int v8_6, .ref a8_7, .ref a8_8, .ref a8_9, .ref a8_10, .ref a8_11, .int v8_12, .ref a8_13, .ref a8_14, .ref a8_15, .ref a8_16, .ref a8_17, .ref a8_18, .ref a8_19, .ref a8_20, .ref a8_21, .ref a8_22, .ref a8_23, .ref a8_24, .int v8_25, .int v8_26, .ref a8_27, .ref a8_28, .ref a8_29, .ref a8_30, .ref a8_31, .int v8_32, .int v8_33, .int v8_34, .int v8_35, .ref a8_36, .ref a8_37, .int v8_38, .int v8_39, .int v8_40, .ref a8_41, .ref a8_42, .int v8_43])), (a8_7, .inl (c8_7, 120, .inl f8_7)), (a8_8, .inl (c8_8, 120, .inl f8_8)), (a8_9, .inl (c8_9, 120, .inl f8_9)), (a8_10, .inl (c8_10, 120, .inl f8_10))] sz) (fun (u : Unit) => [(o8, .inr (8, [.ref a8_0, .ref a8_1, .ref a8_2, .ref a8_3, .ref a8_4, .ref a8_5, .int v8_6, .ref a8_7, .ref a8_8, .ref a8_9, .ref a8_10, .ref a8_11, .int v8_12, .ref a8_13, .ref a8_14, .ref a8_15, .ref a8_16, .ref a8_17, .ref a8_18, .ref a8_19, .ref a8_20, .ref a8_21, .ref a8_22, .ref a8_23, .ref a8_24, .int v8_25, .int v8_26, .ref a8_27, .ref a8_28, .ref a8_29, .ref a8_30, .ref a8_31, .int v8_32, .int v8_33, .int v8_34, .int v8_35, .ref a8_36, .ref a8_37, .int v8_38, .int v8_39, .int v8_40, .ref a8_41, .ref a8_42, .int v8_43])), (a8_7, .inl (c8_7, 120, .inl f8_7)), (a8_8, .inl (c8_8, 120, .inl f8_8)), (a8_9, .inl (c8_9, 120, .inl f8_9)), (a8_10, .inl (c8_10, 120, .inl f8_10))])) (va_A [(o8, .inr (8, [.ref a8_0, .ref a8_1, .ref a8_2, .ref a8_3, .ref a8_4, .ref a8_5, .int v8_6, .ref a8_7, .ref a8_8, .ref a8_9, .ref a8_10, .ref a8_11, .int v8_12, .ref a8_13, .ref a8_14, .ref a8_15, .ref a8_16, .ref a8_17, .ref a8_18, .ref a8_19, .ref a8_20, .ref a8_21, .ref a8_22, .ref a8_23, .ref a8_24, .int v8_25, .int v8_26, .ref a8_27, .ref a8_28, .ref a8_29, .ref a8_30, .ref a8_31, .int v8_32, .int v8_33, .int v8_34, .int v8_35, .ref a8_36, .ref a8_37, .int v8_38, .int v8_39, .int v8_40, .ref a8_41, .ref a8_42, .int v8_43])), (a8_7, .inl (c8_7, 120, .inl f8_7)), (a8_8, .inl (c8_8, 120, .inl f8_8)), (a8_9, .inl (c8_9, 120, .inl f8_9)), (a8_10, .inl (c8_10, 120, .inl f8_10))] sz)) 0 0 (va_A [(o8, .inr (8, [.ref a8_0, .ref a8_1, .ref a8_2, .ref a8_3, .ref a8_4, .ref a8_5, .int v8_6, .ref a8_7, .ref a8_8, .ref a8_9, .ref a8_10, .ref a8_11, .int v8_12, .ref a8_13, .ref a8_14, .ref a8_15, .ref a8_16, .ref a8_17, .ref a8_18, .ref a8_19, .ref a8_20, .ref a8_21, .ref a8_22, .ref a8_23, .ref a8_24, .int v8_25, .int v8_26, .ref a8_27, .ref a8_28, .ref a8_29, .ref a8_30, .ref a8_31, .int v8_32, .int v8_33, .int v8_34, .int v8_35, .ref a8_36, .ref a8_37, .int v8_38, .int v8_39, .int v8_40, .ref a8_41, .ref a8_42, .int v8_43])), (a8_7, .inl (c8_7, 120, .inl f8_7)), (a8_8, .inl (c8_8, 120, .inl f8_8)), (a8_9, .inl (c8_9, 120, .inl f8_9)), (a8_10, .inl (c8_10, 120, .inl f8_10))] sz) := by
  refine kMet (y := yX8_reads) (wsM := wsX8_reads) (cc := cX8_reads) (maxL := 3) (ret := (some .int)) (rm := ({ frames := 0, cells := 0, slots := 0, locals := 0 } : Room)) (mc := 0) (ms := 0) (av := [.ref o8, .int (nI m9)]) (D := (dC, dI)) (wc := [(o8, .inr (8, [.ref a8_0, .ref a8_1, .ref a8_2, .ref a8_3, .ref a8_4, .ref a8_5, .int v8_6, .ref a8_7, .ref a8_8, .ref a8_9, .ref a8_10, .ref a8_11, .int v8_12, .ref a8_13, .ref a8_14, .ref a8_15, .ref a8_16, .ref a8_17, .ref a8_18, .ref a8_19, .ref a8_20, .ref a8_21, .ref a8_22, .ref a8_23, .ref a8_24, .int v8_25, .int v8_26, .ref a8_27, .ref a8_28, .ref a8_29, .ref a8_30, .ref a8_31, .int v8_32, .int v8_33, .int v8_34, .int v8_35, .ref a8_36, .ref a8_37, .int v8_38, .int v8_39, .int v8_40, .ref a8_41, .ref a8_42, .int v8_43])), (a8_7, .inl (c8_7, 120, .inl f8_7)), (a8_8, .inl (c8_8, 120, .inl f8_8)), (a8_9, .inl (c8_9, 120, .inl f8_9)), (a8_10, .inl (c8_10, 120, .inl f8_10))]) (tc := [(c8_7, .int), (c8_8, .int), (c8_9, .int), (c8_10, .int)]) (sz := sz) (X := fun _ => True) (Qc := fun A => va_Qi (fun (r : Int32) (u : Unit) => r = (rR f8_7 f8_9 f8_10) m9) (KPost (dC, dI) A (fun (u : Unit) => [(o8, .inr (8, [.ref a8_0, .ref a8_1, .ref a8_2, .ref a8_3, .ref a8_4, .ref a8_5, .int v8_6, .ref a8_7, .ref a8_8, .ref a8_9, .ref a8_10, .ref a8_11, .int v8_12, .ref a8_13, .ref a8_14, .ref a8_15, .ref a8_16, .ref a8_17, .ref a8_18, .ref a8_19, .ref a8_20, .ref a8_21, .ref a8_22, .ref a8_23, .ref a8_24, .int v8_25, .int v8_26, .ref a8_27, .ref a8_28, .ref a8_29, .ref a8_30, .ref a8_31, .int v8_32, .int v8_33, .int v8_34, .int v8_35, .ref a8_36, .ref a8_37, .int v8_38, .int v8_39, .int v8_40, .ref a8_41, .ref a8_42, .int v8_43])), (a8_7, .inl (c8_7, 120, .inl f8_7)), (a8_8, .inl (c8_8, 120, .inl f8_8)), (a8_9, .inl (c8_9, 120, .inl f8_9)), (a8_10, .inl (c8_10, 120, .inl f8_10))])) A) (by decide) rfl (Nat.le_of_ble_eq_true rfl) ?_
  intro p e s m below meth c A ls E hr hlocks hnm hsz hAe hX h hl
  have hx := E.1
  have hb := E.2.1
  have hl : lv_has ls 3 [(0, .ref o8), (1, .int (nI m9))] := hl
  have hk9 := hK m9 hp
  refine lv_iconst (v := 0) hx hb dX8_reads_0 kic_0 ?_
  refine lv_istore_n (lv' := [(2, .int 0), (0, .ref o8), (1, .int (nI m9))]) hx hb dX8_reads_1 rfl hl (Nat.le_of_ble_eq_true rfl) rfl (fun ls hl => ?_)
  refine lv_aload_n hx hb dX8_reads_2 rfl (lv_at hl 1 rfl) ?_
  refine k_get (v := .ref a8_7) E h (fun w h => List.mem_cons_of_mem _ (List.mem_append_right _ h)) 0 rfl rfl 7 (Nat.le_of_ble_eq_true rfl) (List.mem_of_getElem? (i := 1) rfl) rfl dX8_reads_3 ?_
  refine lv_iload_n hx hb dX8_reads_6 rfl (lv_at hl 2 rfl) ?_
  refine k_iald (v := f8_7 m9) E h 1 0 rfl rfl (vp_in_nI (by omega) (by omega)) (by rw [nI_clamp (by omega)]) dX8_reads_7 ?_
  refine lv_iconst (v := 1) hx hb dX8_reads_8 kic_1 ?_
  refine lv_icmp_lt (tgt := 34) hx hb dX8_reads_9 rfl (fun c_1 => ?_) (fun c_1 => ?_)
  · skip
    have i_1 : (f8_7 m9).toInt < 1 := (fa_lt _ _).mp c_1
    refine lv_aload_n hx hb dX8_reads_34 rfl (lv_at hl 1 rfl) ?_
    refine k_get (v := .ref a8_7) E h (fun w h => List.mem_cons_of_mem _ (List.mem_append_right _ h)) 0 rfl rfl 7 (Nat.le_of_ble_eq_true rfl) (List.mem_of_getElem? (i := 1) rfl) rfl dX8_reads_35 ?_
    refine lv_iload_n hx hb dX8_reads_38 rfl (lv_at hl 2 rfl) ?_
    refine k_iald (v := f8_7 m9) E h 1 0 rfl rfl (vp_in_nI (by omega) (by omega)) (by rw [nI_clamp (by omega)]) dX8_reads_39 ?_
    refine lv_iconst (v := 2) hx hb dX8_reads_40 kic_2 ?_
    refine lv_icmp_lt (tgt := 54) hx hb dX8_reads_41 rfl (fun c_2 => ?_) (fun c_2 => ?_)
    · skip
      have i_2 : (f8_7 m9).toInt < 2 := (fa_lt _ _).mp c_2
      refine lv_aload_n hx hb dX8_reads_54 rfl (lv_at hl 1 rfl) ?_
      refine k_get (v := .ref a8_7) E h (fun w h => List.mem_cons_of_mem _ (List.mem_append_right _ h)) 0 rfl rfl 7 (Nat.le_of_ble_eq_true rfl) (List.mem_of_getElem? (i := 1) rfl) rfl dX8_reads_55 ?_
      refine lv_iload_n hx hb dX8_reads_58 rfl (lv_at hl 2 rfl) ?_
      refine k_iald (v := f8_7 m9) E h 1 0 rfl rfl (vp_in_nI (by omega) (by omega)) (by rw [nI_clamp (by omega)]) dX8_reads_59 ?_
      refine lv_bipush (v := 8) hx hb dX8_reads_60 kbi_8 ?_
      refine lv_icmp_ne (tgt := 76) hx hb dX8_reads_62 rfl (fun c_3 => ?_) (fun c_3 => ?_)
      · skip
        have i_3 : ¬ (f8_7 m9).toInt = 8 := fun h9 => c_3 ((fa_eq _ _).mpr h9)
        refine lv_aload_n hx hb dX8_reads_76 rfl (lv_at hl 1 rfl) ?_
        refine k_get (v := .ref a8_7) E h (fun w h => List.mem_cons_of_mem _ (List.mem_append_right _ h)) 0 rfl rfl 7 (Nat.le_of_ble_eq_true rfl) (List.mem_of_getElem? (i := 1) rfl) rfl dX8_reads_77 ?_
        refine lv_iload_n hx hb dX8_reads_80 rfl (lv_at hl 2 rfl) ?_
        refine k_iald (v := f8_7 m9) E h 1 0 rfl rfl (vp_in_nI (by omega) (by omega)) (by rw [nI_clamp (by omega)]) dX8_reads_81 ?_
        refine lv_bipush (v := 7) hx hb dX8_reads_82 kbi_7 ?_
        refine lv_icmp_ne (tgt := 93) hx hb dX8_reads_84 rfl (fun c_4 => ?_) (fun c_4 => ?_)
        · skip
          have i_4 : ¬ (f8_7 m9).toInt = 7 := fun h9 => c_4 ((fa_eq _ _).mpr h9)
          refine lv_aload_n hx hb dX8_reads_93 rfl (lv_at hl 1 rfl) ?_
          refine k_get (v := .ref a8_7) E h (fun w h => List.mem_cons_of_mem _ (List.mem_append_right _ h)) 0 rfl rfl 7 (Nat.le_of_ble_eq_true rfl) (List.mem_of_getElem? (i := 1) rfl) rfl dX8_reads_94 ?_
          refine lv_iload_n hx hb dX8_reads_97 rfl (lv_at hl 2 rfl) ?_
          refine k_iald (v := f8_7 m9) E h 1 0 rfl rfl (vp_in_nI (by omega) (by omega)) (by rw [nI_clamp (by omega)]) dX8_reads_98 ?_
          refine lv_bipush (v := 9) hx hb dX8_reads_99 kbi_9 ?_
          refine lv_icmp_lt (tgt := 118) hx hb dX8_reads_101 rfl (fun c_5 => ?_) (fun c_5 => ?_)
          · skip
            have i_5 : (f8_7 m9).toInt < 9 := (fa_lt _ _).mp c_5
            refine lv_iload_n hx hb dX8_reads_118 rfl (lv_at hl 0 rfl) ?_
            have hP9 := h.2.1.sub [0, 1, 2, 3, 4] rfl
            have hD9 := h.2.2.1.sub (ws' := [(o8, .inr (8, [.ref a8_0, .ref a8_1, .ref a8_2, .ref a8_3, .ref a8_4, .ref a8_5, .int v8_6, .ref a8_7, .ref a8_8, .ref a8_9, .ref a8_10, .ref a8_11, .int v8_12, .ref a8_13, .ref a8_14, .ref a8_15, .ref a8_16, .ref a8_17, .ref a8_18, .ref a8_19, .ref a8_20, .ref a8_21, .ref a8_22, .ref a8_23, .ref a8_24, .int v8_25, .int v8_26, .ref a8_27, .ref a8_28, .ref a8_29, .ref a8_30, .ref a8_31, .int v8_32, .int v8_33, .int v8_34, .int v8_35, .ref a8_36, .ref a8_37, .int v8_38, .int v8_39, .int v8_40, .ref a8_41, .ref a8_42, .int v8_43])), (a8_7, .inl (c8_7, 120, .inl f8_7)), (a8_8, .inl (c8_8, 120, .inl f8_8)), (a8_9, .inl (c8_9, 120, .inl f8_9)), (a8_10, .inl (c8_10, 120, .inl f8_10))]) [0, 1, 2, 3, 4] (by decide) rfl
            exact W.iret (v := 0) hx hb hr (fun t ht hW => ⟨⟨0, (), rfl, (by show _ = kRd (f8_7 m9) (f8_9 m9) (f8_10 m9); unfold kRd kOr; (repeat' split) <;> first | (with_reducible rfl) | (exfalso; omega) | rfl | omega), (by rw [ht]; exact hP9), hD9⟩, h.2.2.2.1.F ht⟩) h.2.2.2.1.2.2 dX8_reads_119 hlocks
          · skip
            have i_5 : ¬ (f8_7 m9).toInt < 9 := fun h9 => c_5 ((fa_lt _ _).mpr h9)
            exfalso; omega
        · skip
          have i_4 : (f8_7 m9).toInt = 7 := (fa_eq _ _).mp c_4
          exfalso; omega
      · skip
        have i_3 : (f8_7 m9).toInt = 8 := (fa_eq _ _).mp c_3
        exfalso; omega
    · skip
      have i_2 : ¬ (f8_7 m9).toInt < 2 := fun h9 => c_2 ((fa_lt _ _).mpr h9)
      exfalso; omega
  · skip
    have i_1 : ¬ (f8_7 m9).toInt < 1 := fun h9 => c_1 ((fa_lt _ _).mpr h9)
    refine lv_aload_n hx hb dX8_reads_12 rfl (lv_at hl 1 rfl) ?_
    refine k_get (v := .ref a8_7) E h (fun w h => List.mem_cons_of_mem _ (List.mem_append_right _ h)) 0 rfl rfl 7 (Nat.le_of_ble_eq_true rfl) (List.mem_of_getElem? (i := 1) rfl) rfl dX8_reads_13 ?_
    refine lv_iload_n hx hb dX8_reads_16 rfl (lv_at hl 2 rfl) ?_
    refine k_iald (v := f8_7 m9) E h 1 0 rfl rfl (vp_in_nI (by omega) (by omega)) (by rw [nI_clamp (by omega)]) dX8_reads_17 ?_
    refine lv_bipush (v := 8) hx hb dX8_reads_18 kbi_8 ?_
    refine lv_icmp_gt (tgt := 34) hx hb dX8_reads_20 rfl (fun c_21 => ?_) (fun c_21 => ?_)
    · skip
      have i_21 : 8 < (f8_7 m9).toInt := (fa_lt _ _).mp c_21
      refine lv_aload_n hx hb dX8_reads_34 rfl (lv_at hl 1 rfl) ?_
      refine k_get (v := .ref a8_7) E h (fun w h => List.mem_cons_of_mem _ (List.mem_append_right _ h)) 0 rfl rfl 7 (Nat.le_of_ble_eq_true rfl) (List.mem_of_getElem? (i := 1) rfl) rfl dX8_reads_35 ?_
      refine lv_iload_n hx hb dX8_reads_38 rfl (lv_at hl 2 rfl) ?_
      refine k_iald (v := f8_7 m9) E h 1 0 rfl rfl (vp_in_nI (by omega) (by omega)) (by rw [nI_clamp (by omega)]) dX8_reads_39 ?_
      refine lv_iconst (v := 2) hx hb dX8_reads_40 kic_2 ?_
      refine lv_icmp_lt (tgt := 54) hx hb dX8_reads_41 rfl (fun c_22 => ?_) (fun c_22 => ?_)
      · skip
        have i_22 : (f8_7 m9).toInt < 2 := (fa_lt _ _).mp c_22
        exfalso; omega
      · skip
        have i_22 : ¬ (f8_7 m9).toInt < 2 := fun h9 => c_22 ((fa_lt _ _).mpr h9)
        refine lv_aload_n hx hb dX8_reads_44 rfl (lv_at hl 1 rfl) ?_
        refine k_get (v := .ref a8_7) E h (fun w h => List.mem_cons_of_mem _ (List.mem_append_right _ h)) 0 rfl rfl 7 (Nat.le_of_ble_eq_true rfl) (List.mem_of_getElem? (i := 1) rfl) rfl dX8_reads_45 ?_
        refine lv_iload_n hx hb dX8_reads_48 rfl (lv_at hl 2 rfl) ?_
        refine k_iald (v := f8_7 m9) E h 1 0 rfl rfl (vp_in_nI (by omega) (by omega)) (by rw [nI_clamp (by omega)]) dX8_reads_49 ?_
        refine lv_iconst (v := 5) hx hb dX8_reads_50 kic_5 ?_
        refine lv_icmp_le (tgt := 65) hx hb dX8_reads_51 rfl (fun c_30 => ?_) (fun c_30 => ?_)
        · skip
          have i_30 : (f8_7 m9).toInt ≤ 5 := (fa_le _ _).mp c_30
          exfalso; omega
        · skip
          have i_30 : ¬ (f8_7 m9).toInt ≤ 5 := fun h9 => c_30 ((fa_le _ _).mpr h9)
          refine lv_aload_n hx hb dX8_reads_54 rfl (lv_at hl 1 rfl) ?_
          refine k_get (v := .ref a8_7) E h (fun w h => List.mem_cons_of_mem _ (List.mem_append_right _ h)) 0 rfl rfl 7 (Nat.le_of_ble_eq_true rfl) (List.mem_of_getElem? (i := 1) rfl) rfl dX8_reads_55 ?_
          refine lv_iload_n hx hb dX8_reads_58 rfl (lv_at hl 2 rfl) ?_
          refine k_iald (v := f8_7 m9) E h 1 0 rfl rfl (vp_in_nI (by omega) (by omega)) (by rw [nI_clamp (by omega)]) dX8_reads_59 ?_
          refine lv_bipush (v := 8) hx hb dX8_reads_60 kbi_8 ?_
          refine lv_icmp_ne (tgt := 76) hx hb dX8_reads_62 rfl (fun c_34 => ?_) (fun c_34 => ?_)
          · skip
            have i_34 : ¬ (f8_7 m9).toInt = 8 := fun h9 => c_34 ((fa_eq _ _).mpr h9)
            refine lv_aload_n hx hb dX8_reads_76 rfl (lv_at hl 1 rfl) ?_
            refine k_get (v := .ref a8_7) E h (fun w h => List.mem_cons_of_mem _ (List.mem_append_right _ h)) 0 rfl rfl 7 (Nat.le_of_ble_eq_true rfl) (List.mem_of_getElem? (i := 1) rfl) rfl dX8_reads_77 ?_
            refine lv_iload_n hx hb dX8_reads_80 rfl (lv_at hl 2 rfl) ?_
            refine k_iald (v := f8_7 m9) E h 1 0 rfl rfl (vp_in_nI (by omega) (by omega)) (by rw [nI_clamp (by omega)]) dX8_reads_81 ?_
            refine lv_bipush (v := 7) hx hb dX8_reads_82 kbi_7 ?_
            refine lv_icmp_ne (tgt := 93) hx hb dX8_reads_84 rfl (fun c_35 => ?_) (fun c_35 => ?_)
            · skip
              have i_35 : ¬ (f8_7 m9).toInt = 7 := fun h9 => c_35 ((fa_eq _ _).mpr h9)
              refine lv_aload_n hx hb dX8_reads_93 rfl (lv_at hl 1 rfl) ?_
              refine k_get (v := .ref a8_7) E h (fun w h => List.mem_cons_of_mem _ (List.mem_append_right _ h)) 0 rfl rfl 7 (Nat.le_of_ble_eq_true rfl) (List.mem_of_getElem? (i := 1) rfl) rfl dX8_reads_94 ?_
              refine lv_iload_n hx hb dX8_reads_97 rfl (lv_at hl 2 rfl) ?_
              refine k_iald (v := f8_7 m9) E h 1 0 rfl rfl (vp_in_nI (by omega) (by omega)) (by rw [nI_clamp (by omega)]) dX8_reads_98 ?_
              refine lv_bipush (v := 9) hx hb dX8_reads_99 kbi_9 ?_
              refine lv_icmp_lt (tgt := 118) hx hb dX8_reads_101 rfl (fun c_36 => ?_) (fun c_36 => ?_)
              · skip
                have i_36 : (f8_7 m9).toInt < 9 := (fa_lt _ _).mp c_36
                exfalso; omega
              · skip
                have i_36 : ¬ (f8_7 m9).toInt < 9 := fun h9 => c_36 ((fa_lt _ _).mpr h9)
                refine lv_iload_n hx hb dX8_reads_104 rfl (lv_at hl 0 rfl) ?_
                refine lv_iconst (v := 1) hx hb dX8_reads_105 kic_1 ?_
                refine lv_bipush (v := 8) hx hb dX8_reads_106 kbi_8 ?_
                refine lv_aload_n hx hb dX8_reads_108 rfl (lv_at hl 1 rfl) ?_
                refine k_get (v := .ref a8_9) E h (fun w h => List.mem_cons_of_mem _ (List.mem_append_right _ h)) 0 rfl rfl 9 (Nat.le_of_ble_eq_true rfl) (List.mem_of_getElem? (i := 2) rfl) rfl dX8_reads_109 ?_
                refine lv_iload_n hx hb dX8_reads_112 rfl (lv_at hl 2 rfl) ?_
                refine k_iald (v := f8_9 m9) E h 3 2 rfl rfl (vp_in_nI (by omega) (by omega)) (by rw [nI_clamp (by omega)]) dX8_reads_113 ?_
                refine lv_iadd hx hb dX8_reads_114 ?_
                refine lv_ishl hx hb dX8_reads_115 ?_
                refine lv_ior hx hb dX8_reads_116 ?_
                refine lv_istore_n (lv' := [(2, .int ((0 : Int32) ||| ((1 : Int32) <<< ((8 + (f8_9 m9)) &&& 31)))), (0, .ref o8), (1, .int (nI m9))]) hx hb dX8_reads_117 rfl hl (Nat.le_of_ble_eq_true rfl) rfl (fun ls hl => ?_)
                refine W.eq (g2 := F0 m 118 ls []) rfl ?_
                refine lv_iload_n hx hb dX8_reads_118 rfl (lv_at hl 0 rfl) ?_
                have hP9 := h.2.1.sub [0, 1, 2, 3, 4] rfl
                have hD9 := h.2.2.1.sub (ws' := [(o8, .inr (8, [.ref a8_0, .ref a8_1, .ref a8_2, .ref a8_3, .ref a8_4, .ref a8_5, .int v8_6, .ref a8_7, .ref a8_8, .ref a8_9, .ref a8_10, .ref a8_11, .int v8_12, .ref a8_13, .ref a8_14, .ref a8_15, .ref a8_16, .ref a8_17, .ref a8_18, .ref a8_19, .ref a8_20, .ref a8_21, .ref a8_22, .ref a8_23, .ref a8_24, .int v8_25, .int v8_26, .ref a8_27, .ref a8_28, .ref a8_29, .ref a8_30, .ref a8_31, .int v8_32, .int v8_33, .int v8_34, .int v8_35, .ref a8_36, .ref a8_37, .int v8_38, .int v8_39, .int v8_40, .ref a8_41, .ref a8_42, .int v8_43])), (a8_7, .inl (c8_7, 120, .inl f8_7)), (a8_8, .inl (c8_8, 120, .inl f8_8)), (a8_9, .inl (c8_9, 120, .inl f8_9)), (a8_10, .inl (c8_10, 120, .inl f8_10))]) [0, 1, 2, 3, 4] (by decide) rfl
                exact W.iret (v := (0 : Int32) ||| ((1 : Int32) <<< ((8 + (f8_9 m9)) &&& 31))) hx hb hr (fun t ht hW => ⟨⟨(0 : Int32) ||| ((1 : Int32) <<< ((8 + (f8_9 m9)) &&& 31)), (), rfl, (by show _ = kRd (f8_7 m9) (f8_9 m9) (f8_10 m9); unfold kRd kOr; (repeat' split) <;> first | (with_reducible rfl) | (exfalso; omega) | rfl | omega), (by rw [ht]; exact hP9), hD9⟩, h.2.2.2.1.F ht⟩) h.2.2.2.1.2.2 dX8_reads_119 hlocks
            · skip
              have i_35 : (f8_7 m9).toInt = 7 := (fa_eq _ _).mp c_35
              exfalso; omega
          · skip
            have i_34 : (f8_7 m9).toInt = 8 := (fa_eq _ _).mp c_34
            exfalso; omega
    · skip
      have i_21 : ¬ 8 < (f8_7 m9).toInt := fun h9 => c_21 ((fa_lt _ _).mpr h9)
      refine lv_iload_n hx hb dX8_reads_23 rfl (lv_at hl 0 rfl) ?_
      refine lv_iconst (v := 1) hx hb dX8_reads_24 kic_1 ?_
      refine lv_aload_n hx hb dX8_reads_25 rfl (lv_at hl 1 rfl) ?_
      refine k_get (v := .ref a8_9) E h (fun w h => List.mem_cons_of_mem _ (List.mem_append_right _ h)) 0 rfl rfl 9 (Nat.le_of_ble_eq_true rfl) (List.mem_of_getElem? (i := 2) rfl) rfl dX8_reads_26 ?_
      refine lv_iload_n hx hb dX8_reads_29 rfl (lv_at hl 2 rfl) ?_
      refine k_iald (v := f8_9 m9) E h 3 2 rfl rfl (vp_in_nI (by omega) (by omega)) (by rw [nI_clamp (by omega)]) dX8_reads_30 ?_
      refine lv_ishl hx hb dX8_reads_31 ?_
      refine lv_ior hx hb dX8_reads_32 ?_
      refine lv_istore_n (lv' := [(2, .int ((0 : Int32) ||| ((1 : Int32) <<< ((f8_9 m9) &&& 31)))), (0, .ref o8), (1, .int (nI m9))]) hx hb dX8_reads_33 rfl hl (Nat.le_of_ble_eq_true rfl) rfl (fun ls hl => ?_)
      refine lv_aload_n hx hb dX8_reads_34 rfl (lv_at hl 1 rfl) ?_
      refine k_get (v := .ref a8_7) E h (fun w h => List.mem_cons_of_mem _ (List.mem_append_right _ h)) 0 rfl rfl 7 (Nat.le_of_ble_eq_true rfl) (List.mem_of_getElem? (i := 1) rfl) rfl dX8_reads_35 ?_
      refine W.eq (g2 := F0 m 38 ls [.ref a8_7]) rfl ?_
      refine lv_iload_n hx hb dX8_reads_38 rfl (lv_at hl 2 rfl) ?_
      refine k_iald (v := f8_7 m9) E h 1 0 rfl rfl (vp_in_nI (by omega) (by omega)) (by rw [nI_clamp (by omega)]) dX8_reads_39 ?_
      refine lv_iconst (v := 2) hx hb dX8_reads_40 kic_2 ?_
      refine lv_icmp_lt (tgt := 54) hx hb dX8_reads_41 rfl (fun c_41 => ?_) (fun c_41 => ?_)
      · skip
        have i_41 : (f8_7 m9).toInt < 2 := (fa_lt _ _).mp c_41
        refine lv_aload_n hx hb dX8_reads_54 rfl (lv_at hl 1 rfl) ?_
        refine k_get (v := .ref a8_7) E h (fun w h => List.mem_cons_of_mem _ (List.mem_append_right _ h)) 0 rfl rfl 7 (Nat.le_of_ble_eq_true rfl) (List.mem_of_getElem? (i := 1) rfl) rfl dX8_reads_55 ?_
        refine lv_iload_n hx hb dX8_reads_58 rfl (lv_at hl 2 rfl) ?_
        refine k_iald (v := f8_7 m9) E h 1 0 rfl rfl (vp_in_nI (by omega) (by omega)) (by rw [nI_clamp (by omega)]) dX8_reads_59 ?_
        refine lv_bipush (v := 8) hx hb dX8_reads_60 kbi_8 ?_
        refine lv_icmp_ne (tgt := 76) hx hb dX8_reads_62 rfl (fun c_42 => ?_) (fun c_42 => ?_)
        · skip
          have i_42 : ¬ (f8_7 m9).toInt = 8 := fun h9 => c_42 ((fa_eq _ _).mpr h9)
          refine lv_aload_n hx hb dX8_reads_76 rfl (lv_at hl 1 rfl) ?_
          refine k_get (v := .ref a8_7) E h (fun w h => List.mem_cons_of_mem _ (List.mem_append_right _ h)) 0 rfl rfl 7 (Nat.le_of_ble_eq_true rfl) (List.mem_of_getElem? (i := 1) rfl) rfl dX8_reads_77 ?_
          refine lv_iload_n hx hb dX8_reads_80 rfl (lv_at hl 2 rfl) ?_
          refine k_iald (v := f8_7 m9) E h 1 0 rfl rfl (vp_in_nI (by omega) (by omega)) (by rw [nI_clamp (by omega)]) dX8_reads_81 ?_
          refine lv_bipush (v := 7) hx hb dX8_reads_82 kbi_7 ?_
          refine lv_icmp_ne (tgt := 93) hx hb dX8_reads_84 rfl (fun c_43 => ?_) (fun c_43 => ?_)
          · skip
            have i_43 : ¬ (f8_7 m9).toInt = 7 := fun h9 => c_43 ((fa_eq _ _).mpr h9)
            refine lv_aload_n hx hb dX8_reads_93 rfl (lv_at hl 1 rfl) ?_
            refine k_get (v := .ref a8_7) E h (fun w h => List.mem_cons_of_mem _ (List.mem_append_right _ h)) 0 rfl rfl 7 (Nat.le_of_ble_eq_true rfl) (List.mem_of_getElem? (i := 1) rfl) rfl dX8_reads_94 ?_
            refine lv_iload_n hx hb dX8_reads_97 rfl (lv_at hl 2 rfl) ?_
            refine k_iald (v := f8_7 m9) E h 1 0 rfl rfl (vp_in_nI (by omega) (by omega)) (by rw [nI_clamp (by omega)]) dX8_reads_98 ?_
            refine lv_bipush (v := 9) hx hb dX8_reads_99 kbi_9 ?_
            refine lv_icmp_lt (tgt := 118) hx hb dX8_reads_101 rfl (fun c_44 => ?_) (fun c_44 => ?_)
            · skip
              have i_44 : (f8_7 m9).toInt < 9 := (fa_lt _ _).mp c_44
              refine lv_iload_n hx hb dX8_reads_118 rfl (lv_at hl 0 rfl) ?_
              have hP9 := h.2.1.sub [0, 1, 2, 3, 4] rfl
              have hD9 := h.2.2.1.sub (ws' := [(o8, .inr (8, [.ref a8_0, .ref a8_1, .ref a8_2, .ref a8_3, .ref a8_4, .ref a8_5, .int v8_6, .ref a8_7, .ref a8_8, .ref a8_9, .ref a8_10, .ref a8_11, .int v8_12, .ref a8_13, .ref a8_14, .ref a8_15, .ref a8_16, .ref a8_17, .ref a8_18, .ref a8_19, .ref a8_20, .ref a8_21, .ref a8_22, .ref a8_23, .ref a8_24, .int v8_25, .int v8_26, .ref a8_27, .ref a8_28, .ref a8_29, .ref a8_30, .ref a8_31, .int v8_32, .int v8_33, .int v8_34, .int v8_35, .ref a8_36, .ref a8_37, .int v8_38, .int v8_39, .int v8_40, .ref a8_41, .ref a8_42, .int v8_43])), (a8_7, .inl (c8_7, 120, .inl f8_7)), (a8_8, .inl (c8_8, 120, .inl f8_8)), (a8_9, .inl (c8_9, 120, .inl f8_9)), (a8_10, .inl (c8_10, 120, .inl f8_10))]) [0, 1, 2, 3, 4] (by decide) rfl
              exact W.iret (v := (0 : Int32) ||| ((1 : Int32) <<< ((f8_9 m9) &&& 31))) hx hb hr (fun t ht hW => ⟨⟨(0 : Int32) ||| ((1 : Int32) <<< ((f8_9 m9) &&& 31)), (), rfl, (by show _ = kRd (f8_7 m9) (f8_9 m9) (f8_10 m9); unfold kRd kOr; (repeat' split) <;> first | (with_reducible rfl) | (exfalso; omega) | rfl | omega), (by rw [ht]; exact hP9), hD9⟩, h.2.2.2.1.F ht⟩) h.2.2.2.1.2.2 dX8_reads_119 hlocks
            · skip
              have i_44 : ¬ (f8_7 m9).toInt < 9 := fun h9 => c_44 ((fa_lt _ _).mpr h9)
              exfalso; omega
          · skip
            have i_43 : (f8_7 m9).toInt = 7 := (fa_eq _ _).mp c_43
            exfalso; omega
        · skip
          have i_42 : (f8_7 m9).toInt = 8 := (fa_eq _ _).mp c_42
          exfalso; omega
      · skip
        have i_41 : ¬ (f8_7 m9).toInt < 2 := fun h9 => c_41 ((fa_lt _ _).mpr h9)
        refine lv_aload_n hx hb dX8_reads_44 rfl (lv_at hl 1 rfl) ?_
        refine k_get (v := .ref a8_7) E h (fun w h => List.mem_cons_of_mem _ (List.mem_append_right _ h)) 0 rfl rfl 7 (Nat.le_of_ble_eq_true rfl) (List.mem_of_getElem? (i := 1) rfl) rfl dX8_reads_45 ?_
        refine lv_iload_n hx hb dX8_reads_48 rfl (lv_at hl 2 rfl) ?_
        refine k_iald (v := f8_7 m9) E h 1 0 rfl rfl (vp_in_nI (by omega) (by omega)) (by rw [nI_clamp (by omega)]) dX8_reads_49 ?_
        refine lv_iconst (v := 5) hx hb dX8_reads_50 kic_5 ?_
        refine lv_icmp_le (tgt := 65) hx hb dX8_reads_51 rfl (fun c_49 => ?_) (fun c_49 => ?_)
        · skip
          have i_49 : (f8_7 m9).toInt ≤ 5 := (fa_le _ _).mp c_49
          refine lv_iload_n hx hb dX8_reads_65 rfl (lv_at hl 0 rfl) ?_
          refine lv_iconst (v := 1) hx hb dX8_reads_66 kic_1 ?_
          refine lv_aload_n hx hb dX8_reads_67 rfl (lv_at hl 1 rfl) ?_
          refine k_get (v := .ref a8_10) E h (fun w h => List.mem_cons_of_mem _ (List.mem_append_right _ h)) 0 rfl rfl 10 (Nat.le_of_ble_eq_true rfl) (List.mem_of_getElem? (i := 3) rfl) rfl dX8_reads_68 ?_
          refine lv_iload_n hx hb dX8_reads_71 rfl (lv_at hl 2 rfl) ?_
          refine k_iald (v := f8_10 m9) E h 4 3 rfl rfl (vp_in_nI (by omega) (by omega)) (by rw [nI_clamp (by omega)]) dX8_reads_72 ?_
          refine lv_ishl hx hb dX8_reads_73 ?_
          refine lv_ior hx hb dX8_reads_74 ?_
          refine lv_istore_n (lv' := [(2, .int (((0 : Int32) ||| ((1 : Int32) <<< ((f8_9 m9) &&& 31))) ||| ((1 : Int32) <<< ((f8_10 m9) &&& 31)))), (0, .ref o8), (1, .int (nI m9))]) hx hb dX8_reads_75 rfl hl (Nat.le_of_ble_eq_true rfl) rfl (fun ls hl => ?_)
          refine lv_aload_n hx hb dX8_reads_76 rfl (lv_at hl 1 rfl) ?_
          refine k_get (v := .ref a8_7) E h (fun w h => List.mem_cons_of_mem _ (List.mem_append_right _ h)) 0 rfl rfl 7 (Nat.le_of_ble_eq_true rfl) (List.mem_of_getElem? (i := 1) rfl) rfl dX8_reads_77 ?_
          refine W.eq (g2 := F0 m 80 ls [.ref a8_7]) rfl ?_
          refine lv_iload_n hx hb dX8_reads_80 rfl (lv_at hl 2 rfl) ?_
          refine k_iald (v := f8_7 m9) E h 1 0 rfl rfl (vp_in_nI (by omega) (by omega)) (by rw [nI_clamp (by omega)]) dX8_reads_81 ?_
          refine lv_bipush (v := 7) hx hb dX8_reads_82 kbi_7 ?_
          refine lv_icmp_ne (tgt := 93) hx hb dX8_reads_84 rfl (fun c_50 => ?_) (fun c_50 => ?_)
          · skip
            have i_50 : ¬ (f8_7 m9).toInt = 7 := fun h9 => c_50 ((fa_eq _ _).mpr h9)
            refine lv_aload_n hx hb dX8_reads_93 rfl (lv_at hl 1 rfl) ?_
            refine k_get (v := .ref a8_7) E h (fun w h => List.mem_cons_of_mem _ (List.mem_append_right _ h)) 0 rfl rfl 7 (Nat.le_of_ble_eq_true rfl) (List.mem_of_getElem? (i := 1) rfl) rfl dX8_reads_94 ?_
            refine lv_iload_n hx hb dX8_reads_97 rfl (lv_at hl 2 rfl) ?_
            refine k_iald (v := f8_7 m9) E h 1 0 rfl rfl (vp_in_nI (by omega) (by omega)) (by rw [nI_clamp (by omega)]) dX8_reads_98 ?_
            refine lv_bipush (v := 9) hx hb dX8_reads_99 kbi_9 ?_
            refine lv_icmp_lt (tgt := 118) hx hb dX8_reads_101 rfl (fun c_51 => ?_) (fun c_51 => ?_)
            · skip
              have i_51 : (f8_7 m9).toInt < 9 := (fa_lt _ _).mp c_51
              refine lv_iload_n hx hb dX8_reads_118 rfl (lv_at hl 0 rfl) ?_
              have hP9 := h.2.1.sub [0, 1, 2, 3, 4] rfl
              have hD9 := h.2.2.1.sub (ws' := [(o8, .inr (8, [.ref a8_0, .ref a8_1, .ref a8_2, .ref a8_3, .ref a8_4, .ref a8_5, .int v8_6, .ref a8_7, .ref a8_8, .ref a8_9, .ref a8_10, .ref a8_11, .int v8_12, .ref a8_13, .ref a8_14, .ref a8_15, .ref a8_16, .ref a8_17, .ref a8_18, .ref a8_19, .ref a8_20, .ref a8_21, .ref a8_22, .ref a8_23, .ref a8_24, .int v8_25, .int v8_26, .ref a8_27, .ref a8_28, .ref a8_29, .ref a8_30, .ref a8_31, .int v8_32, .int v8_33, .int v8_34, .int v8_35, .ref a8_36, .ref a8_37, .int v8_38, .int v8_39, .int v8_40, .ref a8_41, .ref a8_42, .int v8_43])), (a8_7, .inl (c8_7, 120, .inl f8_7)), (a8_8, .inl (c8_8, 120, .inl f8_8)), (a8_9, .inl (c8_9, 120, .inl f8_9)), (a8_10, .inl (c8_10, 120, .inl f8_10))]) [0, 1, 2, 3, 4] (by decide) rfl
              exact W.iret (v := ((0 : Int32) ||| ((1 : Int32) <<< ((f8_9 m9) &&& 31))) ||| ((1 : Int32) <<< ((f8_10 m9) &&& 31))) hx hb hr (fun t ht hW => ⟨⟨((0 : Int32) ||| ((1 : Int32) <<< ((f8_9 m9) &&& 31))) ||| ((1 : Int32) <<< ((f8_10 m9) &&& 31)), (), rfl, (by show _ = kRd (f8_7 m9) (f8_9 m9) (f8_10 m9); unfold kRd kOr; (repeat' split) <;> first | (with_reducible rfl) | (exfalso; omega) | rfl | omega), (by rw [ht]; exact hP9), hD9⟩, h.2.2.2.1.F ht⟩) h.2.2.2.1.2.2 dX8_reads_119 hlocks
            · skip
              have i_51 : ¬ (f8_7 m9).toInt < 9 := fun h9 => c_51 ((fa_lt _ _).mpr h9)
              exfalso; omega
          · skip
            have i_50 : (f8_7 m9).toInt = 7 := (fa_eq _ _).mp c_50
            exfalso; omega
        · skip
          have i_49 : ¬ (f8_7 m9).toInt ≤ 5 := fun h9 => c_49 ((fa_le _ _).mpr h9)
          refine lv_aload_n hx hb dX8_reads_54 rfl (lv_at hl 1 rfl) ?_
          refine k_get (v := .ref a8_7) E h (fun w h => List.mem_cons_of_mem _ (List.mem_append_right _ h)) 0 rfl rfl 7 (Nat.le_of_ble_eq_true rfl) (List.mem_of_getElem? (i := 1) rfl) rfl dX8_reads_55 ?_
          refine lv_iload_n hx hb dX8_reads_58 rfl (lv_at hl 2 rfl) ?_
          refine k_iald (v := f8_7 m9) E h 1 0 rfl rfl (vp_in_nI (by omega) (by omega)) (by rw [nI_clamp (by omega)]) dX8_reads_59 ?_
          refine lv_bipush (v := 8) hx hb dX8_reads_60 kbi_8 ?_
          refine lv_icmp_ne (tgt := 76) hx hb dX8_reads_62 rfl (fun c_53 => ?_) (fun c_53 => ?_)
          · skip
            have i_53 : ¬ (f8_7 m9).toInt = 8 := fun h9 => c_53 ((fa_eq _ _).mpr h9)
            refine lv_aload_n hx hb dX8_reads_76 rfl (lv_at hl 1 rfl) ?_
            refine k_get (v := .ref a8_7) E h (fun w h => List.mem_cons_of_mem _ (List.mem_append_right _ h)) 0 rfl rfl 7 (Nat.le_of_ble_eq_true rfl) (List.mem_of_getElem? (i := 1) rfl) rfl dX8_reads_77 ?_
            refine lv_iload_n hx hb dX8_reads_80 rfl (lv_at hl 2 rfl) ?_
            refine k_iald (v := f8_7 m9) E h 1 0 rfl rfl (vp_in_nI (by omega) (by omega)) (by rw [nI_clamp (by omega)]) dX8_reads_81 ?_
            refine lv_bipush (v := 7) hx hb dX8_reads_82 kbi_7 ?_
            refine lv_icmp_ne (tgt := 93) hx hb dX8_reads_84 rfl (fun c_54 => ?_) (fun c_54 => ?_)
            · skip
              have i_54 : ¬ (f8_7 m9).toInt = 7 := fun h9 => c_54 ((fa_eq _ _).mpr h9)
              refine lv_aload_n hx hb dX8_reads_93 rfl (lv_at hl 1 rfl) ?_
              refine k_get (v := .ref a8_7) E h (fun w h => List.mem_cons_of_mem _ (List.mem_append_right _ h)) 0 rfl rfl 7 (Nat.le_of_ble_eq_true rfl) (List.mem_of_getElem? (i := 1) rfl) rfl dX8_reads_94 ?_
              refine lv_iload_n hx hb dX8_reads_97 rfl (lv_at hl 2 rfl) ?_
              refine k_iald (v := f8_7 m9) E h 1 0 rfl rfl (vp_in_nI (by omega) (by omega)) (by rw [nI_clamp (by omega)]) dX8_reads_98 ?_
              refine lv_bipush (v := 9) hx hb dX8_reads_99 kbi_9 ?_
              refine lv_icmp_lt (tgt := 118) hx hb dX8_reads_101 rfl (fun c_55 => ?_) (fun c_55 => ?_)
              · skip
                have i_55 : (f8_7 m9).toInt < 9 := (fa_lt _ _).mp c_55
                refine lv_iload_n hx hb dX8_reads_118 rfl (lv_at hl 0 rfl) ?_
                have hP9 := h.2.1.sub [0, 1, 2, 3, 4] rfl
                have hD9 := h.2.2.1.sub (ws' := [(o8, .inr (8, [.ref a8_0, .ref a8_1, .ref a8_2, .ref a8_3, .ref a8_4, .ref a8_5, .int v8_6, .ref a8_7, .ref a8_8, .ref a8_9, .ref a8_10, .ref a8_11, .int v8_12, .ref a8_13, .ref a8_14, .ref a8_15, .ref a8_16, .ref a8_17, .ref a8_18, .ref a8_19, .ref a8_20, .ref a8_21, .ref a8_22, .ref a8_23, .ref a8_24, .int v8_25, .int v8_26, .ref a8_27, .ref a8_28, .ref a8_29, .ref a8_30, .ref a8_31, .int v8_32, .int v8_33, .int v8_34, .int v8_35, .ref a8_36, .ref a8_37, .int v8_38, .int v8_39, .int v8_40, .ref a8_41, .ref a8_42, .int v8_43])), (a8_7, .inl (c8_7, 120, .inl f8_7)), (a8_8, .inl (c8_8, 120, .inl f8_8)), (a8_9, .inl (c8_9, 120, .inl f8_9)), (a8_10, .inl (c8_10, 120, .inl f8_10))]) [0, 1, 2, 3, 4] (by decide) rfl
                exact W.iret (v := (0 : Int32) ||| ((1 : Int32) <<< ((f8_9 m9) &&& 31))) hx hb hr (fun t ht hW => ⟨⟨(0 : Int32) ||| ((1 : Int32) <<< ((f8_9 m9) &&& 31)), (), rfl, (by show _ = kRd (f8_7 m9) (f8_9 m9) (f8_10 m9); unfold kRd kOr; (repeat' split) <;> first | (with_reducible rfl) | (exfalso; omega) | rfl | omega), (by rw [ht]; exact hP9), hD9⟩, h.2.2.2.1.F ht⟩) h.2.2.2.1.2.2 dX8_reads_119 hlocks
              · skip
                have i_55 : ¬ (f8_7 m9).toInt < 9 := fun h9 => c_55 ((fa_lt _ _).mpr h9)
                exfalso; omega
            · skip
              have i_54 : (f8_7 m9).toInt = 7 := (fa_eq _ _).mp c_54
              refine lv_iload_n hx hb dX8_reads_87 rfl (lv_at hl 0 rfl) ?_
              refine lv_sipush (v := 1024) hx hb dX8_reads_88 ksi_1024 ?_
              refine lv_ior hx hb dX8_reads_91 ?_
              refine lv_istore_n (lv' := [(2, .int (((0 : Int32) ||| ((1 : Int32) <<< ((f8_9 m9) &&& 31))) ||| (1024 : Int32))), (0, .ref o8), (1, .int (nI m9))]) hx hb dX8_reads_92 rfl hl (Nat.le_of_ble_eq_true rfl) rfl (fun ls hl => ?_)
              refine lv_aload_n hx hb dX8_reads_93 rfl (lv_at hl 1 rfl) ?_
              refine k_get (v := .ref a8_7) E h (fun w h => List.mem_cons_of_mem _ (List.mem_append_right _ h)) 0 rfl rfl 7 (Nat.le_of_ble_eq_true rfl) (List.mem_of_getElem? (i := 1) rfl) rfl dX8_reads_94 ?_
              refine lv_iload_n hx hb dX8_reads_97 rfl (lv_at hl 2 rfl) ?_
              refine k_iald (v := f8_7 m9) E h 1 0 rfl rfl (vp_in_nI (by omega) (by omega)) (by rw [nI_clamp (by omega)]) dX8_reads_98 ?_
              refine lv_bipush (v := 9) hx hb dX8_reads_99 kbi_9 ?_
              refine lv_icmp_lt (tgt := 118) hx hb dX8_reads_101 rfl (fun c_56 => ?_) (fun c_56 => ?_)
              · skip
                have i_56 : (f8_7 m9).toInt < 9 := (fa_lt _ _).mp c_56
                refine lv_iload_n hx hb dX8_reads_118 rfl (lv_at hl 0 rfl) ?_
                have hP9 := h.2.1.sub [0, 1, 2, 3, 4] rfl
                have hD9 := h.2.2.1.sub (ws' := [(o8, .inr (8, [.ref a8_0, .ref a8_1, .ref a8_2, .ref a8_3, .ref a8_4, .ref a8_5, .int v8_6, .ref a8_7, .ref a8_8, .ref a8_9, .ref a8_10, .ref a8_11, .int v8_12, .ref a8_13, .ref a8_14, .ref a8_15, .ref a8_16, .ref a8_17, .ref a8_18, .ref a8_19, .ref a8_20, .ref a8_21, .ref a8_22, .ref a8_23, .ref a8_24, .int v8_25, .int v8_26, .ref a8_27, .ref a8_28, .ref a8_29, .ref a8_30, .ref a8_31, .int v8_32, .int v8_33, .int v8_34, .int v8_35, .ref a8_36, .ref a8_37, .int v8_38, .int v8_39, .int v8_40, .ref a8_41, .ref a8_42, .int v8_43])), (a8_7, .inl (c8_7, 120, .inl f8_7)), (a8_8, .inl (c8_8, 120, .inl f8_8)), (a8_9, .inl (c8_9, 120, .inl f8_9)), (a8_10, .inl (c8_10, 120, .inl f8_10))]) [0, 1, 2, 3, 4] (by decide) rfl
                exact W.iret (v := ((0 : Int32) ||| ((1 : Int32) <<< ((f8_9 m9) &&& 31))) ||| (1024 : Int32)) hx hb hr (fun t ht hW => ⟨⟨((0 : Int32) ||| ((1 : Int32) <<< ((f8_9 m9) &&& 31))) ||| (1024 : Int32), (), rfl, (by show _ = kRd (f8_7 m9) (f8_9 m9) (f8_10 m9); unfold kRd kOr; (repeat' split) <;> first | (with_reducible rfl) | (exfalso; omega) | rfl | omega), (by rw [ht]; exact hP9), hD9⟩, h.2.2.2.1.F ht⟩) h.2.2.2.1.2.2 dX8_reads_119 hlocks
              · skip
                have i_56 : ¬ (f8_7 m9).toInt < 9 := fun h9 => c_56 ((fa_lt _ _).mpr h9)
                exfalso; omega
          · skip
            have i_53 : (f8_7 m9).toInt = 8 := (fa_eq _ _).mp c_53
            refine lv_iload_n hx hb dX8_reads_65 rfl (lv_at hl 0 rfl) ?_
            refine lv_iconst (v := 1) hx hb dX8_reads_66 kic_1 ?_
            refine lv_aload_n hx hb dX8_reads_67 rfl (lv_at hl 1 rfl) ?_
            refine k_get (v := .ref a8_10) E h (fun w h => List.mem_cons_of_mem _ (List.mem_append_right _ h)) 0 rfl rfl 10 (Nat.le_of_ble_eq_true rfl) (List.mem_of_getElem? (i := 3) rfl) rfl dX8_reads_68 ?_
            refine lv_iload_n hx hb dX8_reads_71 rfl (lv_at hl 2 rfl) ?_
            refine k_iald (v := f8_10 m9) E h 4 3 rfl rfl (vp_in_nI (by omega) (by omega)) (by rw [nI_clamp (by omega)]) dX8_reads_72 ?_
            refine lv_ishl hx hb dX8_reads_73 ?_
            refine lv_ior hx hb dX8_reads_74 ?_
            refine lv_istore_n (lv' := [(2, .int (((0 : Int32) ||| ((1 : Int32) <<< ((f8_9 m9) &&& 31))) ||| ((1 : Int32) <<< ((f8_10 m9) &&& 31)))), (0, .ref o8), (1, .int (nI m9))]) hx hb dX8_reads_75 rfl hl (Nat.le_of_ble_eq_true rfl) rfl (fun ls hl => ?_)
            refine lv_aload_n hx hb dX8_reads_76 rfl (lv_at hl 1 rfl) ?_
            refine k_get (v := .ref a8_7) E h (fun w h => List.mem_cons_of_mem _ (List.mem_append_right _ h)) 0 rfl rfl 7 (Nat.le_of_ble_eq_true rfl) (List.mem_of_getElem? (i := 1) rfl) rfl dX8_reads_77 ?_
            refine W.eq (g2 := F0 m 80 ls [.ref a8_7]) rfl ?_
            refine lv_iload_n hx hb dX8_reads_80 rfl (lv_at hl 2 rfl) ?_
            refine k_iald (v := f8_7 m9) E h 1 0 rfl rfl (vp_in_nI (by omega) (by omega)) (by rw [nI_clamp (by omega)]) dX8_reads_81 ?_
            refine lv_bipush (v := 7) hx hb dX8_reads_82 kbi_7 ?_
            refine lv_icmp_ne (tgt := 93) hx hb dX8_reads_84 rfl (fun c_57 => ?_) (fun c_57 => ?_)
            · skip
              have i_57 : ¬ (f8_7 m9).toInt = 7 := fun h9 => c_57 ((fa_eq _ _).mpr h9)
              refine lv_aload_n hx hb dX8_reads_93 rfl (lv_at hl 1 rfl) ?_
              refine k_get (v := .ref a8_7) E h (fun w h => List.mem_cons_of_mem _ (List.mem_append_right _ h)) 0 rfl rfl 7 (Nat.le_of_ble_eq_true rfl) (List.mem_of_getElem? (i := 1) rfl) rfl dX8_reads_94 ?_
              refine lv_iload_n hx hb dX8_reads_97 rfl (lv_at hl 2 rfl) ?_
              refine k_iald (v := f8_7 m9) E h 1 0 rfl rfl (vp_in_nI (by omega) (by omega)) (by rw [nI_clamp (by omega)]) dX8_reads_98 ?_
              refine lv_bipush (v := 9) hx hb dX8_reads_99 kbi_9 ?_
              refine lv_icmp_lt (tgt := 118) hx hb dX8_reads_101 rfl (fun c_58 => ?_) (fun c_58 => ?_)
              · skip
                have i_58 : (f8_7 m9).toInt < 9 := (fa_lt _ _).mp c_58
                refine lv_iload_n hx hb dX8_reads_118 rfl (lv_at hl 0 rfl) ?_
                have hP9 := h.2.1.sub [0, 1, 2, 3, 4] rfl
                have hD9 := h.2.2.1.sub (ws' := [(o8, .inr (8, [.ref a8_0, .ref a8_1, .ref a8_2, .ref a8_3, .ref a8_4, .ref a8_5, .int v8_6, .ref a8_7, .ref a8_8, .ref a8_9, .ref a8_10, .ref a8_11, .int v8_12, .ref a8_13, .ref a8_14, .ref a8_15, .ref a8_16, .ref a8_17, .ref a8_18, .ref a8_19, .ref a8_20, .ref a8_21, .ref a8_22, .ref a8_23, .ref a8_24, .int v8_25, .int v8_26, .ref a8_27, .ref a8_28, .ref a8_29, .ref a8_30, .ref a8_31, .int v8_32, .int v8_33, .int v8_34, .int v8_35, .ref a8_36, .ref a8_37, .int v8_38, .int v8_39, .int v8_40, .ref a8_41, .ref a8_42, .int v8_43])), (a8_7, .inl (c8_7, 120, .inl f8_7)), (a8_8, .inl (c8_8, 120, .inl f8_8)), (a8_9, .inl (c8_9, 120, .inl f8_9)), (a8_10, .inl (c8_10, 120, .inl f8_10))]) [0, 1, 2, 3, 4] (by decide) rfl
                exact W.iret (v := ((0 : Int32) ||| ((1 : Int32) <<< ((f8_9 m9) &&& 31))) ||| ((1 : Int32) <<< ((f8_10 m9) &&& 31))) hx hb hr (fun t ht hW => ⟨⟨((0 : Int32) ||| ((1 : Int32) <<< ((f8_9 m9) &&& 31))) ||| ((1 : Int32) <<< ((f8_10 m9) &&& 31)), (), rfl, (by show _ = kRd (f8_7 m9) (f8_9 m9) (f8_10 m9); unfold kRd kOr; (repeat' split) <;> first | (with_reducible rfl) | (exfalso; omega) | rfl | omega), (by rw [ht]; exact hP9), hD9⟩, h.2.2.2.1.F ht⟩) h.2.2.2.1.2.2 dX8_reads_119 hlocks
              · skip
                have i_58 : ¬ (f8_7 m9).toInt < 9 := fun h9 => c_58 ((fa_lt _ _).mpr h9)
                exfalso; omega
            · skip
              have i_57 : (f8_7 m9).toInt = 7 := (fa_eq _ _).mp c_57
              exfalso; omega
set_option maxHeartbeats 4000000 in
set_option maxRecDepth 100000 in
theorem c_writesN (l : Launch) (dC : Nat → ClassId) (dI : Nat → Nat → Nat) (sz : Nat) (o8 : Nat) (a8_0 : Nat) (a8_1 : Nat) (a8_2 : Nat) (a8_3 : Nat) (a8_4 : Nat) (a8_5 : Nat) (v8_6 : Int32) (a8_7 : Nat) (a8_8 : Nat) (a8_9 : Nat) (a8_10 : Nat) (a8_11 : Nat) (v8_12 : Int32) (a8_13 : Nat) (a8_14 : Nat) (a8_15 : Nat) (a8_16 : Nat) (a8_17 : Nat) (a8_18 : Nat) (a8_19 : Nat) (a8_20 : Nat) (a8_21 : Nat) (a8_22 : Nat) (a8_23 : Nat) (a8_24 : Nat) (v8_25 : Int32) (v8_26 : Int32) (a8_27 : Nat) (a8_28 : Nat) (a8_29 : Nat) (a8_30 : Nat) (a8_31 : Nat) (v8_32 : Int32) (v8_33 : Int32) (v8_34 : Int32) (v8_35 : Int32) (a8_36 : Nat) (a8_37 : Nat) (v8_38 : Int32) (v8_39 : Int32) (v8_40 : Int32) (a8_41 : Nat) (a8_42 : Nat) (v8_43 : Int32) (c8_7 : ClassId) (f8_7 : Nat → Int32) (c8_8 : ClassId) (f8_8 : Nat → Int32) (c8_9 : ClassId) (f8_9 : Nat → Int32) (c8_10 : ClassId) (f8_10 : Nat → Int32) (m9 : Nat) (hK : IK f8_7) (hp : m9 < 120) : Met l yX8_writes wsX8_writes ({ frames := 1, cells := 0, slots := 0, locals := 20 } : Room) (va_Pc [.ref o8, .int (nI m9)] (KPre (dC, dI) [(o8, .inr (8, [.ref a8_0, .ref a8_1, .ref a8_2, .ref a8_3, .ref a8_4, .ref a8_5, .int v8_6, .ref a8_7, .ref a8_8, .ref a8_9, .ref a8_10, .ref a8_11, .int v8_12, .ref a8_13, .ref a8_14, .ref a8_15, .ref a8_16, .ref a8_17, .ref a8_18, .ref a8_19, .ref a8_20, .ref a8_21, .ref a8_22, .ref a8_23, .ref a8_24, .int v8_25, .int v8_26, .ref a8_27, .ref a8_28, .ref a8_29, .ref a8_30, .ref a8_31, .int v8_32, .int v8_33, .int v8_34, .int v8_35, .ref a8_36, .ref a8_37, .int v8_38, .int v8_39, .int v8_40, .ref a8_41, .ref a8_42, .int v8_43])), (a8_7, .inl (c8_7, 120, .inl f8_7)), (a8_8, .inl (c8_8, 120, .inl f8_8)), (a8_9, .inl (c8_9, 120, .inl f8_9)), (a8_10, .inl (c8_10, 120, .inl f8_10))] [(c8_7, .int), (c8_8, .int), (c8_9, .int), (c8_10, .int)] sz (fun _ => True))) (va_Qi (fun (r : Int32) (u : Unit) => r = (rW f8_7 f8_8) m9) (KPost (dC, dI) (va_A [(o8, .inr (8, [.ref a8_0, .ref a8_1, .ref a8_2, .ref a8_3, .ref a8_4, .ref a8_5, .int v8_6, .ref a8_7, .ref a8_8, .ref a8_9, .ref a8_10, .ref a8_11, .int v8_12, .ref a8_13, .ref a8_14, .ref a8_15, .ref a8_16, .ref a8_17, .ref a8_18, .ref a8_19, .ref a8_20, .ref a8_21, .ref a8_22, .ref a8_23, .ref a8_24, .int v8_25, .int v8_26, .ref a8_27, .ref a8_28, .ref a8_29, .ref a8_30, .ref a8_31, .int v8_32, .int v8_33, .int v8_34, .int v8_35, .ref a8_36, .ref a8_37, .int v8_38, .int v8_39, .int v8_40, .ref a8_41, .ref a8_42, .int v8_43])), (a8_7, .inl (c8_7, 120, .inl f8_7)), (a8_8, .inl (c8_8, 120, .inl f8_8)), (a8_9, .inl (c8_9, 120, .inl f8_9)), (a8_10, .inl (c8_10, 120, .inl f8_10))] sz) (fun (u : Unit) => [(o8, .inr (8, [.ref a8_0, .ref a8_1, .ref a8_2, .ref a8_3, .ref a8_4, .ref a8_5, .int v8_6, .ref a8_7, .ref a8_8, .ref a8_9, .ref a8_10, .ref a8_11, .int v8_12, .ref a8_13, .ref a8_14, .ref a8_15, .ref a8_16, .ref a8_17, .ref a8_18, .ref a8_19, .ref a8_20, .ref a8_21, .ref a8_22, .ref a8_23, .ref a8_24, .int v8_25, .int v8_26, .ref a8_27, .ref a8_28, .ref a8_29, .ref a8_30, .ref a8_31, .int v8_32, .int v8_33, .int v8_34, .int v8_35, .ref a8_36, .ref a8_37, .int v8_38, .int v8_39, .int v8_40, .ref a8_41, .ref a8_42, .int v8_43])), (a8_7, .inl (c8_7, 120, .inl f8_7)), (a8_8, .inl (c8_8, 120, .inl f8_8)), (a8_9, .inl (c8_9, 120, .inl f8_9)), (a8_10, .inl (c8_10, 120, .inl f8_10))])) (va_A [(o8, .inr (8, [.ref a8_0, .ref a8_1, .ref a8_2, .ref a8_3, .ref a8_4, .ref a8_5, .int v8_6, .ref a8_7, .ref a8_8, .ref a8_9, .ref a8_10, .ref a8_11, .int v8_12, .ref a8_13, .ref a8_14, .ref a8_15, .ref a8_16, .ref a8_17, .ref a8_18, .ref a8_19, .ref a8_20, .ref a8_21, .ref a8_22, .ref a8_23, .ref a8_24, .int v8_25, .int v8_26, .ref a8_27, .ref a8_28, .ref a8_29, .ref a8_30, .ref a8_31, .int v8_32, .int v8_33, .int v8_34, .int v8_35, .ref a8_36, .ref a8_37, .int v8_38, .int v8_39, .int v8_40, .ref a8_41, .ref a8_42, .int v8_43])), (a8_7, .inl (c8_7, 120, .inl f8_7)), (a8_8, .inl (c8_8, 120, .inl f8_8)), (a8_9, .inl (c8_9, 120, .inl f8_9)), (a8_10, .inl (c8_10, 120, .inl f8_10))] sz)) 0 0 (va_A [(o8, .inr (8, [.ref a8_0, .ref a8_1, .ref a8_2, .ref a8_3, .ref a8_4, .ref a8_5, .int v8_6, .ref a8_7, .ref a8_8, .ref a8_9, .ref a8_10, .ref a8_11, .int v8_12, .ref a8_13, .ref a8_14, .ref a8_15, .ref a8_16, .ref a8_17, .ref a8_18, .ref a8_19, .ref a8_20, .ref a8_21, .ref a8_22, .ref a8_23, .ref a8_24, .int v8_25, .int v8_26, .ref a8_27, .ref a8_28, .ref a8_29, .ref a8_30, .ref a8_31, .int v8_32, .int v8_33, .int v8_34, .int v8_35, .ref a8_36, .ref a8_37, .int v8_38, .int v8_39, .int v8_40, .ref a8_41, .ref a8_42, .int v8_43])), (a8_7, .inl (c8_7, 120, .inl f8_7)), (a8_8, .inl (c8_8, 120, .inl f8_8)), (a8_9, .inl (c8_9, 120, .inl f8_9)), (a8_10, .inl (c8_10, 120, .inl f8_10))] sz) := by
  refine kMet (y := yX8_writes) (wsM := wsX8_writes) (cc := cX8_writes) (maxL := 3) (ret := (some .int)) (rm := ({ frames := 1, cells := 0, slots := 0, locals := 20 } : Room)) (mc := 0) (ms := 0) (av := [.ref o8, .int (nI m9)]) (D := (dC, dI)) (wc := [(o8, .inr (8, [.ref a8_0, .ref a8_1, .ref a8_2, .ref a8_3, .ref a8_4, .ref a8_5, .int v8_6, .ref a8_7, .ref a8_8, .ref a8_9, .ref a8_10, .ref a8_11, .int v8_12, .ref a8_13, .ref a8_14, .ref a8_15, .ref a8_16, .ref a8_17, .ref a8_18, .ref a8_19, .ref a8_20, .ref a8_21, .ref a8_22, .ref a8_23, .ref a8_24, .int v8_25, .int v8_26, .ref a8_27, .ref a8_28, .ref a8_29, .ref a8_30, .ref a8_31, .int v8_32, .int v8_33, .int v8_34, .int v8_35, .ref a8_36, .ref a8_37, .int v8_38, .int v8_39, .int v8_40, .ref a8_41, .ref a8_42, .int v8_43])), (a8_7, .inl (c8_7, 120, .inl f8_7)), (a8_8, .inl (c8_8, 120, .inl f8_8)), (a8_9, .inl (c8_9, 120, .inl f8_9)), (a8_10, .inl (c8_10, 120, .inl f8_10))]) (tc := [(c8_7, .int), (c8_8, .int), (c8_9, .int), (c8_10, .int)]) (sz := sz) (X := fun _ => True) (Qc := fun A => va_Qi (fun (r : Int32) (u : Unit) => r = (rW f8_7 f8_8) m9) (KPost (dC, dI) A (fun (u : Unit) => [(o8, .inr (8, [.ref a8_0, .ref a8_1, .ref a8_2, .ref a8_3, .ref a8_4, .ref a8_5, .int v8_6, .ref a8_7, .ref a8_8, .ref a8_9, .ref a8_10, .ref a8_11, .int v8_12, .ref a8_13, .ref a8_14, .ref a8_15, .ref a8_16, .ref a8_17, .ref a8_18, .ref a8_19, .ref a8_20, .ref a8_21, .ref a8_22, .ref a8_23, .ref a8_24, .int v8_25, .int v8_26, .ref a8_27, .ref a8_28, .ref a8_29, .ref a8_30, .ref a8_31, .int v8_32, .int v8_33, .int v8_34, .int v8_35, .ref a8_36, .ref a8_37, .int v8_38, .int v8_39, .int v8_40, .ref a8_41, .ref a8_42, .int v8_43])), (a8_7, .inl (c8_7, 120, .inl f8_7)), (a8_8, .inl (c8_8, 120, .inl f8_8)), (a8_9, .inl (c8_9, 120, .inl f8_9)), (a8_10, .inl (c8_10, 120, .inl f8_10))])) A) (by decide) rfl (Nat.le_of_ble_eq_true rfl) ?_
  intro p e s m below meth c A ls E hr hlocks hnm hsz hAe hX h hl
  have hx := E.1
  have hb := E.2.1
  have hl : lv_has ls 3 [(0, .ref o8), (1, .int (nI m9))] := hl
  have hk9 := hK m9 hp
  refine lv_aload_n hx hb dX8_writes_0 rfl (lv_at hl 0 rfl) ?_
  refine k_get (v := .ref a8_7) E h (fun w h => List.mem_cons_of_mem _ (List.mem_append_right _ h)) 0 rfl rfl 7 (Nat.le_of_ble_eq_true rfl) (List.mem_of_getElem? (i := 1) rfl) rfl dX8_writes_1 ?_
  refine lv_iload_n hx hb dX8_writes_4 rfl (lv_at hl 1 rfl) ?_
  refine k_iald (v := f8_7 m9) E h 1 0 rfl rfl (vp_in_nI (by omega) (by omega)) (by rw [nI_clamp (by omega)]) dX8_writes_5 ?_
  refine kc_i (wc := []) (wr := [(o8, .inr (8, [.ref a8_0, .ref a8_1, .ref a8_2, .ref a8_3, .ref a8_4, .ref a8_5, .int v8_6, .ref a8_7, .ref a8_8, .ref a8_9, .ref a8_10, .ref a8_11, .int v8_12, .ref a8_13, .ref a8_14, .ref a8_15, .ref a8_16, .ref a8_17, .ref a8_18, .ref a8_19, .ref a8_20, .ref a8_21, .ref a8_22, .ref a8_23, .ref a8_24, .int v8_25, .int v8_26, .ref a8_27, .ref a8_28, .ref a8_29, .ref a8_30, .ref a8_31, .int v8_32, .int v8_33, .int v8_34, .int v8_35, .ref a8_36, .ref a8_37, .int v8_38, .int v8_39, .int v8_40, .ref a8_41, .ref a8_42, .int v8_43])), (a8_7, .inl (c8_7, 120, .inl f8_7)), (a8_8, .inl (c8_8, 120, .inl f8_8)), (a8_9, .inl (c8_9, 120, .inl f8_9)), (a8_10, .inl (c8_10, 120, .inl f8_10))]) h (va_runS (As := [.int (f8_7 m9)]) (rest := []) E (c_X8_hasD l dC dI _ (p0 := f8_7 m9)  ) (va_cwS 1 E.2.2.2.2 gX8_writes_X8_hasD rfl rfl rfl hdS_X8_hasD ⟨Nat.le_of_ble_eq_true rfl, Nat.le_of_ble_eq_true rfl⟩) (kPreS h KX_true (fun _ _ _ => trivial) [] [] (by decide) rfl rfl) rfl rfl hl.1 rfl (lv_room (Nat.le_of_ble_eq_true rfl)) dX8_writes_6 ⟨Nat.le_of_ble_eq_true rfl, Nat.le_of_ble_eq_true rfl⟩) [] [0, 1, 2, 3, 4] rfl rfl (by decide) (by decide) (fun r_1 u_1 H locs hw_1 h => ?_)
  have h : KS (dC, dI) A [(o8, .inr (8, [.ref a8_0, .ref a8_1, .ref a8_2, .ref a8_3, .ref a8_4, .ref a8_5, .int v8_6, .ref a8_7, .ref a8_8, .ref a8_9, .ref a8_10, .ref a8_11, .int v8_12, .ref a8_13, .ref a8_14, .ref a8_15, .ref a8_16, .ref a8_17, .ref a8_18, .ref a8_19, .ref a8_20, .ref a8_21, .ref a8_22, .ref a8_23, .ref a8_24, .int v8_25, .int v8_26, .ref a8_27, .ref a8_28, .ref a8_29, .ref a8_30, .ref a8_31, .int v8_32, .int v8_33, .int v8_34, .int v8_35, .ref a8_36, .ref a8_37, .int v8_38, .int v8_39, .int v8_40, .ref a8_41, .ref a8_42, .int v8_43])), (a8_7, .inl (c8_7, 120, .inl f8_7)), (a8_8, .inl (c8_8, 120, .inl f8_8)), (a8_9, .inl (c8_9, 120, .inl f8_9)), (a8_10, .inl (c8_10, 120, .inl f8_10))] [(c8_7, .int), (c8_8, .int), (c8_9, .int), (c8_10, .int)] s H locs := h
  have hw_1 : r_1 = if (f8_7 m9).toInt ≤ 7 then 1 else 0 := by first | exact hw_1 | (simp only [Int32.toInt_toInt64] at hw_1; exact hw_1)
  refine W.eq (g2 := F0 m 9 ls [.int r_1]) rfl ?_
  refine lv_if_eq (tgt := 23) hx hb dX8_writes_9 rfl (fun c_2 => ?_) (fun c_2 => ?_)
  · skip
    have b_2 := kb0 hw_1 c_2
    refine lv_iconst (v := 0) hx hb dX8_writes_23 kic_0 ?_
    refine lv_istore_n (lv' := [(2, .int 0), (0, .ref o8), (1, .int (nI m9))]) hx hb dX8_writes_24 rfl hl (Nat.le_of_ble_eq_true rfl) rfl (fun ls hl => ?_)
    refine lv_aload_n hx hb dX8_writes_25 rfl (lv_at hl 1 rfl) ?_
    refine k_get (v := .ref a8_7) E h (fun w h => List.mem_cons_of_mem _ (List.mem_append_right _ h)) 0 rfl rfl 7 (Nat.le_of_ble_eq_true rfl) (List.mem_of_getElem? (i := 1) rfl) rfl dX8_writes_26 ?_
    refine lv_iload_n hx hb dX8_writes_29 rfl (lv_at hl 2 rfl) ?_
    refine k_iald (v := f8_7 m9) E h 1 0 rfl rfl (vp_in_nI (by omega) (by omega)) (by rw [nI_clamp (by omega)]) dX8_writes_30 ?_
    refine lv_iconst (v := 2) hx hb dX8_writes_31 kic_2 ?_
    refine lv_icmp_lt (tgt := 51) hx hb dX8_writes_32 rfl (fun c_3 => ?_) (fun c_3 => ?_)
    · skip
      have i_3 : (f8_7 m9).toInt < 2 := (fa_lt _ _).mp c_3
      refine lv_aload_n hx hb dX8_writes_51 rfl (lv_at hl 1 rfl) ?_
      refine k_get (v := .ref a8_7) E h (fun w h => List.mem_cons_of_mem _ (List.mem_append_right _ h)) 0 rfl rfl 7 (Nat.le_of_ble_eq_true rfl) (List.mem_of_getElem? (i := 1) rfl) rfl dX8_writes_52 ?_
      refine lv_iload_n hx hb dX8_writes_55 rfl (lv_at hl 2 rfl) ?_
      refine k_iald (v := f8_7 m9) E h 1 0 rfl rfl (vp_in_nI (by omega) (by omega)) (by rw [nI_clamp (by omega)]) dX8_writes_56 ?_
      refine lv_bipush (v := 8) hx hb dX8_writes_57 kbi_8 ?_
      refine lv_icmp_ne (tgt := 68) hx hb dX8_writes_59 rfl (fun c_4 => ?_) (fun c_4 => ?_)
      · skip
        have i_4 : ¬ (f8_7 m9).toInt = 8 := fun h9 => c_4 ((fa_eq _ _).mpr h9)
        refine lv_iload_n hx hb dX8_writes_68 rfl (lv_at hl 0 rfl) ?_
        have hP9 := h.2.1.sub [0, 1, 2, 3, 4] rfl
        have hD9 := h.2.2.1.sub (ws' := [(o8, .inr (8, [.ref a8_0, .ref a8_1, .ref a8_2, .ref a8_3, .ref a8_4, .ref a8_5, .int v8_6, .ref a8_7, .ref a8_8, .ref a8_9, .ref a8_10, .ref a8_11, .int v8_12, .ref a8_13, .ref a8_14, .ref a8_15, .ref a8_16, .ref a8_17, .ref a8_18, .ref a8_19, .ref a8_20, .ref a8_21, .ref a8_22, .ref a8_23, .ref a8_24, .int v8_25, .int v8_26, .ref a8_27, .ref a8_28, .ref a8_29, .ref a8_30, .ref a8_31, .int v8_32, .int v8_33, .int v8_34, .int v8_35, .ref a8_36, .ref a8_37, .int v8_38, .int v8_39, .int v8_40, .ref a8_41, .ref a8_42, .int v8_43])), (a8_7, .inl (c8_7, 120, .inl f8_7)), (a8_8, .inl (c8_8, 120, .inl f8_8)), (a8_9, .inl (c8_9, 120, .inl f8_9)), (a8_10, .inl (c8_10, 120, .inl f8_10))]) [0, 1, 2, 3, 4] (by decide) rfl
        exact W.iret (v := 0) hx hb hr (fun t ht hW => ⟨⟨0, (), rfl, (by show _ = kWr (f8_7 m9) (f8_8 m9); unfold kWr kOr; (repeat' split) <;> first | (with_reducible rfl) | (exfalso; omega) | rfl | omega | (simp only [Int32.zero_or]; done) | (rw [Int32.zero_or]; done)), (by rw [ht]; exact hP9), hD9⟩, h.2.2.2.1.F ht⟩) h.2.2.2.1.2.2 dX8_writes_69 hlocks
      · skip
        have i_4 : (f8_7 m9).toInt = 8 := (fa_eq _ _).mp c_4
        exfalso; omega
    · skip
      have i_3 : ¬ (f8_7 m9).toInt < 2 := fun h9 => c_3 ((fa_lt _ _).mpr h9)
      refine lv_aload_n hx hb dX8_writes_35 rfl (lv_at hl 1 rfl) ?_
      refine k_get (v := .ref a8_7) E h (fun w h => List.mem_cons_of_mem _ (List.mem_append_right _ h)) 0 rfl rfl 7 (Nat.le_of_ble_eq_true rfl) (List.mem_of_getElem? (i := 1) rfl) rfl dX8_writes_36 ?_
      refine lv_iload_n hx hb dX8_writes_39 rfl (lv_at hl 2 rfl) ?_
      refine k_iald (v := f8_7 m9) E h 1 0 rfl rfl (vp_in_nI (by omega) (by omega)) (by rw [nI_clamp (by omega)]) dX8_writes_40 ?_
      refine lv_iconst (v := 5) hx hb dX8_writes_41 kic_5 ?_
      refine lv_icmp_gt (tgt := 51) hx hb dX8_writes_42 rfl (fun c_5 => ?_) (fun c_5 => ?_)
      · skip
        have i_5 : 5 < (f8_7 m9).toInt := (fa_lt _ _).mp c_5
        refine lv_aload_n hx hb dX8_writes_51 rfl (lv_at hl 1 rfl) ?_
        refine k_get (v := .ref a8_7) E h (fun w h => List.mem_cons_of_mem _ (List.mem_append_right _ h)) 0 rfl rfl 7 (Nat.le_of_ble_eq_true rfl) (List.mem_of_getElem? (i := 1) rfl) rfl dX8_writes_52 ?_
        refine lv_iload_n hx hb dX8_writes_55 rfl (lv_at hl 2 rfl) ?_
        refine k_iald (v := f8_7 m9) E h 1 0 rfl rfl (vp_in_nI (by omega) (by omega)) (by rw [nI_clamp (by omega)]) dX8_writes_56 ?_
        refine lv_bipush (v := 8) hx hb dX8_writes_57 kbi_8 ?_
        refine lv_icmp_ne (tgt := 68) hx hb dX8_writes_59 rfl (fun c_6 => ?_) (fun c_6 => ?_)
        · skip
          have i_6 : ¬ (f8_7 m9).toInt = 8 := fun h9 => c_6 ((fa_eq _ _).mpr h9)
          refine lv_iload_n hx hb dX8_writes_68 rfl (lv_at hl 0 rfl) ?_
          have hP9 := h.2.1.sub [0, 1, 2, 3, 4] rfl
          have hD9 := h.2.2.1.sub (ws' := [(o8, .inr (8, [.ref a8_0, .ref a8_1, .ref a8_2, .ref a8_3, .ref a8_4, .ref a8_5, .int v8_6, .ref a8_7, .ref a8_8, .ref a8_9, .ref a8_10, .ref a8_11, .int v8_12, .ref a8_13, .ref a8_14, .ref a8_15, .ref a8_16, .ref a8_17, .ref a8_18, .ref a8_19, .ref a8_20, .ref a8_21, .ref a8_22, .ref a8_23, .ref a8_24, .int v8_25, .int v8_26, .ref a8_27, .ref a8_28, .ref a8_29, .ref a8_30, .ref a8_31, .int v8_32, .int v8_33, .int v8_34, .int v8_35, .ref a8_36, .ref a8_37, .int v8_38, .int v8_39, .int v8_40, .ref a8_41, .ref a8_42, .int v8_43])), (a8_7, .inl (c8_7, 120, .inl f8_7)), (a8_8, .inl (c8_8, 120, .inl f8_8)), (a8_9, .inl (c8_9, 120, .inl f8_9)), (a8_10, .inl (c8_10, 120, .inl f8_10))]) [0, 1, 2, 3, 4] (by decide) rfl
          exact W.iret (v := 0) hx hb hr (fun t ht hW => ⟨⟨0, (), rfl, (by show _ = kWr (f8_7 m9) (f8_8 m9); unfold kWr kOr; (repeat' split) <;> first | (with_reducible rfl) | (exfalso; omega) | rfl | omega | (simp only [Int32.zero_or]; done) | (rw [Int32.zero_or]; done)), (by rw [ht]; exact hP9), hD9⟩, h.2.2.2.1.F ht⟩) h.2.2.2.1.2.2 dX8_writes_69 hlocks
        · skip
          have i_6 : (f8_7 m9).toInt = 8 := (fa_eq _ _).mp c_6
          refine lv_iload_n hx hb dX8_writes_62 rfl (lv_at hl 0 rfl) ?_
          refine lv_sipush (v := 1024) hx hb dX8_writes_63 ksi_1024 ?_
          refine lv_ior hx hb dX8_writes_66 ?_
          refine k_topi (y := 1024) (by decide) ?_
          refine lv_istore_n (lv' := [(2, .int 1024), (0, .ref o8), (1, .int (nI m9))]) hx hb dX8_writes_67 rfl hl (Nat.le_of_ble_eq_true rfl) rfl (fun ls hl => ?_)
          refine lv_iload_n hx hb dX8_writes_68 rfl (lv_at hl 0 rfl) ?_
          have hP9 := h.2.1.sub [0, 1, 2, 3, 4] rfl
          have hD9 := h.2.2.1.sub (ws' := [(o8, .inr (8, [.ref a8_0, .ref a8_1, .ref a8_2, .ref a8_3, .ref a8_4, .ref a8_5, .int v8_6, .ref a8_7, .ref a8_8, .ref a8_9, .ref a8_10, .ref a8_11, .int v8_12, .ref a8_13, .ref a8_14, .ref a8_15, .ref a8_16, .ref a8_17, .ref a8_18, .ref a8_19, .ref a8_20, .ref a8_21, .ref a8_22, .ref a8_23, .ref a8_24, .int v8_25, .int v8_26, .ref a8_27, .ref a8_28, .ref a8_29, .ref a8_30, .ref a8_31, .int v8_32, .int v8_33, .int v8_34, .int v8_35, .ref a8_36, .ref a8_37, .int v8_38, .int v8_39, .int v8_40, .ref a8_41, .ref a8_42, .int v8_43])), (a8_7, .inl (c8_7, 120, .inl f8_7)), (a8_8, .inl (c8_8, 120, .inl f8_8)), (a8_9, .inl (c8_9, 120, .inl f8_9)), (a8_10, .inl (c8_10, 120, .inl f8_10))]) [0, 1, 2, 3, 4] (by decide) rfl
          exact W.iret (v := 1024) hx hb hr (fun t ht hW => ⟨⟨1024, (), rfl, (by show _ = kWr (f8_7 m9) (f8_8 m9); unfold kWr kOr; (repeat' split) <;> first | (with_reducible rfl) | (exfalso; omega) | rfl | omega | (simp only [Int32.zero_or]; done) | (rw [Int32.zero_or]; done)), (by rw [ht]; exact hP9), hD9⟩, h.2.2.2.1.F ht⟩) h.2.2.2.1.2.2 dX8_writes_69 hlocks
      · skip
        have i_5 : ¬ 5 < (f8_7 m9).toInt := fun h9 => c_5 ((fa_lt _ _).mpr h9)
        refine lv_iload_n hx hb dX8_writes_45 rfl (lv_at hl 0 rfl) ?_
        refine lv_sipush (v := 768) hx hb dX8_writes_46 ksi_768 ?_
        refine lv_ior hx hb dX8_writes_49 ?_
        refine k_topi (y := 768) (by decide) ?_
        refine lv_istore_n (lv' := [(2, .int 768), (0, .ref o8), (1, .int (nI m9))]) hx hb dX8_writes_50 rfl hl (Nat.le_of_ble_eq_true rfl) rfl (fun ls hl => ?_)
        refine lv_aload_n hx hb dX8_writes_51 rfl (lv_at hl 1 rfl) ?_
        refine k_get (v := .ref a8_7) E h (fun w h => List.mem_cons_of_mem _ (List.mem_append_right _ h)) 0 rfl rfl 7 (Nat.le_of_ble_eq_true rfl) (List.mem_of_getElem? (i := 1) rfl) rfl dX8_writes_52 ?_
        refine lv_iload_n hx hb dX8_writes_55 rfl (lv_at hl 2 rfl) ?_
        refine k_iald (v := f8_7 m9) E h 1 0 rfl rfl (vp_in_nI (by omega) (by omega)) (by rw [nI_clamp (by omega)]) dX8_writes_56 ?_
        refine lv_bipush (v := 8) hx hb dX8_writes_57 kbi_8 ?_
        refine lv_icmp_ne (tgt := 68) hx hb dX8_writes_59 rfl (fun c_7 => ?_) (fun c_7 => ?_)
        · skip
          have i_7 : ¬ (f8_7 m9).toInt = 8 := fun h9 => c_7 ((fa_eq _ _).mpr h9)
          refine lv_iload_n hx hb dX8_writes_68 rfl (lv_at hl 0 rfl) ?_
          have hP9 := h.2.1.sub [0, 1, 2, 3, 4] rfl
          have hD9 := h.2.2.1.sub (ws' := [(o8, .inr (8, [.ref a8_0, .ref a8_1, .ref a8_2, .ref a8_3, .ref a8_4, .ref a8_5, .int v8_6, .ref a8_7, .ref a8_8, .ref a8_9, .ref a8_10, .ref a8_11, .int v8_12, .ref a8_13, .ref a8_14, .ref a8_15, .ref a8_16, .ref a8_17, .ref a8_18, .ref a8_19, .ref a8_20, .ref a8_21, .ref a8_22, .ref a8_23, .ref a8_24, .int v8_25, .int v8_26, .ref a8_27, .ref a8_28, .ref a8_29, .ref a8_30, .ref a8_31, .int v8_32, .int v8_33, .int v8_34, .int v8_35, .ref a8_36, .ref a8_37, .int v8_38, .int v8_39, .int v8_40, .ref a8_41, .ref a8_42, .int v8_43])), (a8_7, .inl (c8_7, 120, .inl f8_7)), (a8_8, .inl (c8_8, 120, .inl f8_8)), (a8_9, .inl (c8_9, 120, .inl f8_9)), (a8_10, .inl (c8_10, 120, .inl f8_10))]) [0, 1, 2, 3, 4] (by decide) rfl
          exact W.iret (v := 768) hx hb hr (fun t ht hW => ⟨⟨768, (), rfl, (by show _ = kWr (f8_7 m9) (f8_8 m9); unfold kWr kOr; (repeat' split) <;> first | (with_reducible rfl) | (exfalso; omega) | rfl | omega | (simp only [Int32.zero_or]; done) | (rw [Int32.zero_or]; done)), (by rw [ht]; exact hP9), hD9⟩, h.2.2.2.1.F ht⟩) h.2.2.2.1.2.2 dX8_writes_69 hlocks
        · skip
          have i_7 : (f8_7 m9).toInt = 8 := (fa_eq _ _).mp c_7
          exfalso; omega
  · skip
    have b_2 := kb1 hw_1 c_2
    refine lv_iconst (v := 1) hx hb dX8_writes_12 kic_1 ?_
    refine lv_aload_n hx hb dX8_writes_13 rfl (lv_at hl 0 rfl) ?_
    refine k_get (v := .ref a8_8) E h (fun w h => List.mem_cons_of_mem _ (List.mem_append_right _ h)) 0 rfl rfl 8 (Nat.le_of_ble_eq_true rfl) (List.mem_of_getElem? (i := 2) rfl) rfl dX8_writes_14 ?_
    refine lv_iload_n hx hb dX8_writes_17 rfl (lv_at hl 1 rfl) ?_
    refine k_iald (v := f8_8 m9) E h 2 1 rfl rfl (vp_in_nI (by omega) (by omega)) (by rw [nI_clamp (by omega)]) dX8_writes_18 ?_
    refine lv_ishl hx hb dX8_writes_19 ?_
    refine lv_goto (tgt := 24) hx hb dX8_writes_20 rfl ?_
    refine lv_istore_n (lv' := [(2, .int ((1 : Int32) <<< ((f8_8 m9) &&& 31))), (0, .ref o8), (1, .int (nI m9))]) hx hb dX8_writes_24 rfl hl (Nat.le_of_ble_eq_true rfl) rfl (fun ls hl => ?_)
    refine lv_aload_n hx hb dX8_writes_25 rfl (lv_at hl 1 rfl) ?_
    refine k_get (v := .ref a8_7) E h (fun w h => List.mem_cons_of_mem _ (List.mem_append_right _ h)) 0 rfl rfl 7 (Nat.le_of_ble_eq_true rfl) (List.mem_of_getElem? (i := 1) rfl) rfl dX8_writes_26 ?_
    refine lv_iload_n hx hb dX8_writes_29 rfl (lv_at hl 2 rfl) ?_
    refine k_iald (v := f8_7 m9) E h 1 0 rfl rfl (vp_in_nI (by omega) (by omega)) (by rw [nI_clamp (by omega)]) dX8_writes_30 ?_
    refine lv_iconst (v := 2) hx hb dX8_writes_31 kic_2 ?_
    refine lv_icmp_lt (tgt := 51) hx hb dX8_writes_32 rfl (fun c_8 => ?_) (fun c_8 => ?_)
    · skip
      have i_8 : (f8_7 m9).toInt < 2 := (fa_lt _ _).mp c_8
      refine lv_aload_n hx hb dX8_writes_51 rfl (lv_at hl 1 rfl) ?_
      refine k_get (v := .ref a8_7) E h (fun w h => List.mem_cons_of_mem _ (List.mem_append_right _ h)) 0 rfl rfl 7 (Nat.le_of_ble_eq_true rfl) (List.mem_of_getElem? (i := 1) rfl) rfl dX8_writes_52 ?_
      refine lv_iload_n hx hb dX8_writes_55 rfl (lv_at hl 2 rfl) ?_
      refine k_iald (v := f8_7 m9) E h 1 0 rfl rfl (vp_in_nI (by omega) (by omega)) (by rw [nI_clamp (by omega)]) dX8_writes_56 ?_
      refine lv_bipush (v := 8) hx hb dX8_writes_57 kbi_8 ?_
      refine lv_icmp_ne (tgt := 68) hx hb dX8_writes_59 rfl (fun c_9 => ?_) (fun c_9 => ?_)
      · skip
        have i_9 : ¬ (f8_7 m9).toInt = 8 := fun h9 => c_9 ((fa_eq _ _).mpr h9)
        refine lv_iload_n hx hb dX8_writes_68 rfl (lv_at hl 0 rfl) ?_
        have hP9 := h.2.1.sub [0, 1, 2, 3, 4] rfl
        have hD9 := h.2.2.1.sub (ws' := [(o8, .inr (8, [.ref a8_0, .ref a8_1, .ref a8_2, .ref a8_3, .ref a8_4, .ref a8_5, .int v8_6, .ref a8_7, .ref a8_8, .ref a8_9, .ref a8_10, .ref a8_11, .int v8_12, .ref a8_13, .ref a8_14, .ref a8_15, .ref a8_16, .ref a8_17, .ref a8_18, .ref a8_19, .ref a8_20, .ref a8_21, .ref a8_22, .ref a8_23, .ref a8_24, .int v8_25, .int v8_26, .ref a8_27, .ref a8_28, .ref a8_29, .ref a8_30, .ref a8_31, .int v8_32, .int v8_33, .int v8_34, .int v8_35, .ref a8_36, .ref a8_37, .int v8_38, .int v8_39, .int v8_40, .ref a8_41, .ref a8_42, .int v8_43])), (a8_7, .inl (c8_7, 120, .inl f8_7)), (a8_8, .inl (c8_8, 120, .inl f8_8)), (a8_9, .inl (c8_9, 120, .inl f8_9)), (a8_10, .inl (c8_10, 120, .inl f8_10))]) [0, 1, 2, 3, 4] (by decide) rfl
        exact W.iret (v := (1 : Int32) <<< ((f8_8 m9) &&& 31)) hx hb hr (fun t ht hW => ⟨⟨(1 : Int32) <<< ((f8_8 m9) &&& 31), (), rfl, (by show _ = kWr (f8_7 m9) (f8_8 m9); unfold kWr kOr; (repeat' split) <;> first | (with_reducible rfl) | (exfalso; omega) | rfl | omega | (simp only [Int32.zero_or]; done) | (rw [Int32.zero_or]; done)), (by rw [ht]; exact hP9), hD9⟩, h.2.2.2.1.F ht⟩) h.2.2.2.1.2.2 dX8_writes_69 hlocks
      · skip
        have i_9 : (f8_7 m9).toInt = 8 := (fa_eq _ _).mp c_9
        exfalso; omega
    · skip
      have i_8 : ¬ (f8_7 m9).toInt < 2 := fun h9 => c_8 ((fa_lt _ _).mpr h9)
      refine lv_aload_n hx hb dX8_writes_35 rfl (lv_at hl 1 rfl) ?_
      refine k_get (v := .ref a8_7) E h (fun w h => List.mem_cons_of_mem _ (List.mem_append_right _ h)) 0 rfl rfl 7 (Nat.le_of_ble_eq_true rfl) (List.mem_of_getElem? (i := 1) rfl) rfl dX8_writes_36 ?_
      refine lv_iload_n hx hb dX8_writes_39 rfl (lv_at hl 2 rfl) ?_
      refine k_iald (v := f8_7 m9) E h 1 0 rfl rfl (vp_in_nI (by omega) (by omega)) (by rw [nI_clamp (by omega)]) dX8_writes_40 ?_
      refine lv_iconst (v := 5) hx hb dX8_writes_41 kic_5 ?_
      refine lv_icmp_gt (tgt := 51) hx hb dX8_writes_42 rfl (fun c_10 => ?_) (fun c_10 => ?_)
      · skip
        have i_10 : 5 < (f8_7 m9).toInt := (fa_lt _ _).mp c_10
        refine lv_aload_n hx hb dX8_writes_51 rfl (lv_at hl 1 rfl) ?_
        refine k_get (v := .ref a8_7) E h (fun w h => List.mem_cons_of_mem _ (List.mem_append_right _ h)) 0 rfl rfl 7 (Nat.le_of_ble_eq_true rfl) (List.mem_of_getElem? (i := 1) rfl) rfl dX8_writes_52 ?_
        refine lv_iload_n hx hb dX8_writes_55 rfl (lv_at hl 2 rfl) ?_
        refine k_iald (v := f8_7 m9) E h 1 0 rfl rfl (vp_in_nI (by omega) (by omega)) (by rw [nI_clamp (by omega)]) dX8_writes_56 ?_
        refine lv_bipush (v := 8) hx hb dX8_writes_57 kbi_8 ?_
        refine lv_icmp_ne (tgt := 68) hx hb dX8_writes_59 rfl (fun c_11 => ?_) (fun c_11 => ?_)
        · skip
          have i_11 : ¬ (f8_7 m9).toInt = 8 := fun h9 => c_11 ((fa_eq _ _).mpr h9)
          refine lv_iload_n hx hb dX8_writes_68 rfl (lv_at hl 0 rfl) ?_
          have hP9 := h.2.1.sub [0, 1, 2, 3, 4] rfl
          have hD9 := h.2.2.1.sub (ws' := [(o8, .inr (8, [.ref a8_0, .ref a8_1, .ref a8_2, .ref a8_3, .ref a8_4, .ref a8_5, .int v8_6, .ref a8_7, .ref a8_8, .ref a8_9, .ref a8_10, .ref a8_11, .int v8_12, .ref a8_13, .ref a8_14, .ref a8_15, .ref a8_16, .ref a8_17, .ref a8_18, .ref a8_19, .ref a8_20, .ref a8_21, .ref a8_22, .ref a8_23, .ref a8_24, .int v8_25, .int v8_26, .ref a8_27, .ref a8_28, .ref a8_29, .ref a8_30, .ref a8_31, .int v8_32, .int v8_33, .int v8_34, .int v8_35, .ref a8_36, .ref a8_37, .int v8_38, .int v8_39, .int v8_40, .ref a8_41, .ref a8_42, .int v8_43])), (a8_7, .inl (c8_7, 120, .inl f8_7)), (a8_8, .inl (c8_8, 120, .inl f8_8)), (a8_9, .inl (c8_9, 120, .inl f8_9)), (a8_10, .inl (c8_10, 120, .inl f8_10))]) [0, 1, 2, 3, 4] (by decide) rfl
          exact W.iret (v := (1 : Int32) <<< ((f8_8 m9) &&& 31)) hx hb hr (fun t ht hW => ⟨⟨(1 : Int32) <<< ((f8_8 m9) &&& 31), (), rfl, (by show _ = kWr (f8_7 m9) (f8_8 m9); unfold kWr kOr; (repeat' split) <;> first | (with_reducible rfl) | (exfalso; omega) | rfl | omega | (simp only [Int32.zero_or]; done) | (rw [Int32.zero_or]; done)), (by rw [ht]; exact hP9), hD9⟩, h.2.2.2.1.F ht⟩) h.2.2.2.1.2.2 dX8_writes_69 hlocks
        · skip
          have i_11 : (f8_7 m9).toInt = 8 := (fa_eq _ _).mp c_11
          refine lv_iload_n hx hb dX8_writes_62 rfl (lv_at hl 0 rfl) ?_
          refine lv_sipush (v := 1024) hx hb dX8_writes_63 ksi_1024 ?_
          refine lv_ior hx hb dX8_writes_66 ?_
          refine lv_istore_n (lv' := [(2, .int (((1 : Int32) <<< ((f8_8 m9) &&& 31)) ||| (1024 : Int32))), (0, .ref o8), (1, .int (nI m9))]) hx hb dX8_writes_67 rfl hl (Nat.le_of_ble_eq_true rfl) rfl (fun ls hl => ?_)
          refine lv_iload_n hx hb dX8_writes_68 rfl (lv_at hl 0 rfl) ?_
          have hP9 := h.2.1.sub [0, 1, 2, 3, 4] rfl
          have hD9 := h.2.2.1.sub (ws' := [(o8, .inr (8, [.ref a8_0, .ref a8_1, .ref a8_2, .ref a8_3, .ref a8_4, .ref a8_5, .int v8_6, .ref a8_7, .ref a8_8, .ref a8_9, .ref a8_10, .ref a8_11, .int v8_12, .ref a8_13, .ref a8_14, .ref a8_15, .ref a8_16, .ref a8_17, .ref a8_18, .ref a8_19, .ref a8_20, .ref a8_21, .ref a8_22, .ref a8_23, .ref a8_24, .int v8_25, .int v8_26, .ref a8_27, .ref a8_28, .ref a8_29, .ref a8_30, .ref a8_31, .int v8_32, .int v8_33, .int v8_34, .int v8_35, .ref a8_36, .ref a8_37, .int v8_38, .int v8_39, .int v8_40, .ref a8_41, .ref a8_42, .int v8_43])), (a8_7, .inl (c8_7, 120, .inl f8_7)), (a8_8, .inl (c8_8, 120, .inl f8_8)), (a8_9, .inl (c8_9, 120, .inl f8_9)), (a8_10, .inl (c8_10, 120, .inl f8_10))]) [0, 1, 2, 3, 4] (by decide) rfl
          exact W.iret (v := ((1 : Int32) <<< ((f8_8 m9) &&& 31)) ||| (1024 : Int32)) hx hb hr (fun t ht hW => ⟨⟨((1 : Int32) <<< ((f8_8 m9) &&& 31)) ||| (1024 : Int32), (), rfl, (by show _ = kWr (f8_7 m9) (f8_8 m9); unfold kWr kOr; (repeat' split) <;> first | (with_reducible rfl) | (exfalso; omega) | rfl | omega | (simp only [Int32.zero_or]; done) | (rw [Int32.zero_or]; done)), (by rw [ht]; exact hP9), hD9⟩, h.2.2.2.1.F ht⟩) h.2.2.2.1.2.2 dX8_writes_69 hlocks
      · skip
        have i_10 : ¬ 5 < (f8_7 m9).toInt := fun h9 => c_10 ((fa_lt _ _).mpr h9)
        refine lv_iload_n hx hb dX8_writes_45 rfl (lv_at hl 0 rfl) ?_
        refine lv_sipush (v := 768) hx hb dX8_writes_46 ksi_768 ?_
        refine lv_ior hx hb dX8_writes_49 ?_
        refine lv_istore_n (lv' := [(2, .int (((1 : Int32) <<< ((f8_8 m9) &&& 31)) ||| (768 : Int32))), (0, .ref o8), (1, .int (nI m9))]) hx hb dX8_writes_50 rfl hl (Nat.le_of_ble_eq_true rfl) rfl (fun ls hl => ?_)
        refine lv_aload_n hx hb dX8_writes_51 rfl (lv_at hl 1 rfl) ?_
        refine k_get (v := .ref a8_7) E h (fun w h => List.mem_cons_of_mem _ (List.mem_append_right _ h)) 0 rfl rfl 7 (Nat.le_of_ble_eq_true rfl) (List.mem_of_getElem? (i := 1) rfl) rfl dX8_writes_52 ?_
        refine lv_iload_n hx hb dX8_writes_55 rfl (lv_at hl 2 rfl) ?_
        refine k_iald (v := f8_7 m9) E h 1 0 rfl rfl (vp_in_nI (by omega) (by omega)) (by rw [nI_clamp (by omega)]) dX8_writes_56 ?_
        refine lv_bipush (v := 8) hx hb dX8_writes_57 kbi_8 ?_
        refine lv_icmp_ne (tgt := 68) hx hb dX8_writes_59 rfl (fun c_12 => ?_) (fun c_12 => ?_)
        · skip
          have i_12 : ¬ (f8_7 m9).toInt = 8 := fun h9 => c_12 ((fa_eq _ _).mpr h9)
          refine lv_iload_n hx hb dX8_writes_68 rfl (lv_at hl 0 rfl) ?_
          have hP9 := h.2.1.sub [0, 1, 2, 3, 4] rfl
          have hD9 := h.2.2.1.sub (ws' := [(o8, .inr (8, [.ref a8_0, .ref a8_1, .ref a8_2, .ref a8_3, .ref a8_4, .ref a8_5, .int v8_6, .ref a8_7, .ref a8_8, .ref a8_9, .ref a8_10, .ref a8_11, .int v8_12, .ref a8_13, .ref a8_14, .ref a8_15, .ref a8_16, .ref a8_17, .ref a8_18, .ref a8_19, .ref a8_20, .ref a8_21, .ref a8_22, .ref a8_23, .ref a8_24, .int v8_25, .int v8_26, .ref a8_27, .ref a8_28, .ref a8_29, .ref a8_30, .ref a8_31, .int v8_32, .int v8_33, .int v8_34, .int v8_35, .ref a8_36, .ref a8_37, .int v8_38, .int v8_39, .int v8_40, .ref a8_41, .ref a8_42, .int v8_43])), (a8_7, .inl (c8_7, 120, .inl f8_7)), (a8_8, .inl (c8_8, 120, .inl f8_8)), (a8_9, .inl (c8_9, 120, .inl f8_9)), (a8_10, .inl (c8_10, 120, .inl f8_10))]) [0, 1, 2, 3, 4] (by decide) rfl
          exact W.iret (v := ((1 : Int32) <<< ((f8_8 m9) &&& 31)) ||| (768 : Int32)) hx hb hr (fun t ht hW => ⟨⟨((1 : Int32) <<< ((f8_8 m9) &&& 31)) ||| (768 : Int32), (), rfl, (by show _ = kWr (f8_7 m9) (f8_8 m9); unfold kWr kOr; (repeat' split) <;> first | (with_reducible rfl) | (exfalso; omega) | rfl | omega | (simp only [Int32.zero_or]; done) | (rw [Int32.zero_or]; done)), (by rw [ht]; exact hP9), hD9⟩, h.2.2.2.1.F ht⟩) h.2.2.2.1.2.2 dX8_writes_69 hlocks
        · skip
          have i_12 : (f8_7 m9).toInt = 8 := (fa_eq _ _).mp c_12
          exfalso; omega
set_option maxHeartbeats 4000000 in
set_option maxRecDepth 100000 in
theorem c_neededN (l : Launch) (dC : Nat → ClassId) (dI : Nat → Nat → Nat) (sz : Nat) (o8 : Nat) (a8_0 : Nat) (a8_1 : Nat) (a8_2 : Nat) (a8_3 : Nat) (a8_4 : Nat) (a8_5 : Nat) (v8_6 : Int32) (a8_7 : Nat) (a8_8 : Nat) (a8_9 : Nat) (a8_10 : Nat) (a8_11 : Nat) (v8_12 : Int32) (a8_13 : Nat) (a8_14 : Nat) (a8_15 : Nat) (a8_16 : Nat) (a8_17 : Nat) (a8_18 : Nat) (a8_19 : Nat) (a8_20 : Nat) (a8_21 : Nat) (a8_22 : Nat) (a8_23 : Nat) (a8_24 : Nat) (v8_25 : Int32) (v8_26 : Int32) (a8_27 : Nat) (a8_28 : Nat) (a8_29 : Nat) (a8_30 : Nat) (a8_31 : Nat) (v8_32 : Int32) (v8_33 : Int32) (v8_34 : Int32) (v8_35 : Int32) (a8_36 : Nat) (a8_37 : Nat) (v8_38 : Int32) (v8_39 : Int32) (v8_40 : Int32) (a8_41 : Nat) (a8_42 : Nat) (v8_43 : Int32) (c8_7 : ClassId) (f8_7 : Nat → Int32) (c8_8 : ClassId) (f8_8 : Nat → Int32) (c8_9 : ClassId) (f8_9 : Nat → Int32) (c8_10 : ClassId) (f8_10 : Nat → Int32) (m9 : Nat) (i9 : Nat) (hK : IK f8_7) (hp : m9 < 120 ∧ i9 < 120) : Met l yX8_needed wsX8_needed ({ frames := 2, cells := 0, slots := 0, locals := 42 } : Room) (va_Pc [.ref o8, .int (nI m9), .int (nI i9)] (KPre (dC, dI) [(o8, .inr (8, [.ref a8_0, .ref a8_1, .ref a8_2, .ref a8_3, .ref a8_4, .ref a8_5, .int v8_6, .ref a8_7, .ref a8_8, .ref a8_9, .ref a8_10, .ref a8_11, .int v8_12, .ref a8_13, .ref a8_14, .ref a8_15, .ref a8_16, .ref a8_17, .ref a8_18, .ref a8_19, .ref a8_20, .ref a8_21, .ref a8_22, .ref a8_23, .ref a8_24, .int v8_25, .int v8_26, .ref a8_27, .ref a8_28, .ref a8_29, .ref a8_30, .ref a8_31, .int v8_32, .int v8_33, .int v8_34, .int v8_35, .ref a8_36, .ref a8_37, .int v8_38, .int v8_39, .int v8_40, .ref a8_41, .ref a8_42, .int v8_43])), (a8_7, .inl (c8_7, 120, .inl f8_7)), (a8_8, .inl (c8_8, 120, .inl f8_8)), (a8_9, .inl (c8_9, 120, .inl f8_9)), (a8_10, .inl (c8_10, 120, .inl f8_10))] [(c8_7, .int), (c8_8, .int), (c8_9, .int), (c8_10, .int)] sz (fun _ => True))) (va_Qi (fun (r : Int32) (u : Unit) => r = nI (kNd (f8_7 m9) (f8_7 i9) ((rR f8_7 f8_9 f8_10) m9) ((rW f8_7 f8_8) m9) ((rR f8_7 f8_9 f8_10) i9) ((rW f8_7 f8_8) i9))) (KPost (dC, dI) (va_A [(o8, .inr (8, [.ref a8_0, .ref a8_1, .ref a8_2, .ref a8_3, .ref a8_4, .ref a8_5, .int v8_6, .ref a8_7, .ref a8_8, .ref a8_9, .ref a8_10, .ref a8_11, .int v8_12, .ref a8_13, .ref a8_14, .ref a8_15, .ref a8_16, .ref a8_17, .ref a8_18, .ref a8_19, .ref a8_20, .ref a8_21, .ref a8_22, .ref a8_23, .ref a8_24, .int v8_25, .int v8_26, .ref a8_27, .ref a8_28, .ref a8_29, .ref a8_30, .ref a8_31, .int v8_32, .int v8_33, .int v8_34, .int v8_35, .ref a8_36, .ref a8_37, .int v8_38, .int v8_39, .int v8_40, .ref a8_41, .ref a8_42, .int v8_43])), (a8_7, .inl (c8_7, 120, .inl f8_7)), (a8_8, .inl (c8_8, 120, .inl f8_8)), (a8_9, .inl (c8_9, 120, .inl f8_9)), (a8_10, .inl (c8_10, 120, .inl f8_10))] sz) (fun (u : Unit) => [(o8, .inr (8, [.ref a8_0, .ref a8_1, .ref a8_2, .ref a8_3, .ref a8_4, .ref a8_5, .int v8_6, .ref a8_7, .ref a8_8, .ref a8_9, .ref a8_10, .ref a8_11, .int v8_12, .ref a8_13, .ref a8_14, .ref a8_15, .ref a8_16, .ref a8_17, .ref a8_18, .ref a8_19, .ref a8_20, .ref a8_21, .ref a8_22, .ref a8_23, .ref a8_24, .int v8_25, .int v8_26, .ref a8_27, .ref a8_28, .ref a8_29, .ref a8_30, .ref a8_31, .int v8_32, .int v8_33, .int v8_34, .int v8_35, .ref a8_36, .ref a8_37, .int v8_38, .int v8_39, .int v8_40, .ref a8_41, .ref a8_42, .int v8_43])), (a8_7, .inl (c8_7, 120, .inl f8_7)), (a8_8, .inl (c8_8, 120, .inl f8_8)), (a8_9, .inl (c8_9, 120, .inl f8_9)), (a8_10, .inl (c8_10, 120, .inl f8_10))])) (va_A [(o8, .inr (8, [.ref a8_0, .ref a8_1, .ref a8_2, .ref a8_3, .ref a8_4, .ref a8_5, .int v8_6, .ref a8_7, .ref a8_8, .ref a8_9, .ref a8_10, .ref a8_11, .int v8_12, .ref a8_13, .ref a8_14, .ref a8_15, .ref a8_16, .ref a8_17, .ref a8_18, .ref a8_19, .ref a8_20, .ref a8_21, .ref a8_22, .ref a8_23, .ref a8_24, .int v8_25, .int v8_26, .ref a8_27, .ref a8_28, .ref a8_29, .ref a8_30, .ref a8_31, .int v8_32, .int v8_33, .int v8_34, .int v8_35, .ref a8_36, .ref a8_37, .int v8_38, .int v8_39, .int v8_40, .ref a8_41, .ref a8_42, .int v8_43])), (a8_7, .inl (c8_7, 120, .inl f8_7)), (a8_8, .inl (c8_8, 120, .inl f8_8)), (a8_9, .inl (c8_9, 120, .inl f8_9)), (a8_10, .inl (c8_10, 120, .inl f8_10))] sz)) 0 0 (va_A [(o8, .inr (8, [.ref a8_0, .ref a8_1, .ref a8_2, .ref a8_3, .ref a8_4, .ref a8_5, .int v8_6, .ref a8_7, .ref a8_8, .ref a8_9, .ref a8_10, .ref a8_11, .int v8_12, .ref a8_13, .ref a8_14, .ref a8_15, .ref a8_16, .ref a8_17, .ref a8_18, .ref a8_19, .ref a8_20, .ref a8_21, .ref a8_22, .ref a8_23, .ref a8_24, .int v8_25, .int v8_26, .ref a8_27, .ref a8_28, .ref a8_29, .ref a8_30, .ref a8_31, .int v8_32, .int v8_33, .int v8_34, .int v8_35, .ref a8_36, .ref a8_37, .int v8_38, .int v8_39, .int v8_40, .ref a8_41, .ref a8_42, .int v8_43])), (a8_7, .inl (c8_7, 120, .inl f8_7)), (a8_8, .inl (c8_8, 120, .inl f8_8)), (a8_9, .inl (c8_9, 120, .inl f8_9)), (a8_10, .inl (c8_10, 120, .inl f8_10))] sz) := by
  refine kMet (y := yX8_needed) (wsM := wsX8_needed) (cc := cX8_needed) (maxL := 3) (ret := (some .int)) (rm := ({ frames := 2, cells := 0, slots := 0, locals := 42 } : Room)) (mc := 0) (ms := 0) (av := [.ref o8, .int (nI m9), .int (nI i9)]) (D := (dC, dI)) (wc := [(o8, .inr (8, [.ref a8_0, .ref a8_1, .ref a8_2, .ref a8_3, .ref a8_4, .ref a8_5, .int v8_6, .ref a8_7, .ref a8_8, .ref a8_9, .ref a8_10, .ref a8_11, .int v8_12, .ref a8_13, .ref a8_14, .ref a8_15, .ref a8_16, .ref a8_17, .ref a8_18, .ref a8_19, .ref a8_20, .ref a8_21, .ref a8_22, .ref a8_23, .ref a8_24, .int v8_25, .int v8_26, .ref a8_27, .ref a8_28, .ref a8_29, .ref a8_30, .ref a8_31, .int v8_32, .int v8_33, .int v8_34, .int v8_35, .ref a8_36, .ref a8_37, .int v8_38, .int v8_39, .int v8_40, .ref a8_41, .ref a8_42, .int v8_43])), (a8_7, .inl (c8_7, 120, .inl f8_7)), (a8_8, .inl (c8_8, 120, .inl f8_8)), (a8_9, .inl (c8_9, 120, .inl f8_9)), (a8_10, .inl (c8_10, 120, .inl f8_10))]) (tc := [(c8_7, .int), (c8_8, .int), (c8_9, .int), (c8_10, .int)]) (sz := sz) (X := fun _ => True) (Qc := fun A => va_Qi (fun (r : Int32) (u : Unit) => r = nI (kNd (f8_7 m9) (f8_7 i9) ((rR f8_7 f8_9 f8_10) m9) ((rW f8_7 f8_8) m9) ((rR f8_7 f8_9 f8_10) i9) ((rW f8_7 f8_8) i9))) (KPost (dC, dI) A (fun (u : Unit) => [(o8, .inr (8, [.ref a8_0, .ref a8_1, .ref a8_2, .ref a8_3, .ref a8_4, .ref a8_5, .int v8_6, .ref a8_7, .ref a8_8, .ref a8_9, .ref a8_10, .ref a8_11, .int v8_12, .ref a8_13, .ref a8_14, .ref a8_15, .ref a8_16, .ref a8_17, .ref a8_18, .ref a8_19, .ref a8_20, .ref a8_21, .ref a8_22, .ref a8_23, .ref a8_24, .int v8_25, .int v8_26, .ref a8_27, .ref a8_28, .ref a8_29, .ref a8_30, .ref a8_31, .int v8_32, .int v8_33, .int v8_34, .int v8_35, .ref a8_36, .ref a8_37, .int v8_38, .int v8_39, .int v8_40, .ref a8_41, .ref a8_42, .int v8_43])), (a8_7, .inl (c8_7, 120, .inl f8_7)), (a8_8, .inl (c8_8, 120, .inl f8_8)), (a8_9, .inl (c8_9, 120, .inl f8_9)), (a8_10, .inl (c8_10, 120, .inl f8_10))])) A) (by decide) rfl (Nat.le_of_ble_eq_true rfl) ?_
  intro p e s m below meth c A ls E hr hlocks hnm hsz hAe hX h hl
  have hx := E.1
  have hb := E.2.1
  have hl : lv_has ls 3 [(0, .ref o8), (1, .int (nI m9)), (2, .int (nI i9))] := hl
  refine lv_aload_n hx hb dX8_needed_0 rfl (lv_at hl 0 rfl) ?_
  refine lv_iload_n hx hb dX8_needed_1 rfl (lv_at hl 1 rfl) ?_
  refine kc_i (wc := [(o8, .inr (8, [.ref a8_0, .ref a8_1, .ref a8_2, .ref a8_3, .ref a8_4, .ref a8_5, .int v8_6, .ref a8_7, .ref a8_8, .ref a8_9, .ref a8_10, .ref a8_11, .int v8_12, .ref a8_13, .ref a8_14, .ref a8_15, .ref a8_16, .ref a8_17, .ref a8_18, .ref a8_19, .ref a8_20, .ref a8_21, .ref a8_22, .ref a8_23, .ref a8_24, .int v8_25, .int v8_26, .ref a8_27, .ref a8_28, .ref a8_29, .ref a8_30, .ref a8_31, .int v8_32, .int v8_33, .int v8_34, .int v8_35, .ref a8_36, .ref a8_37, .int v8_38, .int v8_39, .int v8_40, .ref a8_41, .ref a8_42, .int v8_43])), (a8_7, .inl (c8_7, 120, .inl f8_7)), (a8_8, .inl (c8_8, 120, .inl f8_8)), (a8_9, .inl (c8_9, 120, .inl f8_9)), (a8_10, .inl (c8_10, 120, .inl f8_10))]) (wr := []) h (va_runV (As := [.int (nI m9)]) (rest := []) E (c_writesN l dC dI _ (o8 := o8) (a8_0 := a8_0) (a8_1 := a8_1) (a8_2 := a8_2) (a8_3 := a8_3) (a8_4 := a8_4) (a8_5 := a8_5) (v8_6 := v8_6) (a8_7 := a8_7) (a8_8 := a8_8) (a8_9 := a8_9) (a8_10 := a8_10) (a8_11 := a8_11) (v8_12 := v8_12) (a8_13 := a8_13) (a8_14 := a8_14) (a8_15 := a8_15) (a8_16 := a8_16) (a8_17 := a8_17) (a8_18 := a8_18) (a8_19 := a8_19) (a8_20 := a8_20) (a8_21 := a8_21) (a8_22 := a8_22) (a8_23 := a8_23) (a8_24 := a8_24) (v8_25 := v8_25) (v8_26 := v8_26) (a8_27 := a8_27) (a8_28 := a8_28) (a8_29 := a8_29) (a8_30 := a8_30) (a8_31 := a8_31) (v8_32 := v8_32) (v8_33 := v8_33) (v8_34 := v8_34) (v8_35 := v8_35) (a8_36 := a8_36) (a8_37 := a8_37) (v8_38 := v8_38) (v8_39 := v8_39) (v8_40 := v8_40) (a8_41 := a8_41) (a8_42 := a8_42) (v8_43 := v8_43) (c8_7 := c8_7) (f8_7 := f8_7) (c8_8 := c8_8) (f8_8 := f8_8) (c8_9 := c8_9) (f8_9 := f8_9) (c8_10 := c8_10) (f8_10 := f8_10) (m9 := m9) (hK := hK) (hp := (by omega))) (cwV 1 E.2.2.2.2 gX8_needed_X8_writes rfl rfl rfl hdV_X8_writes ⟨Nat.le_of_ble_eq_true rfl, Nat.le_of_ble_eq_true rfl⟩) (kPreV (q0 := 0) (ci := 8) (q := (RX8, TX8, 44)) h KX_true (fun _ _ _ => trivial) [0, 1, 2, 3, 4] [0, 1, 2, 3] (by decide) rfl rfl rfl rfl) rfl rfl hl.1 rfl (lv_room (Nat.le_of_ble_eq_true rfl)) dX8_needed_2 ⟨Nat.le_of_ble_eq_true rfl, Nat.le_of_ble_eq_true rfl⟩) [0, 1, 2, 3, 4] [] rfl rfl (by decide) (by decide) (fun r_1 u_1 H locs hw_1 h => ?_)
  have h : KS (dC, dI) A [(o8, .inr (8, [.ref a8_0, .ref a8_1, .ref a8_2, .ref a8_3, .ref a8_4, .ref a8_5, .int v8_6, .ref a8_7, .ref a8_8, .ref a8_9, .ref a8_10, .ref a8_11, .int v8_12, .ref a8_13, .ref a8_14, .ref a8_15, .ref a8_16, .ref a8_17, .ref a8_18, .ref a8_19, .ref a8_20, .ref a8_21, .ref a8_22, .ref a8_23, .ref a8_24, .int v8_25, .int v8_26, .ref a8_27, .ref a8_28, .ref a8_29, .ref a8_30, .ref a8_31, .int v8_32, .int v8_33, .int v8_34, .int v8_35, .ref a8_36, .ref a8_37, .int v8_38, .int v8_39, .int v8_40, .ref a8_41, .ref a8_42, .int v8_43])), (a8_7, .inl (c8_7, 120, .inl f8_7)), (a8_8, .inl (c8_8, 120, .inl f8_8)), (a8_9, .inl (c8_9, 120, .inl f8_9)), (a8_10, .inl (c8_10, 120, .inl f8_10))] [(c8_7, .int), (c8_8, .int), (c8_9, .int), (c8_10, .int)] s H locs := h
  have hw_1 : r_1 = (rW f8_7 f8_8) m9 := by first | exact hw_1 | (simp only [Int32.toInt_toInt64] at hw_1; exact hw_1)
  refine k_topi (y := (rW f8_7 f8_8) m9) (hw_1) ?_
  refine W.eq (g2 := F0 m 5 ls [.int ((rW f8_7 f8_8) m9)]) rfl ?_
  refine lv_aload_n hx hb dX8_needed_5 rfl (lv_at hl 0 rfl) ?_
  refine lv_iload_n hx hb dX8_needed_6 rfl (lv_at hl 2 rfl) ?_
  refine kc_i (wc := [(o8, .inr (8, [.ref a8_0, .ref a8_1, .ref a8_2, .ref a8_3, .ref a8_4, .ref a8_5, .int v8_6, .ref a8_7, .ref a8_8, .ref a8_9, .ref a8_10, .ref a8_11, .int v8_12, .ref a8_13, .ref a8_14, .ref a8_15, .ref a8_16, .ref a8_17, .ref a8_18, .ref a8_19, .ref a8_20, .ref a8_21, .ref a8_22, .ref a8_23, .ref a8_24, .int v8_25, .int v8_26, .ref a8_27, .ref a8_28, .ref a8_29, .ref a8_30, .ref a8_31, .int v8_32, .int v8_33, .int v8_34, .int v8_35, .ref a8_36, .ref a8_37, .int v8_38, .int v8_39, .int v8_40, .ref a8_41, .ref a8_42, .int v8_43])), (a8_7, .inl (c8_7, 120, .inl f8_7)), (a8_8, .inl (c8_8, 120, .inl f8_8)), (a8_9, .inl (c8_9, 120, .inl f8_9)), (a8_10, .inl (c8_10, 120, .inl f8_10))]) (wr := []) h (va_runV (As := [.int (nI i9)]) (rest := [.int ((rW f8_7 f8_8) m9)]) E (c_readsN l dC dI _ (o8 := o8) (a8_0 := a8_0) (a8_1 := a8_1) (a8_2 := a8_2) (a8_3 := a8_3) (a8_4 := a8_4) (a8_5 := a8_5) (v8_6 := v8_6) (a8_7 := a8_7) (a8_8 := a8_8) (a8_9 := a8_9) (a8_10 := a8_10) (a8_11 := a8_11) (v8_12 := v8_12) (a8_13 := a8_13) (a8_14 := a8_14) (a8_15 := a8_15) (a8_16 := a8_16) (a8_17 := a8_17) (a8_18 := a8_18) (a8_19 := a8_19) (a8_20 := a8_20) (a8_21 := a8_21) (a8_22 := a8_22) (a8_23 := a8_23) (a8_24 := a8_24) (v8_25 := v8_25) (v8_26 := v8_26) (a8_27 := a8_27) (a8_28 := a8_28) (a8_29 := a8_29) (a8_30 := a8_30) (a8_31 := a8_31) (v8_32 := v8_32) (v8_33 := v8_33) (v8_34 := v8_34) (v8_35 := v8_35) (a8_36 := a8_36) (a8_37 := a8_37) (v8_38 := v8_38) (v8_39 := v8_39) (v8_40 := v8_40) (a8_41 := a8_41) (a8_42 := a8_42) (v8_43 := v8_43) (c8_7 := c8_7) (f8_7 := f8_7) (c8_8 := c8_8) (f8_8 := f8_8) (c8_9 := c8_9) (f8_9 := f8_9) (c8_10 := c8_10) (f8_10 := f8_10) (m9 := i9) (hK := hK) (hp := (by omega))) (cwV 1 E.2.2.2.2 gX8_needed_X8_reads rfl rfl rfl hdV_X8_reads ⟨Nat.le_of_ble_eq_true rfl, Nat.le_of_ble_eq_true rfl⟩) (kPreV (q0 := 0) (ci := 8) (q := (RX8, TX8, 44)) h KX_true (fun _ _ _ => trivial) [0, 1, 2, 3, 4] [0, 1, 2, 3] (by decide) rfl rfl rfl rfl) rfl rfl hl.1 rfl (lv_room (Nat.le_of_ble_eq_true rfl)) dX8_needed_7 ⟨Nat.le_of_ble_eq_true rfl, Nat.le_of_ble_eq_true rfl⟩) [0, 1, 2, 3, 4] [] rfl rfl (by decide) (by decide) (fun r_2 u_2 H locs hw_2 h => ?_)
  have h : KS (dC, dI) A [(o8, .inr (8, [.ref a8_0, .ref a8_1, .ref a8_2, .ref a8_3, .ref a8_4, .ref a8_5, .int v8_6, .ref a8_7, .ref a8_8, .ref a8_9, .ref a8_10, .ref a8_11, .int v8_12, .ref a8_13, .ref a8_14, .ref a8_15, .ref a8_16, .ref a8_17, .ref a8_18, .ref a8_19, .ref a8_20, .ref a8_21, .ref a8_22, .ref a8_23, .ref a8_24, .int v8_25, .int v8_26, .ref a8_27, .ref a8_28, .ref a8_29, .ref a8_30, .ref a8_31, .int v8_32, .int v8_33, .int v8_34, .int v8_35, .ref a8_36, .ref a8_37, .int v8_38, .int v8_39, .int v8_40, .ref a8_41, .ref a8_42, .int v8_43])), (a8_7, .inl (c8_7, 120, .inl f8_7)), (a8_8, .inl (c8_8, 120, .inl f8_8)), (a8_9, .inl (c8_9, 120, .inl f8_9)), (a8_10, .inl (c8_10, 120, .inl f8_10))] [(c8_7, .int), (c8_8, .int), (c8_9, .int), (c8_10, .int)] s H locs := h
  have hw_2 : r_2 = (rR f8_7 f8_9 f8_10) i9 := by first | exact hw_2 | (simp only [Int32.toInt_toInt64] at hw_2; exact hw_2)
  refine k_topi (y := (rR f8_7 f8_9 f8_10) i9) (hw_2) ?_
  refine W.eq (g2 := F0 m 10 ls [.int ((rR f8_7 f8_9 f8_10) i9), .int ((rW f8_7 f8_8) m9)]) rfl ?_
  refine lv_aload_n hx hb dX8_needed_10 rfl (lv_at hl 0 rfl) ?_
  refine lv_iload_n hx hb dX8_needed_11 rfl (lv_at hl 2 rfl) ?_
  refine kc_i (wc := [(o8, .inr (8, [.ref a8_0, .ref a8_1, .ref a8_2, .ref a8_3, .ref a8_4, .ref a8_5, .int v8_6, .ref a8_7, .ref a8_8, .ref a8_9, .ref a8_10, .ref a8_11, .int v8_12, .ref a8_13, .ref a8_14, .ref a8_15, .ref a8_16, .ref a8_17, .ref a8_18, .ref a8_19, .ref a8_20, .ref a8_21, .ref a8_22, .ref a8_23, .ref a8_24, .int v8_25, .int v8_26, .ref a8_27, .ref a8_28, .ref a8_29, .ref a8_30, .ref a8_31, .int v8_32, .int v8_33, .int v8_34, .int v8_35, .ref a8_36, .ref a8_37, .int v8_38, .int v8_39, .int v8_40, .ref a8_41, .ref a8_42, .int v8_43])), (a8_7, .inl (c8_7, 120, .inl f8_7)), (a8_8, .inl (c8_8, 120, .inl f8_8)), (a8_9, .inl (c8_9, 120, .inl f8_9)), (a8_10, .inl (c8_10, 120, .inl f8_10))]) (wr := []) h (va_runV (As := [.int (nI i9)]) (rest := [.int ((rR f8_7 f8_9 f8_10) i9), .int ((rW f8_7 f8_8) m9)]) E (c_writesN l dC dI _ (o8 := o8) (a8_0 := a8_0) (a8_1 := a8_1) (a8_2 := a8_2) (a8_3 := a8_3) (a8_4 := a8_4) (a8_5 := a8_5) (v8_6 := v8_6) (a8_7 := a8_7) (a8_8 := a8_8) (a8_9 := a8_9) (a8_10 := a8_10) (a8_11 := a8_11) (v8_12 := v8_12) (a8_13 := a8_13) (a8_14 := a8_14) (a8_15 := a8_15) (a8_16 := a8_16) (a8_17 := a8_17) (a8_18 := a8_18) (a8_19 := a8_19) (a8_20 := a8_20) (a8_21 := a8_21) (a8_22 := a8_22) (a8_23 := a8_23) (a8_24 := a8_24) (v8_25 := v8_25) (v8_26 := v8_26) (a8_27 := a8_27) (a8_28 := a8_28) (a8_29 := a8_29) (a8_30 := a8_30) (a8_31 := a8_31) (v8_32 := v8_32) (v8_33 := v8_33) (v8_34 := v8_34) (v8_35 := v8_35) (a8_36 := a8_36) (a8_37 := a8_37) (v8_38 := v8_38) (v8_39 := v8_39) (v8_40 := v8_40) (a8_41 := a8_41) (a8_42 := a8_42) (v8_43 := v8_43) (c8_7 := c8_7) (f8_7 := f8_7) (c8_8 := c8_8) (f8_8 := f8_8) (c8_9 := c8_9) (f8_9 := f8_9) (c8_10 := c8_10) (f8_10 := f8_10) (m9 := i9) (hK := hK) (hp := (by omega))) (cwV 1 E.2.2.2.2 gX8_needed_X8_writes rfl rfl rfl hdV_X8_writes ⟨Nat.le_of_ble_eq_true rfl, Nat.le_of_ble_eq_true rfl⟩) (kPreV (q0 := 0) (ci := 8) (q := (RX8, TX8, 44)) h KX_true (fun _ _ _ => trivial) [0, 1, 2, 3, 4] [0, 1, 2, 3] (by decide) rfl rfl rfl rfl) rfl rfl hl.1 rfl (lv_room (Nat.le_of_ble_eq_true rfl)) dX8_needed_12 ⟨Nat.le_of_ble_eq_true rfl, Nat.le_of_ble_eq_true rfl⟩) [0, 1, 2, 3, 4] [] rfl rfl (by decide) (by decide) (fun r_3 u_3 H locs hw_3 h => ?_)
  have h : KS (dC, dI) A [(o8, .inr (8, [.ref a8_0, .ref a8_1, .ref a8_2, .ref a8_3, .ref a8_4, .ref a8_5, .int v8_6, .ref a8_7, .ref a8_8, .ref a8_9, .ref a8_10, .ref a8_11, .int v8_12, .ref a8_13, .ref a8_14, .ref a8_15, .ref a8_16, .ref a8_17, .ref a8_18, .ref a8_19, .ref a8_20, .ref a8_21, .ref a8_22, .ref a8_23, .ref a8_24, .int v8_25, .int v8_26, .ref a8_27, .ref a8_28, .ref a8_29, .ref a8_30, .ref a8_31, .int v8_32, .int v8_33, .int v8_34, .int v8_35, .ref a8_36, .ref a8_37, .int v8_38, .int v8_39, .int v8_40, .ref a8_41, .ref a8_42, .int v8_43])), (a8_7, .inl (c8_7, 120, .inl f8_7)), (a8_8, .inl (c8_8, 120, .inl f8_8)), (a8_9, .inl (c8_9, 120, .inl f8_9)), (a8_10, .inl (c8_10, 120, .inl f8_10))] [(c8_7, .int), (c8_8, .int), (c8_9, .int), (c8_10, .int)] s H locs := h
  have hw_3 : r_3 = (rW f8_7 f8_8) i9 := by first | exact hw_3 | (simp only [Int32.toInt_toInt64] at hw_3; exact hw_3)
  refine k_topi (y := (rW f8_7 f8_8) i9) (hw_3) ?_
  refine W.eq (g2 := F0 m 15 ls [.int ((rW f8_7 f8_8) i9), .int ((rR f8_7 f8_9 f8_10) i9), .int ((rW f8_7 f8_8) m9)]) rfl ?_
  refine lv_ior hx hb dX8_needed_15 ?_
  refine lv_iand hx hb dX8_needed_16 ?_
  refine lv_if_ne (tgt := 63) hx hb dX8_needed_17 rfl (fun c_4 => ?_) (fun c_4 => ?_)
  · skip
    have i_4 : ¬ (((rW f8_7 f8_8) m9) &&& (((rR f8_7 f8_9 f8_10) i9) ||| ((rW f8_7 f8_8) i9))).toInt = 0 := fun h9 => c_4 ((fa_eq _ _).mpr h9)
    refine lv_iconst (v := 2) hx hb dX8_needed_63 kic_2 ?_
    have hP9 := h.2.1.sub [0, 1, 2, 3, 4] rfl
    have hD9 := h.2.2.1.sub (ws' := [(o8, .inr (8, [.ref a8_0, .ref a8_1, .ref a8_2, .ref a8_3, .ref a8_4, .ref a8_5, .int v8_6, .ref a8_7, .ref a8_8, .ref a8_9, .ref a8_10, .ref a8_11, .int v8_12, .ref a8_13, .ref a8_14, .ref a8_15, .ref a8_16, .ref a8_17, .ref a8_18, .ref a8_19, .ref a8_20, .ref a8_21, .ref a8_22, .ref a8_23, .ref a8_24, .int v8_25, .int v8_26, .ref a8_27, .ref a8_28, .ref a8_29, .ref a8_30, .ref a8_31, .int v8_32, .int v8_33, .int v8_34, .int v8_35, .ref a8_36, .ref a8_37, .int v8_38, .int v8_39, .int v8_40, .ref a8_41, .ref a8_42, .int v8_43])), (a8_7, .inl (c8_7, 120, .inl f8_7)), (a8_8, .inl (c8_8, 120, .inl f8_8)), (a8_9, .inl (c8_9, 120, .inl f8_9)), (a8_10, .inl (c8_10, 120, .inl f8_10))]) [0, 1, 2, 3, 4] (by decide) rfl
    exact W.iret (v := 2) hx hb hr (fun t ht hW => ⟨⟨2, (), rfl, (by unfold kNd; (repeat' split) <;> first | (with_reducible rfl) | (exfalso; omega) | rfl | omega), (by rw [ht]; exact hP9), hD9⟩, h.2.2.2.1.F ht⟩) h.2.2.2.1.2.2 dX8_needed_64 hlocks
  · skip
    have i_4 : (((rW f8_7 f8_8) m9) &&& (((rR f8_7 f8_9 f8_10) i9) ||| ((rW f8_7 f8_8) i9))).toInt = 0 := (fa_eq _ _).mp c_4
    refine lv_aload_n hx hb dX8_needed_20 rfl (lv_at hl 0 rfl) ?_
    refine k_get (v := .ref a8_7) E h (fun w h => List.mem_cons_of_mem _ (List.mem_append_right _ h)) 0 rfl rfl 7 (Nat.le_of_ble_eq_true rfl) (List.mem_of_getElem? (i := 1) rfl) rfl dX8_needed_21 ?_
    refine lv_iload_n hx hb dX8_needed_24 rfl (lv_at hl 1 rfl) ?_
    refine k_iald (v := f8_7 m9) E h 1 0 rfl rfl (vp_in_nI (by omega) (by omega)) (by rw [nI_clamp (by omega)]) dX8_needed_25 ?_
    refine lv_bipush (v := 9) hx hb dX8_needed_26 kbi_9 ?_
    refine lv_icmp_eq (tgt := 63) hx hb dX8_needed_28 rfl (fun c_5 => ?_) (fun c_5 => ?_)
    · skip
      have i_5 : (f8_7 m9).toInt = 9 := (fa_eq _ _).mp c_5
      refine lv_iconst (v := 2) hx hb dX8_needed_63 kic_2 ?_
      have hP9 := h.2.1.sub [0, 1, 2, 3, 4] rfl
      have hD9 := h.2.2.1.sub (ws' := [(o8, .inr (8, [.ref a8_0, .ref a8_1, .ref a8_2, .ref a8_3, .ref a8_4, .ref a8_5, .int v8_6, .ref a8_7, .ref a8_8, .ref a8_9, .ref a8_10, .ref a8_11, .int v8_12, .ref a8_13, .ref a8_14, .ref a8_15, .ref a8_16, .ref a8_17, .ref a8_18, .ref a8_19, .ref a8_20, .ref a8_21, .ref a8_22, .ref a8_23, .ref a8_24, .int v8_25, .int v8_26, .ref a8_27, .ref a8_28, .ref a8_29, .ref a8_30, .ref a8_31, .int v8_32, .int v8_33, .int v8_34, .int v8_35, .ref a8_36, .ref a8_37, .int v8_38, .int v8_39, .int v8_40, .ref a8_41, .ref a8_42, .int v8_43])), (a8_7, .inl (c8_7, 120, .inl f8_7)), (a8_8, .inl (c8_8, 120, .inl f8_8)), (a8_9, .inl (c8_9, 120, .inl f8_9)), (a8_10, .inl (c8_10, 120, .inl f8_10))]) [0, 1, 2, 3, 4] (by decide) rfl
      exact W.iret (v := 2) hx hb hr (fun t ht hW => ⟨⟨2, (), rfl, (by unfold kNd; (repeat' split) <;> first | (with_reducible rfl) | (exfalso; omega) | rfl | omega), (by rw [ht]; exact hP9), hD9⟩, h.2.2.2.1.F ht⟩) h.2.2.2.1.2.2 dX8_needed_64 hlocks
    · skip
      have i_5 : ¬ (f8_7 m9).toInt = 9 := fun h9 => c_5 ((fa_eq _ _).mpr h9)
      refine lv_aload_n hx hb dX8_needed_31 rfl (lv_at hl 0 rfl) ?_
      refine k_get (v := .ref a8_7) E h (fun w h => List.mem_cons_of_mem _ (List.mem_append_right _ h)) 0 rfl rfl 7 (Nat.le_of_ble_eq_true rfl) (List.mem_of_getElem? (i := 1) rfl) rfl dX8_needed_32 ?_
      refine lv_iload_n hx hb dX8_needed_35 rfl (lv_at hl 1 rfl) ?_
      refine k_iald (v := f8_7 m9) E h 1 0 rfl rfl (vp_in_nI (by omega) (by omega)) (by rw [nI_clamp (by omega)]) dX8_needed_36 ?_
      refine kc_i (wc := []) (wr := [(o8, .inr (8, [.ref a8_0, .ref a8_1, .ref a8_2, .ref a8_3, .ref a8_4, .ref a8_5, .int v8_6, .ref a8_7, .ref a8_8, .ref a8_9, .ref a8_10, .ref a8_11, .int v8_12, .ref a8_13, .ref a8_14, .ref a8_15, .ref a8_16, .ref a8_17, .ref a8_18, .ref a8_19, .ref a8_20, .ref a8_21, .ref a8_22, .ref a8_23, .ref a8_24, .int v8_25, .int v8_26, .ref a8_27, .ref a8_28, .ref a8_29, .ref a8_30, .ref a8_31, .int v8_32, .int v8_33, .int v8_34, .int v8_35, .ref a8_36, .ref a8_37, .int v8_38, .int v8_39, .int v8_40, .ref a8_41, .ref a8_42, .int v8_43])), (a8_7, .inl (c8_7, 120, .inl f8_7)), (a8_8, .inl (c8_8, 120, .inl f8_8)), (a8_9, .inl (c8_9, 120, .inl f8_9)), (a8_10, .inl (c8_10, 120, .inl f8_10))]) h (va_runS (As := [.int (f8_7 m9)]) (rest := []) E (c_X8_canTrap l dC dI _ (p0 := f8_7 m9)  ) (va_cwS 1 E.2.2.2.2 gX8_needed_X8_canTrap rfl rfl rfl hdS_X8_canTrap ⟨Nat.le_of_ble_eq_true rfl, Nat.le_of_ble_eq_true rfl⟩) (kPreS h KX_true (fun _ _ _ => trivial) [] [] (by decide) rfl rfl) rfl rfl hl.1 rfl (lv_room (Nat.le_of_ble_eq_true rfl)) dX8_needed_37 ⟨Nat.le_of_ble_eq_true rfl, Nat.le_of_ble_eq_true rfl⟩) [] [0, 1, 2, 3, 4] rfl rfl (by decide) (by decide) (fun r_6 u_6 H locs hw_6 h => ?_)
      have h : KS (dC, dI) A [(o8, .inr (8, [.ref a8_0, .ref a8_1, .ref a8_2, .ref a8_3, .ref a8_4, .ref a8_5, .int v8_6, .ref a8_7, .ref a8_8, .ref a8_9, .ref a8_10, .ref a8_11, .int v8_12, .ref a8_13, .ref a8_14, .ref a8_15, .ref a8_16, .ref a8_17, .ref a8_18, .ref a8_19, .ref a8_20, .ref a8_21, .ref a8_22, .ref a8_23, .ref a8_24, .int v8_25, .int v8_26, .ref a8_27, .ref a8_28, .ref a8_29, .ref a8_30, .ref a8_31, .int v8_32, .int v8_33, .int v8_34, .int v8_35, .ref a8_36, .ref a8_37, .int v8_38, .int v8_39, .int v8_40, .ref a8_41, .ref a8_42, .int v8_43])), (a8_7, .inl (c8_7, 120, .inl f8_7)), (a8_8, .inl (c8_8, 120, .inl f8_8)), (a8_9, .inl (c8_9, 120, .inl f8_9)), (a8_10, .inl (c8_10, 120, .inl f8_10))] [(c8_7, .int), (c8_8, .int), (c8_9, .int), (c8_10, .int)] s H locs := h
      have hw_6 : r_6 = if ((f8_7 m9).toInt = 7 ∨ (f8_7 m9).toInt = 8 ∨ (f8_7 m9).toInt = 10) then 1 else 0 := by first | exact hw_6 | (simp only [Int32.toInt_toInt64] at hw_6; exact hw_6)
      refine W.eq (g2 := F0 m 40 ls [.int r_6]) rfl ?_
      refine lv_if_eq (tgt := 65) hx hb dX8_needed_40 rfl (fun c_7 => ?_) (fun c_7 => ?_)
      · skip
        have b_7 := kb0 hw_6 c_7
        refine lv_aload_n hx hb dX8_needed_65 rfl (lv_at hl 0 rfl) ?_
        refine lv_iload_n hx hb dX8_needed_66 rfl (lv_at hl 1 rfl) ?_
        refine kc_i (wc := [(o8, .inr (8, [.ref a8_0, .ref a8_1, .ref a8_2, .ref a8_3, .ref a8_4, .ref a8_5, .int v8_6, .ref a8_7, .ref a8_8, .ref a8_9, .ref a8_10, .ref a8_11, .int v8_12, .ref a8_13, .ref a8_14, .ref a8_15, .ref a8_16, .ref a8_17, .ref a8_18, .ref a8_19, .ref a8_20, .ref a8_21, .ref a8_22, .ref a8_23, .ref a8_24, .int v8_25, .int v8_26, .ref a8_27, .ref a8_28, .ref a8_29, .ref a8_30, .ref a8_31, .int v8_32, .int v8_33, .int v8_34, .int v8_35, .ref a8_36, .ref a8_37, .int v8_38, .int v8_39, .int v8_40, .ref a8_41, .ref a8_42, .int v8_43])), (a8_7, .inl (c8_7, 120, .inl f8_7)), (a8_8, .inl (c8_8, 120, .inl f8_8)), (a8_9, .inl (c8_9, 120, .inl f8_9)), (a8_10, .inl (c8_10, 120, .inl f8_10))]) (wr := []) h (va_runV (As := [.int (nI m9)]) (rest := []) E (c_readsN l dC dI _ (o8 := o8) (a8_0 := a8_0) (a8_1 := a8_1) (a8_2 := a8_2) (a8_3 := a8_3) (a8_4 := a8_4) (a8_5 := a8_5) (v8_6 := v8_6) (a8_7 := a8_7) (a8_8 := a8_8) (a8_9 := a8_9) (a8_10 := a8_10) (a8_11 := a8_11) (v8_12 := v8_12) (a8_13 := a8_13) (a8_14 := a8_14) (a8_15 := a8_15) (a8_16 := a8_16) (a8_17 := a8_17) (a8_18 := a8_18) (a8_19 := a8_19) (a8_20 := a8_20) (a8_21 := a8_21) (a8_22 := a8_22) (a8_23 := a8_23) (a8_24 := a8_24) (v8_25 := v8_25) (v8_26 := v8_26) (a8_27 := a8_27) (a8_28 := a8_28) (a8_29 := a8_29) (a8_30 := a8_30) (a8_31 := a8_31) (v8_32 := v8_32) (v8_33 := v8_33) (v8_34 := v8_34) (v8_35 := v8_35) (a8_36 := a8_36) (a8_37 := a8_37) (v8_38 := v8_38) (v8_39 := v8_39) (v8_40 := v8_40) (a8_41 := a8_41) (a8_42 := a8_42) (v8_43 := v8_43) (c8_7 := c8_7) (f8_7 := f8_7) (c8_8 := c8_8) (f8_8 := f8_8) (c8_9 := c8_9) (f8_9 := f8_9) (c8_10 := c8_10) (f8_10 := f8_10) (m9 := m9) (hK := hK) (hp := (by omega))) (cwV 1 E.2.2.2.2 gX8_needed_X8_reads rfl rfl rfl hdV_X8_reads ⟨Nat.le_of_ble_eq_true rfl, Nat.le_of_ble_eq_true rfl⟩) (kPreV (q0 := 0) (ci := 8) (q := (RX8, TX8, 44)) h KX_true (fun _ _ _ => trivial) [0, 1, 2, 3, 4] [0, 1, 2, 3] (by decide) rfl rfl rfl rfl) rfl rfl hl.1 rfl (lv_room (Nat.le_of_ble_eq_true rfl)) dX8_needed_67 ⟨Nat.le_of_ble_eq_true rfl, Nat.le_of_ble_eq_true rfl⟩) [0, 1, 2, 3, 4] [] rfl rfl (by decide) (by decide) (fun r_8 u_8 H locs hw_8 h => ?_)
        have h : KS (dC, dI) A [(o8, .inr (8, [.ref a8_0, .ref a8_1, .ref a8_2, .ref a8_3, .ref a8_4, .ref a8_5, .int v8_6, .ref a8_7, .ref a8_8, .ref a8_9, .ref a8_10, .ref a8_11, .int v8_12, .ref a8_13, .ref a8_14, .ref a8_15, .ref a8_16, .ref a8_17, .ref a8_18, .ref a8_19, .ref a8_20, .ref a8_21, .ref a8_22, .ref a8_23, .ref a8_24, .int v8_25, .int v8_26, .ref a8_27, .ref a8_28, .ref a8_29, .ref a8_30, .ref a8_31, .int v8_32, .int v8_33, .int v8_34, .int v8_35, .ref a8_36, .ref a8_37, .int v8_38, .int v8_39, .int v8_40, .ref a8_41, .ref a8_42, .int v8_43])), (a8_7, .inl (c8_7, 120, .inl f8_7)), (a8_8, .inl (c8_8, 120, .inl f8_8)), (a8_9, .inl (c8_9, 120, .inl f8_9)), (a8_10, .inl (c8_10, 120, .inl f8_10))] [(c8_7, .int), (c8_8, .int), (c8_9, .int), (c8_10, .int)] s H locs := h
        have hw_8 : r_8 = (rR f8_7 f8_9 f8_10) m9 := by first | exact hw_8 | (simp only [Int32.toInt_toInt64] at hw_8; exact hw_8)
        refine k_topi (y := (rR f8_7 f8_9 f8_10) m9) (hw_8) ?_
        refine W.eq (g2 := F0 m 70 ls [.int ((rR f8_7 f8_9 f8_10) m9)]) rfl ?_
        refine lv_aload_n hx hb dX8_needed_70 rfl (lv_at hl 0 rfl) ?_
        refine lv_iload_n hx hb dX8_needed_71 rfl (lv_at hl 2 rfl) ?_
        refine kc_i (wc := [(o8, .inr (8, [.ref a8_0, .ref a8_1, .ref a8_2, .ref a8_3, .ref a8_4, .ref a8_5, .int v8_6, .ref a8_7, .ref a8_8, .ref a8_9, .ref a8_10, .ref a8_11, .int v8_12, .ref a8_13, .ref a8_14, .ref a8_15, .ref a8_16, .ref a8_17, .ref a8_18, .ref a8_19, .ref a8_20, .ref a8_21, .ref a8_22, .ref a8_23, .ref a8_24, .int v8_25, .int v8_26, .ref a8_27, .ref a8_28, .ref a8_29, .ref a8_30, .ref a8_31, .int v8_32, .int v8_33, .int v8_34, .int v8_35, .ref a8_36, .ref a8_37, .int v8_38, .int v8_39, .int v8_40, .ref a8_41, .ref a8_42, .int v8_43])), (a8_7, .inl (c8_7, 120, .inl f8_7)), (a8_8, .inl (c8_8, 120, .inl f8_8)), (a8_9, .inl (c8_9, 120, .inl f8_9)), (a8_10, .inl (c8_10, 120, .inl f8_10))]) (wr := []) h (va_runV (As := [.int (nI i9)]) (rest := [.int ((rR f8_7 f8_9 f8_10) m9)]) E (c_writesN l dC dI _ (o8 := o8) (a8_0 := a8_0) (a8_1 := a8_1) (a8_2 := a8_2) (a8_3 := a8_3) (a8_4 := a8_4) (a8_5 := a8_5) (v8_6 := v8_6) (a8_7 := a8_7) (a8_8 := a8_8) (a8_9 := a8_9) (a8_10 := a8_10) (a8_11 := a8_11) (v8_12 := v8_12) (a8_13 := a8_13) (a8_14 := a8_14) (a8_15 := a8_15) (a8_16 := a8_16) (a8_17 := a8_17) (a8_18 := a8_18) (a8_19 := a8_19) (a8_20 := a8_20) (a8_21 := a8_21) (a8_22 := a8_22) (a8_23 := a8_23) (a8_24 := a8_24) (v8_25 := v8_25) (v8_26 := v8_26) (a8_27 := a8_27) (a8_28 := a8_28) (a8_29 := a8_29) (a8_30 := a8_30) (a8_31 := a8_31) (v8_32 := v8_32) (v8_33 := v8_33) (v8_34 := v8_34) (v8_35 := v8_35) (a8_36 := a8_36) (a8_37 := a8_37) (v8_38 := v8_38) (v8_39 := v8_39) (v8_40 := v8_40) (a8_41 := a8_41) (a8_42 := a8_42) (v8_43 := v8_43) (c8_7 := c8_7) (f8_7 := f8_7) (c8_8 := c8_8) (f8_8 := f8_8) (c8_9 := c8_9) (f8_9 := f8_9) (c8_10 := c8_10) (f8_10 := f8_10) (m9 := i9) (hK := hK) (hp := (by omega))) (cwV 1 E.2.2.2.2 gX8_needed_X8_writes rfl rfl rfl hdV_X8_writes ⟨Nat.le_of_ble_eq_true rfl, Nat.le_of_ble_eq_true rfl⟩) (kPreV (q0 := 0) (ci := 8) (q := (RX8, TX8, 44)) h KX_true (fun _ _ _ => trivial) [0, 1, 2, 3, 4] [0, 1, 2, 3] (by decide) rfl rfl rfl rfl) rfl rfl hl.1 rfl (lv_room (Nat.le_of_ble_eq_true rfl)) dX8_needed_72 ⟨Nat.le_of_ble_eq_true rfl, Nat.le_of_ble_eq_true rfl⟩) [0, 1, 2, 3, 4] [] rfl rfl (by decide) (by decide) (fun r_9 u_9 H locs hw_9 h => ?_)
        have h : KS (dC, dI) A [(o8, .inr (8, [.ref a8_0, .ref a8_1, .ref a8_2, .ref a8_3, .ref a8_4, .ref a8_5, .int v8_6, .ref a8_7, .ref a8_8, .ref a8_9, .ref a8_10, .ref a8_11, .int v8_12, .ref a8_13, .ref a8_14, .ref a8_15, .ref a8_16, .ref a8_17, .ref a8_18, .ref a8_19, .ref a8_20, .ref a8_21, .ref a8_22, .ref a8_23, .ref a8_24, .int v8_25, .int v8_26, .ref a8_27, .ref a8_28, .ref a8_29, .ref a8_30, .ref a8_31, .int v8_32, .int v8_33, .int v8_34, .int v8_35, .ref a8_36, .ref a8_37, .int v8_38, .int v8_39, .int v8_40, .ref a8_41, .ref a8_42, .int v8_43])), (a8_7, .inl (c8_7, 120, .inl f8_7)), (a8_8, .inl (c8_8, 120, .inl f8_8)), (a8_9, .inl (c8_9, 120, .inl f8_9)), (a8_10, .inl (c8_10, 120, .inl f8_10))] [(c8_7, .int), (c8_8, .int), (c8_9, .int), (c8_10, .int)] s H locs := h
        have hw_9 : r_9 = (rW f8_7 f8_8) i9 := by first | exact hw_9 | (simp only [Int32.toInt_toInt64] at hw_9; exact hw_9)
        refine k_topi (y := (rW f8_7 f8_8) i9) (hw_9) ?_
        refine W.eq (g2 := F0 m 75 ls [.int ((rW f8_7 f8_8) i9), .int ((rR f8_7 f8_9 f8_10) m9)]) rfl ?_
        refine lv_iand hx hb dX8_needed_75 ?_
        refine lv_if_ne (tgt := 90) hx hb dX8_needed_76 rfl (fun c_10 => ?_) (fun c_10 => ?_)
        · skip
          have i_10 : ¬ (((rR f8_7 f8_9 f8_10) m9) &&& ((rW f8_7 f8_8) i9)).toInt = 0 := fun h9 => c_10 ((fa_eq _ _).mpr h9)
          refine lv_iconst (v := 1) hx hb dX8_needed_90 kic_1 ?_
          refine lv_goto (tgt := 95) hx hb dX8_needed_91 rfl ?_
          have hP9 := h.2.1.sub [0, 1, 2, 3, 4] rfl
          have hD9 := h.2.2.1.sub (ws' := [(o8, .inr (8, [.ref a8_0, .ref a8_1, .ref a8_2, .ref a8_3, .ref a8_4, .ref a8_5, .int v8_6, .ref a8_7, .ref a8_8, .ref a8_9, .ref a8_10, .ref a8_11, .int v8_12, .ref a8_13, .ref a8_14, .ref a8_15, .ref a8_16, .ref a8_17, .ref a8_18, .ref a8_19, .ref a8_20, .ref a8_21, .ref a8_22, .ref a8_23, .ref a8_24, .int v8_25, .int v8_26, .ref a8_27, .ref a8_28, .ref a8_29, .ref a8_30, .ref a8_31, .int v8_32, .int v8_33, .int v8_34, .int v8_35, .ref a8_36, .ref a8_37, .int v8_38, .int v8_39, .int v8_40, .ref a8_41, .ref a8_42, .int v8_43])), (a8_7, .inl (c8_7, 120, .inl f8_7)), (a8_8, .inl (c8_8, 120, .inl f8_8)), (a8_9, .inl (c8_9, 120, .inl f8_9)), (a8_10, .inl (c8_10, 120, .inl f8_10))]) [0, 1, 2, 3, 4] (by decide) rfl
          exact W.iret (v := 1) hx hb hr (fun t ht hW => ⟨⟨1, (), rfl, (by unfold kNd; (repeat' split) <;> first | (with_reducible rfl) | (exfalso; omega) | rfl | omega), (by rw [ht]; exact hP9), hD9⟩, h.2.2.2.1.F ht⟩) h.2.2.2.1.2.2 dX8_needed_95 hlocks
        · skip
          have i_10 : (((rR f8_7 f8_9 f8_10) m9) &&& ((rW f8_7 f8_8) i9)).toInt = 0 := (fa_eq _ _).mp c_10
          refine lv_aload_n hx hb dX8_needed_79 rfl (lv_at hl 0 rfl) ?_
          refine k_get (v := .ref a8_7) E h (fun w h => List.mem_cons_of_mem _ (List.mem_append_right _ h)) 0 rfl rfl 7 (Nat.le_of_ble_eq_true rfl) (List.mem_of_getElem? (i := 1) rfl) rfl dX8_needed_80 ?_
          refine lv_iload_n hx hb dX8_needed_83 rfl (lv_at hl 2 rfl) ?_
          refine k_iald (v := f8_7 i9) E h 1 0 rfl rfl (vp_in_nI (by omega) (by omega)) (by rw [nI_clamp (by omega)]) dX8_needed_84 ?_
          refine lv_bipush (v := 9) hx hb dX8_needed_85 kbi_9 ?_
          refine lv_icmp_ne (tgt := 94) hx hb dX8_needed_87 rfl (fun c_11 => ?_) (fun c_11 => ?_)
          · skip
            have i_11 : ¬ (f8_7 i9).toInt = 9 := fun h9 => c_11 ((fa_eq _ _).mpr h9)
            refine lv_iconst (v := 0) hx hb dX8_needed_94 kic_0 ?_
            have hP9 := h.2.1.sub [0, 1, 2, 3, 4] rfl
            have hD9 := h.2.2.1.sub (ws' := [(o8, .inr (8, [.ref a8_0, .ref a8_1, .ref a8_2, .ref a8_3, .ref a8_4, .ref a8_5, .int v8_6, .ref a8_7, .ref a8_8, .ref a8_9, .ref a8_10, .ref a8_11, .int v8_12, .ref a8_13, .ref a8_14, .ref a8_15, .ref a8_16, .ref a8_17, .ref a8_18, .ref a8_19, .ref a8_20, .ref a8_21, .ref a8_22, .ref a8_23, .ref a8_24, .int v8_25, .int v8_26, .ref a8_27, .ref a8_28, .ref a8_29, .ref a8_30, .ref a8_31, .int v8_32, .int v8_33, .int v8_34, .int v8_35, .ref a8_36, .ref a8_37, .int v8_38, .int v8_39, .int v8_40, .ref a8_41, .ref a8_42, .int v8_43])), (a8_7, .inl (c8_7, 120, .inl f8_7)), (a8_8, .inl (c8_8, 120, .inl f8_8)), (a8_9, .inl (c8_9, 120, .inl f8_9)), (a8_10, .inl (c8_10, 120, .inl f8_10))]) [0, 1, 2, 3, 4] (by decide) rfl
            exact W.iret (v := 0) hx hb hr (fun t ht hW => ⟨⟨0, (), rfl, (by unfold kNd; (repeat' split) <;> first | (with_reducible rfl) | (exfalso; omega) | rfl | omega), (by rw [ht]; exact hP9), hD9⟩, h.2.2.2.1.F ht⟩) h.2.2.2.1.2.2 dX8_needed_95 hlocks
          · skip
            have i_11 : (f8_7 i9).toInt = 9 := (fa_eq _ _).mp c_11
            refine lv_iconst (v := 1) hx hb dX8_needed_90 kic_1 ?_
            refine lv_goto (tgt := 95) hx hb dX8_needed_91 rfl ?_
            have hP9 := h.2.1.sub [0, 1, 2, 3, 4] rfl
            have hD9 := h.2.2.1.sub (ws' := [(o8, .inr (8, [.ref a8_0, .ref a8_1, .ref a8_2, .ref a8_3, .ref a8_4, .ref a8_5, .int v8_6, .ref a8_7, .ref a8_8, .ref a8_9, .ref a8_10, .ref a8_11, .int v8_12, .ref a8_13, .ref a8_14, .ref a8_15, .ref a8_16, .ref a8_17, .ref a8_18, .ref a8_19, .ref a8_20, .ref a8_21, .ref a8_22, .ref a8_23, .ref a8_24, .int v8_25, .int v8_26, .ref a8_27, .ref a8_28, .ref a8_29, .ref a8_30, .ref a8_31, .int v8_32, .int v8_33, .int v8_34, .int v8_35, .ref a8_36, .ref a8_37, .int v8_38, .int v8_39, .int v8_40, .ref a8_41, .ref a8_42, .int v8_43])), (a8_7, .inl (c8_7, 120, .inl f8_7)), (a8_8, .inl (c8_8, 120, .inl f8_8)), (a8_9, .inl (c8_9, 120, .inl f8_9)), (a8_10, .inl (c8_10, 120, .inl f8_10))]) [0, 1, 2, 3, 4] (by decide) rfl
            exact W.iret (v := 1) hx hb hr (fun t ht hW => ⟨⟨1, (), rfl, (by unfold kNd; (repeat' split) <;> first | (with_reducible rfl) | (exfalso; omega) | rfl | omega), (by rw [ht]; exact hP9), hD9⟩, h.2.2.2.1.F ht⟩) h.2.2.2.1.2.2 dX8_needed_95 hlocks
      · skip
        have b_7 := kb1 hw_6 c_7
        refine lv_aload_n hx hb dX8_needed_43 rfl (lv_at hl 0 rfl) ?_
        refine lv_iload_n hx hb dX8_needed_44 rfl (lv_at hl 2 rfl) ?_
        refine kc_i (wc := [(o8, .inr (8, [.ref a8_0, .ref a8_1, .ref a8_2, .ref a8_3, .ref a8_4, .ref a8_5, .int v8_6, .ref a8_7, .ref a8_8, .ref a8_9, .ref a8_10, .ref a8_11, .int v8_12, .ref a8_13, .ref a8_14, .ref a8_15, .ref a8_16, .ref a8_17, .ref a8_18, .ref a8_19, .ref a8_20, .ref a8_21, .ref a8_22, .ref a8_23, .ref a8_24, .int v8_25, .int v8_26, .ref a8_27, .ref a8_28, .ref a8_29, .ref a8_30, .ref a8_31, .int v8_32, .int v8_33, .int v8_34, .int v8_35, .ref a8_36, .ref a8_37, .int v8_38, .int v8_39, .int v8_40, .ref a8_41, .ref a8_42, .int v8_43])), (a8_7, .inl (c8_7, 120, .inl f8_7)), (a8_8, .inl (c8_8, 120, .inl f8_8)), (a8_9, .inl (c8_9, 120, .inl f8_9)), (a8_10, .inl (c8_10, 120, .inl f8_10))]) (wr := []) h (va_runV (As := [.int (nI i9)]) (rest := []) E (c_writesN l dC dI _ (o8 := o8) (a8_0 := a8_0) (a8_1 := a8_1) (a8_2 := a8_2) (a8_3 := a8_3) (a8_4 := a8_4) (a8_5 := a8_5) (v8_6 := v8_6) (a8_7 := a8_7) (a8_8 := a8_8) (a8_9 := a8_9) (a8_10 := a8_10) (a8_11 := a8_11) (v8_12 := v8_12) (a8_13 := a8_13) (a8_14 := a8_14) (a8_15 := a8_15) (a8_16 := a8_16) (a8_17 := a8_17) (a8_18 := a8_18) (a8_19 := a8_19) (a8_20 := a8_20) (a8_21 := a8_21) (a8_22 := a8_22) (a8_23 := a8_23) (a8_24 := a8_24) (v8_25 := v8_25) (v8_26 := v8_26) (a8_27 := a8_27) (a8_28 := a8_28) (a8_29 := a8_29) (a8_30 := a8_30) (a8_31 := a8_31) (v8_32 := v8_32) (v8_33 := v8_33) (v8_34 := v8_34) (v8_35 := v8_35) (a8_36 := a8_36) (a8_37 := a8_37) (v8_38 := v8_38) (v8_39 := v8_39) (v8_40 := v8_40) (a8_41 := a8_41) (a8_42 := a8_42) (v8_43 := v8_43) (c8_7 := c8_7) (f8_7 := f8_7) (c8_8 := c8_8) (f8_8 := f8_8) (c8_9 := c8_9) (f8_9 := f8_9) (c8_10 := c8_10) (f8_10 := f8_10) (m9 := i9) (hK := hK) (hp := (by omega))) (cwV 1 E.2.2.2.2 gX8_needed_X8_writes rfl rfl rfl hdV_X8_writes ⟨Nat.le_of_ble_eq_true rfl, Nat.le_of_ble_eq_true rfl⟩) (kPreV (q0 := 0) (ci := 8) (q := (RX8, TX8, 44)) h KX_true (fun _ _ _ => trivial) [0, 1, 2, 3, 4] [0, 1, 2, 3] (by decide) rfl rfl rfl rfl) rfl rfl hl.1 rfl (lv_room (Nat.le_of_ble_eq_true rfl)) dX8_needed_45 ⟨Nat.le_of_ble_eq_true rfl, Nat.le_of_ble_eq_true rfl⟩) [0, 1, 2, 3, 4] [] rfl rfl (by decide) (by decide) (fun r_12 u_12 H locs hw_12 h => ?_)
        have h : KS (dC, dI) A [(o8, .inr (8, [.ref a8_0, .ref a8_1, .ref a8_2, .ref a8_3, .ref a8_4, .ref a8_5, .int v8_6, .ref a8_7, .ref a8_8, .ref a8_9, .ref a8_10, .ref a8_11, .int v8_12, .ref a8_13, .ref a8_14, .ref a8_15, .ref a8_16, .ref a8_17, .ref a8_18, .ref a8_19, .ref a8_20, .ref a8_21, .ref a8_22, .ref a8_23, .ref a8_24, .int v8_25, .int v8_26, .ref a8_27, .ref a8_28, .ref a8_29, .ref a8_30, .ref a8_31, .int v8_32, .int v8_33, .int v8_34, .int v8_35, .ref a8_36, .ref a8_37, .int v8_38, .int v8_39, .int v8_40, .ref a8_41, .ref a8_42, .int v8_43])), (a8_7, .inl (c8_7, 120, .inl f8_7)), (a8_8, .inl (c8_8, 120, .inl f8_8)), (a8_9, .inl (c8_9, 120, .inl f8_9)), (a8_10, .inl (c8_10, 120, .inl f8_10))] [(c8_7, .int), (c8_8, .int), (c8_9, .int), (c8_10, .int)] s H locs := h
        have hw_12 : r_12 = (rW f8_7 f8_8) i9 := by first | exact hw_12 | (simp only [Int32.toInt_toInt64] at hw_12; exact hw_12)
        refine k_topi (y := (rW f8_7 f8_8) i9) (hw_12) ?_
        refine W.eq (g2 := F0 m 48 ls [.int ((rW f8_7 f8_8) i9)]) rfl ?_
        refine lv_if_ne (tgt := 63) hx hb dX8_needed_48 rfl (fun c_13 => ?_) (fun c_13 => ?_)
        · skip
          have i_13 : ¬ ((rW f8_7 f8_8) i9).toInt = 0 := fun h9 => c_13 ((fa_eq _ _).mpr h9)
          refine lv_iconst (v := 2) hx hb dX8_needed_63 kic_2 ?_
          have hP9 := h.2.1.sub [0, 1, 2, 3, 4] rfl
          have hD9 := h.2.2.1.sub (ws' := [(o8, .inr (8, [.ref a8_0, .ref a8_1, .ref a8_2, .ref a8_3, .ref a8_4, .ref a8_5, .int v8_6, .ref a8_7, .ref a8_8, .ref a8_9, .ref a8_10, .ref a8_11, .int v8_12, .ref a8_13, .ref a8_14, .ref a8_15, .ref a8_16, .ref a8_17, .ref a8_18, .ref a8_19, .ref a8_20, .ref a8_21, .ref a8_22, .ref a8_23, .ref a8_24, .int v8_25, .int v8_26, .ref a8_27, .ref a8_28, .ref a8_29, .ref a8_30, .ref a8_31, .int v8_32, .int v8_33, .int v8_34, .int v8_35, .ref a8_36, .ref a8_37, .int v8_38, .int v8_39, .int v8_40, .ref a8_41, .ref a8_42, .int v8_43])), (a8_7, .inl (c8_7, 120, .inl f8_7)), (a8_8, .inl (c8_8, 120, .inl f8_8)), (a8_9, .inl (c8_9, 120, .inl f8_9)), (a8_10, .inl (c8_10, 120, .inl f8_10))]) [0, 1, 2, 3, 4] (by decide) rfl
          exact W.iret (v := 2) hx hb hr (fun t ht hW => ⟨⟨2, (), rfl, (by unfold kNd; (repeat' split) <;> first | (with_reducible rfl) | (exfalso; omega) | rfl | omega), (by rw [ht]; exact hP9), hD9⟩, h.2.2.2.1.F ht⟩) h.2.2.2.1.2.2 dX8_needed_64 hlocks
        · skip
          have i_13 : ((rW f8_7 f8_8) i9).toInt = 0 := (fa_eq _ _).mp c_13
          refine lv_aload_n hx hb dX8_needed_51 rfl (lv_at hl 0 rfl) ?_
          refine k_get (v := .ref a8_7) E h (fun w h => List.mem_cons_of_mem _ (List.mem_append_right _ h)) 0 rfl rfl 7 (Nat.le_of_ble_eq_true rfl) (List.mem_of_getElem? (i := 1) rfl) rfl dX8_needed_52 ?_
          refine lv_iload_n hx hb dX8_needed_55 rfl (lv_at hl 2 rfl) ?_
          refine k_iald (v := f8_7 i9) E h 1 0 rfl rfl (vp_in_nI (by omega) (by omega)) (by rw [nI_clamp (by omega)]) dX8_needed_56 ?_
          refine kc_i (wc := []) (wr := [(o8, .inr (8, [.ref a8_0, .ref a8_1, .ref a8_2, .ref a8_3, .ref a8_4, .ref a8_5, .int v8_6, .ref a8_7, .ref a8_8, .ref a8_9, .ref a8_10, .ref a8_11, .int v8_12, .ref a8_13, .ref a8_14, .ref a8_15, .ref a8_16, .ref a8_17, .ref a8_18, .ref a8_19, .ref a8_20, .ref a8_21, .ref a8_22, .ref a8_23, .ref a8_24, .int v8_25, .int v8_26, .ref a8_27, .ref a8_28, .ref a8_29, .ref a8_30, .ref a8_31, .int v8_32, .int v8_33, .int v8_34, .int v8_35, .ref a8_36, .ref a8_37, .int v8_38, .int v8_39, .int v8_40, .ref a8_41, .ref a8_42, .int v8_43])), (a8_7, .inl (c8_7, 120, .inl f8_7)), (a8_8, .inl (c8_8, 120, .inl f8_8)), (a8_9, .inl (c8_9, 120, .inl f8_9)), (a8_10, .inl (c8_10, 120, .inl f8_10))]) h (va_runS (As := [.int (f8_7 i9)]) (rest := []) E (c_X8_canTrap l dC dI _ (p0 := f8_7 i9)  ) (va_cwS 1 E.2.2.2.2 gX8_needed_X8_canTrap rfl rfl rfl hdS_X8_canTrap ⟨Nat.le_of_ble_eq_true rfl, Nat.le_of_ble_eq_true rfl⟩) (kPreS h KX_true (fun _ _ _ => trivial) [] [] (by decide) rfl rfl) rfl rfl hl.1 rfl (lv_room (Nat.le_of_ble_eq_true rfl)) dX8_needed_57 ⟨Nat.le_of_ble_eq_true rfl, Nat.le_of_ble_eq_true rfl⟩) [] [0, 1, 2, 3, 4] rfl rfl (by decide) (by decide) (fun r_14 u_14 H locs hw_14 h => ?_)
          have h : KS (dC, dI) A [(o8, .inr (8, [.ref a8_0, .ref a8_1, .ref a8_2, .ref a8_3, .ref a8_4, .ref a8_5, .int v8_6, .ref a8_7, .ref a8_8, .ref a8_9, .ref a8_10, .ref a8_11, .int v8_12, .ref a8_13, .ref a8_14, .ref a8_15, .ref a8_16, .ref a8_17, .ref a8_18, .ref a8_19, .ref a8_20, .ref a8_21, .ref a8_22, .ref a8_23, .ref a8_24, .int v8_25, .int v8_26, .ref a8_27, .ref a8_28, .ref a8_29, .ref a8_30, .ref a8_31, .int v8_32, .int v8_33, .int v8_34, .int v8_35, .ref a8_36, .ref a8_37, .int v8_38, .int v8_39, .int v8_40, .ref a8_41, .ref a8_42, .int v8_43])), (a8_7, .inl (c8_7, 120, .inl f8_7)), (a8_8, .inl (c8_8, 120, .inl f8_8)), (a8_9, .inl (c8_9, 120, .inl f8_9)), (a8_10, .inl (c8_10, 120, .inl f8_10))] [(c8_7, .int), (c8_8, .int), (c8_9, .int), (c8_10, .int)] s H locs := h
          have hw_14 : r_14 = if ((f8_7 i9).toInt = 7 ∨ (f8_7 i9).toInt = 8 ∨ (f8_7 i9).toInt = 10) then 1 else 0 := by first | exact hw_14 | (simp only [Int32.toInt_toInt64] at hw_14; exact hw_14)
          refine W.eq (g2 := F0 m 60 ls [.int r_14]) rfl ?_
          refine lv_if_eq (tgt := 65) hx hb dX8_needed_60 rfl (fun c_15 => ?_) (fun c_15 => ?_)
          · skip
            have b_15 := kb0 hw_14 c_15
            refine lv_aload_n hx hb dX8_needed_65 rfl (lv_at hl 0 rfl) ?_
            refine lv_iload_n hx hb dX8_needed_66 rfl (lv_at hl 1 rfl) ?_
            refine kc_i (wc := [(o8, .inr (8, [.ref a8_0, .ref a8_1, .ref a8_2, .ref a8_3, .ref a8_4, .ref a8_5, .int v8_6, .ref a8_7, .ref a8_8, .ref a8_9, .ref a8_10, .ref a8_11, .int v8_12, .ref a8_13, .ref a8_14, .ref a8_15, .ref a8_16, .ref a8_17, .ref a8_18, .ref a8_19, .ref a8_20, .ref a8_21, .ref a8_22, .ref a8_23, .ref a8_24, .int v8_25, .int v8_26, .ref a8_27, .ref a8_28, .ref a8_29, .ref a8_30, .ref a8_31, .int v8_32, .int v8_33, .int v8_34, .int v8_35, .ref a8_36, .ref a8_37, .int v8_38, .int v8_39, .int v8_40, .ref a8_41, .ref a8_42, .int v8_43])), (a8_7, .inl (c8_7, 120, .inl f8_7)), (a8_8, .inl (c8_8, 120, .inl f8_8)), (a8_9, .inl (c8_9, 120, .inl f8_9)), (a8_10, .inl (c8_10, 120, .inl f8_10))]) (wr := []) h (va_runV (As := [.int (nI m9)]) (rest := []) E (c_readsN l dC dI _ (o8 := o8) (a8_0 := a8_0) (a8_1 := a8_1) (a8_2 := a8_2) (a8_3 := a8_3) (a8_4 := a8_4) (a8_5 := a8_5) (v8_6 := v8_6) (a8_7 := a8_7) (a8_8 := a8_8) (a8_9 := a8_9) (a8_10 := a8_10) (a8_11 := a8_11) (v8_12 := v8_12) (a8_13 := a8_13) (a8_14 := a8_14) (a8_15 := a8_15) (a8_16 := a8_16) (a8_17 := a8_17) (a8_18 := a8_18) (a8_19 := a8_19) (a8_20 := a8_20) (a8_21 := a8_21) (a8_22 := a8_22) (a8_23 := a8_23) (a8_24 := a8_24) (v8_25 := v8_25) (v8_26 := v8_26) (a8_27 := a8_27) (a8_28 := a8_28) (a8_29 := a8_29) (a8_30 := a8_30) (a8_31 := a8_31) (v8_32 := v8_32) (v8_33 := v8_33) (v8_34 := v8_34) (v8_35 := v8_35) (a8_36 := a8_36) (a8_37 := a8_37) (v8_38 := v8_38) (v8_39 := v8_39) (v8_40 := v8_40) (a8_41 := a8_41) (a8_42 := a8_42) (v8_43 := v8_43) (c8_7 := c8_7) (f8_7 := f8_7) (c8_8 := c8_8) (f8_8 := f8_8) (c8_9 := c8_9) (f8_9 := f8_9) (c8_10 := c8_10) (f8_10 := f8_10) (m9 := m9) (hK := hK) (hp := (by omega))) (cwV 1 E.2.2.2.2 gX8_needed_X8_reads rfl rfl rfl hdV_X8_reads ⟨Nat.le_of_ble_eq_true rfl, Nat.le_of_ble_eq_true rfl⟩) (kPreV (q0 := 0) (ci := 8) (q := (RX8, TX8, 44)) h KX_true (fun _ _ _ => trivial) [0, 1, 2, 3, 4] [0, 1, 2, 3] (by decide) rfl rfl rfl rfl) rfl rfl hl.1 rfl (lv_room (Nat.le_of_ble_eq_true rfl)) dX8_needed_67 ⟨Nat.le_of_ble_eq_true rfl, Nat.le_of_ble_eq_true rfl⟩) [0, 1, 2, 3, 4] [] rfl rfl (by decide) (by decide) (fun r_16 u_16 H locs hw_16 h => ?_)
            have h : KS (dC, dI) A [(o8, .inr (8, [.ref a8_0, .ref a8_1, .ref a8_2, .ref a8_3, .ref a8_4, .ref a8_5, .int v8_6, .ref a8_7, .ref a8_8, .ref a8_9, .ref a8_10, .ref a8_11, .int v8_12, .ref a8_13, .ref a8_14, .ref a8_15, .ref a8_16, .ref a8_17, .ref a8_18, .ref a8_19, .ref a8_20, .ref a8_21, .ref a8_22, .ref a8_23, .ref a8_24, .int v8_25, .int v8_26, .ref a8_27, .ref a8_28, .ref a8_29, .ref a8_30, .ref a8_31, .int v8_32, .int v8_33, .int v8_34, .int v8_35, .ref a8_36, .ref a8_37, .int v8_38, .int v8_39, .int v8_40, .ref a8_41, .ref a8_42, .int v8_43])), (a8_7, .inl (c8_7, 120, .inl f8_7)), (a8_8, .inl (c8_8, 120, .inl f8_8)), (a8_9, .inl (c8_9, 120, .inl f8_9)), (a8_10, .inl (c8_10, 120, .inl f8_10))] [(c8_7, .int), (c8_8, .int), (c8_9, .int), (c8_10, .int)] s H locs := h
            have hw_16 : r_16 = (rR f8_7 f8_9 f8_10) m9 := by first | exact hw_16 | (simp only [Int32.toInt_toInt64] at hw_16; exact hw_16)
            refine k_topi (y := (rR f8_7 f8_9 f8_10) m9) (hw_16) ?_
            refine W.eq (g2 := F0 m 70 ls [.int ((rR f8_7 f8_9 f8_10) m9)]) rfl ?_
            refine lv_aload_n hx hb dX8_needed_70 rfl (lv_at hl 0 rfl) ?_
            refine lv_iload_n hx hb dX8_needed_71 rfl (lv_at hl 2 rfl) ?_
            refine kc_i (wc := [(o8, .inr (8, [.ref a8_0, .ref a8_1, .ref a8_2, .ref a8_3, .ref a8_4, .ref a8_5, .int v8_6, .ref a8_7, .ref a8_8, .ref a8_9, .ref a8_10, .ref a8_11, .int v8_12, .ref a8_13, .ref a8_14, .ref a8_15, .ref a8_16, .ref a8_17, .ref a8_18, .ref a8_19, .ref a8_20, .ref a8_21, .ref a8_22, .ref a8_23, .ref a8_24, .int v8_25, .int v8_26, .ref a8_27, .ref a8_28, .ref a8_29, .ref a8_30, .ref a8_31, .int v8_32, .int v8_33, .int v8_34, .int v8_35, .ref a8_36, .ref a8_37, .int v8_38, .int v8_39, .int v8_40, .ref a8_41, .ref a8_42, .int v8_43])), (a8_7, .inl (c8_7, 120, .inl f8_7)), (a8_8, .inl (c8_8, 120, .inl f8_8)), (a8_9, .inl (c8_9, 120, .inl f8_9)), (a8_10, .inl (c8_10, 120, .inl f8_10))]) (wr := []) h (va_runV (As := [.int (nI i9)]) (rest := [.int ((rR f8_7 f8_9 f8_10) m9)]) E (c_writesN l dC dI _ (o8 := o8) (a8_0 := a8_0) (a8_1 := a8_1) (a8_2 := a8_2) (a8_3 := a8_3) (a8_4 := a8_4) (a8_5 := a8_5) (v8_6 := v8_6) (a8_7 := a8_7) (a8_8 := a8_8) (a8_9 := a8_9) (a8_10 := a8_10) (a8_11 := a8_11) (v8_12 := v8_12) (a8_13 := a8_13) (a8_14 := a8_14) (a8_15 := a8_15) (a8_16 := a8_16) (a8_17 := a8_17) (a8_18 := a8_18) (a8_19 := a8_19) (a8_20 := a8_20) (a8_21 := a8_21) (a8_22 := a8_22) (a8_23 := a8_23) (a8_24 := a8_24) (v8_25 := v8_25) (v8_26 := v8_26) (a8_27 := a8_27) (a8_28 := a8_28) (a8_29 := a8_29) (a8_30 := a8_30) (a8_31 := a8_31) (v8_32 := v8_32) (v8_33 := v8_33) (v8_34 := v8_34) (v8_35 := v8_35) (a8_36 := a8_36) (a8_37 := a8_37) (v8_38 := v8_38) (v8_39 := v8_39) (v8_40 := v8_40) (a8_41 := a8_41) (a8_42 := a8_42) (v8_43 := v8_43) (c8_7 := c8_7) (f8_7 := f8_7) (c8_8 := c8_8) (f8_8 := f8_8) (c8_9 := c8_9) (f8_9 := f8_9) (c8_10 := c8_10) (f8_10 := f8_10) (m9 := i9) (hK := hK) (hp := (by omega))) (cwV 1 E.2.2.2.2 gX8_needed_X8_writes rfl rfl rfl hdV_X8_writes ⟨Nat.le_of_ble_eq_true rfl, Nat.le_of_ble_eq_true rfl⟩) (kPreV (q0 := 0) (ci := 8) (q := (RX8, TX8, 44)) h KX_true (fun _ _ _ => trivial) [0, 1, 2, 3, 4] [0, 1, 2, 3] (by decide) rfl rfl rfl rfl) rfl rfl hl.1 rfl (lv_room (Nat.le_of_ble_eq_true rfl)) dX8_needed_72 ⟨Nat.le_of_ble_eq_true rfl, Nat.le_of_ble_eq_true rfl⟩) [0, 1, 2, 3, 4] [] rfl rfl (by decide) (by decide) (fun r_17 u_17 H locs hw_17 h => ?_)
            have h : KS (dC, dI) A [(o8, .inr (8, [.ref a8_0, .ref a8_1, .ref a8_2, .ref a8_3, .ref a8_4, .ref a8_5, .int v8_6, .ref a8_7, .ref a8_8, .ref a8_9, .ref a8_10, .ref a8_11, .int v8_12, .ref a8_13, .ref a8_14, .ref a8_15, .ref a8_16, .ref a8_17, .ref a8_18, .ref a8_19, .ref a8_20, .ref a8_21, .ref a8_22, .ref a8_23, .ref a8_24, .int v8_25, .int v8_26, .ref a8_27, .ref a8_28, .ref a8_29, .ref a8_30, .ref a8_31, .int v8_32, .int v8_33, .int v8_34, .int v8_35, .ref a8_36, .ref a8_37, .int v8_38, .int v8_39, .int v8_40, .ref a8_41, .ref a8_42, .int v8_43])), (a8_7, .inl (c8_7, 120, .inl f8_7)), (a8_8, .inl (c8_8, 120, .inl f8_8)), (a8_9, .inl (c8_9, 120, .inl f8_9)), (a8_10, .inl (c8_10, 120, .inl f8_10))] [(c8_7, .int), (c8_8, .int), (c8_9, .int), (c8_10, .int)] s H locs := h
            have hw_17 : r_17 = (rW f8_7 f8_8) i9 := by first | exact hw_17 | (simp only [Int32.toInt_toInt64] at hw_17; exact hw_17)
            refine k_topi (y := (rW f8_7 f8_8) i9) (hw_17) ?_
            refine W.eq (g2 := F0 m 75 ls [.int ((rW f8_7 f8_8) i9), .int ((rR f8_7 f8_9 f8_10) m9)]) rfl ?_
            refine lv_iand hx hb dX8_needed_75 ?_
            refine lv_if_ne (tgt := 90) hx hb dX8_needed_76 rfl (fun c_18 => ?_) (fun c_18 => ?_)
            · skip
              have i_18 : ¬ (((rR f8_7 f8_9 f8_10) m9) &&& ((rW f8_7 f8_8) i9)).toInt = 0 := fun h9 => c_18 ((fa_eq _ _).mpr h9)
              refine lv_iconst (v := 1) hx hb dX8_needed_90 kic_1 ?_
              refine lv_goto (tgt := 95) hx hb dX8_needed_91 rfl ?_
              have hP9 := h.2.1.sub [0, 1, 2, 3, 4] rfl
              have hD9 := h.2.2.1.sub (ws' := [(o8, .inr (8, [.ref a8_0, .ref a8_1, .ref a8_2, .ref a8_3, .ref a8_4, .ref a8_5, .int v8_6, .ref a8_7, .ref a8_8, .ref a8_9, .ref a8_10, .ref a8_11, .int v8_12, .ref a8_13, .ref a8_14, .ref a8_15, .ref a8_16, .ref a8_17, .ref a8_18, .ref a8_19, .ref a8_20, .ref a8_21, .ref a8_22, .ref a8_23, .ref a8_24, .int v8_25, .int v8_26, .ref a8_27, .ref a8_28, .ref a8_29, .ref a8_30, .ref a8_31, .int v8_32, .int v8_33, .int v8_34, .int v8_35, .ref a8_36, .ref a8_37, .int v8_38, .int v8_39, .int v8_40, .ref a8_41, .ref a8_42, .int v8_43])), (a8_7, .inl (c8_7, 120, .inl f8_7)), (a8_8, .inl (c8_8, 120, .inl f8_8)), (a8_9, .inl (c8_9, 120, .inl f8_9)), (a8_10, .inl (c8_10, 120, .inl f8_10))]) [0, 1, 2, 3, 4] (by decide) rfl
              exact W.iret (v := 1) hx hb hr (fun t ht hW => ⟨⟨1, (), rfl, (by unfold kNd; (repeat' split) <;> first | (with_reducible rfl) | (exfalso; omega) | rfl | omega), (by rw [ht]; exact hP9), hD9⟩, h.2.2.2.1.F ht⟩) h.2.2.2.1.2.2 dX8_needed_95 hlocks
            · skip
              have i_18 : (((rR f8_7 f8_9 f8_10) m9) &&& ((rW f8_7 f8_8) i9)).toInt = 0 := (fa_eq _ _).mp c_18
              refine lv_aload_n hx hb dX8_needed_79 rfl (lv_at hl 0 rfl) ?_
              refine k_get (v := .ref a8_7) E h (fun w h => List.mem_cons_of_mem _ (List.mem_append_right _ h)) 0 rfl rfl 7 (Nat.le_of_ble_eq_true rfl) (List.mem_of_getElem? (i := 1) rfl) rfl dX8_needed_80 ?_
              refine lv_iload_n hx hb dX8_needed_83 rfl (lv_at hl 2 rfl) ?_
              refine k_iald (v := f8_7 i9) E h 1 0 rfl rfl (vp_in_nI (by omega) (by omega)) (by rw [nI_clamp (by omega)]) dX8_needed_84 ?_
              refine lv_bipush (v := 9) hx hb dX8_needed_85 kbi_9 ?_
              refine lv_icmp_ne (tgt := 94) hx hb dX8_needed_87 rfl (fun c_19 => ?_) (fun c_19 => ?_)
              · skip
                have i_19 : ¬ (f8_7 i9).toInt = 9 := fun h9 => c_19 ((fa_eq _ _).mpr h9)
                refine lv_iconst (v := 0) hx hb dX8_needed_94 kic_0 ?_
                have hP9 := h.2.1.sub [0, 1, 2, 3, 4] rfl
                have hD9 := h.2.2.1.sub (ws' := [(o8, .inr (8, [.ref a8_0, .ref a8_1, .ref a8_2, .ref a8_3, .ref a8_4, .ref a8_5, .int v8_6, .ref a8_7, .ref a8_8, .ref a8_9, .ref a8_10, .ref a8_11, .int v8_12, .ref a8_13, .ref a8_14, .ref a8_15, .ref a8_16, .ref a8_17, .ref a8_18, .ref a8_19, .ref a8_20, .ref a8_21, .ref a8_22, .ref a8_23, .ref a8_24, .int v8_25, .int v8_26, .ref a8_27, .ref a8_28, .ref a8_29, .ref a8_30, .ref a8_31, .int v8_32, .int v8_33, .int v8_34, .int v8_35, .ref a8_36, .ref a8_37, .int v8_38, .int v8_39, .int v8_40, .ref a8_41, .ref a8_42, .int v8_43])), (a8_7, .inl (c8_7, 120, .inl f8_7)), (a8_8, .inl (c8_8, 120, .inl f8_8)), (a8_9, .inl (c8_9, 120, .inl f8_9)), (a8_10, .inl (c8_10, 120, .inl f8_10))]) [0, 1, 2, 3, 4] (by decide) rfl
                exact W.iret (v := 0) hx hb hr (fun t ht hW => ⟨⟨0, (), rfl, (by unfold kNd; (repeat' split) <;> first | (with_reducible rfl) | (exfalso; omega) | rfl | omega), (by rw [ht]; exact hP9), hD9⟩, h.2.2.2.1.F ht⟩) h.2.2.2.1.2.2 dX8_needed_95 hlocks
              · skip
                have i_19 : (f8_7 i9).toInt = 9 := (fa_eq _ _).mp c_19
                refine lv_iconst (v := 1) hx hb dX8_needed_90 kic_1 ?_
                refine lv_goto (tgt := 95) hx hb dX8_needed_91 rfl ?_
                have hP9 := h.2.1.sub [0, 1, 2, 3, 4] rfl
                have hD9 := h.2.2.1.sub (ws' := [(o8, .inr (8, [.ref a8_0, .ref a8_1, .ref a8_2, .ref a8_3, .ref a8_4, .ref a8_5, .int v8_6, .ref a8_7, .ref a8_8, .ref a8_9, .ref a8_10, .ref a8_11, .int v8_12, .ref a8_13, .ref a8_14, .ref a8_15, .ref a8_16, .ref a8_17, .ref a8_18, .ref a8_19, .ref a8_20, .ref a8_21, .ref a8_22, .ref a8_23, .ref a8_24, .int v8_25, .int v8_26, .ref a8_27, .ref a8_28, .ref a8_29, .ref a8_30, .ref a8_31, .int v8_32, .int v8_33, .int v8_34, .int v8_35, .ref a8_36, .ref a8_37, .int v8_38, .int v8_39, .int v8_40, .ref a8_41, .ref a8_42, .int v8_43])), (a8_7, .inl (c8_7, 120, .inl f8_7)), (a8_8, .inl (c8_8, 120, .inl f8_8)), (a8_9, .inl (c8_9, 120, .inl f8_9)), (a8_10, .inl (c8_10, 120, .inl f8_10))]) [0, 1, 2, 3, 4] (by decide) rfl
                exact W.iret (v := 1) hx hb hr (fun t ht hW => ⟨⟨1, (), rfl, (by unfold kNd; (repeat' split) <;> first | (with_reducible rfl) | (exfalso; omega) | rfl | omega), (by rw [ht]; exact hP9), hD9⟩, h.2.2.2.1.F ht⟩) h.2.2.2.1.2.2 dX8_needed_95 hlocks
          · skip
            have b_15 := kb1 hw_14 c_15
            refine lv_iconst (v := 2) hx hb dX8_needed_63 kic_2 ?_
            have hP9 := h.2.1.sub [0, 1, 2, 3, 4] rfl
            have hD9 := h.2.2.1.sub (ws' := [(o8, .inr (8, [.ref a8_0, .ref a8_1, .ref a8_2, .ref a8_3, .ref a8_4, .ref a8_5, .int v8_6, .ref a8_7, .ref a8_8, .ref a8_9, .ref a8_10, .ref a8_11, .int v8_12, .ref a8_13, .ref a8_14, .ref a8_15, .ref a8_16, .ref a8_17, .ref a8_18, .ref a8_19, .ref a8_20, .ref a8_21, .ref a8_22, .ref a8_23, .ref a8_24, .int v8_25, .int v8_26, .ref a8_27, .ref a8_28, .ref a8_29, .ref a8_30, .ref a8_31, .int v8_32, .int v8_33, .int v8_34, .int v8_35, .ref a8_36, .ref a8_37, .int v8_38, .int v8_39, .int v8_40, .ref a8_41, .ref a8_42, .int v8_43])), (a8_7, .inl (c8_7, 120, .inl f8_7)), (a8_8, .inl (c8_8, 120, .inl f8_8)), (a8_9, .inl (c8_9, 120, .inl f8_9)), (a8_10, .inl (c8_10, 120, .inl f8_10))]) [0, 1, 2, 3, 4] (by decide) rfl
            exact W.iret (v := 2) hx hb hr (fun t ht hW => ⟨⟨2, (), rfl, (by unfold kNd; (repeat' split) <;> first | (with_reducible rfl) | (exfalso; omega) | rfl | omega), (by rw [ht]; exact hP9), hD9⟩, h.2.2.2.1.F ht⟩) h.2.2.2.1.2.2 dX8_needed_64 hlocks
set_option maxHeartbeats 4000000 in
set_option maxRecDepth 100000 in
theorem c_part8 (l : Launch) (dC : Nat → ClassId) (dI : Nat → Nat → Nat) (sz : Nat) (p0 : Int32) (hp : 0 ≤ p0.toInt ∧ p0.toInt ≤ 10) : Met l yX8_partOf wsX8_partOf ({ frames := 0, cells := 0, slots := 0, locals := 0 } : Room) (va_Pc [.int p0] (KPre (dC, dI) [] [] sz (fun _ => True))) (va_Qi (fun (r : Int32) (u : Unit) => r = nI (pN p0)) (KPost (dC, dI) (va_A [] sz) (fun (u : Unit) => [])) (va_A [] sz)) 0 0 (va_A [] sz) := by
  refine kMet (y := yX8_partOf) (wsM := wsX8_partOf) (cc := cX8_partOf) (maxL := 1) (ret := (some .int)) (rm := ({ frames := 0, cells := 0, slots := 0, locals := 0 } : Room)) (mc := 0) (ms := 0) (av := [.int p0]) (D := (dC, dI)) (wc := []) (tc := []) (sz := sz) (X := fun _ => True) (Qc := fun A => va_Qi (fun (r : Int32) (u : Unit) => r = nI (pN p0)) (KPost (dC, dI) A (fun (u : Unit) => [])) A) (by decide) rfl (Nat.le_of_ble_eq_true rfl) ?_
  intro p e s m below meth c A ls E hr hlocks hnm hsz hAe hX h hl
  have hx := E.1
  have hb := E.2.1
  have hl : lv_has ls 1 [(0, .int p0)] := hl
  refine lv_iload_n hx hb dX8_partOf_0 rfl (lv_at hl 0 rfl) ?_
  refine lv_iconst (v := 1) hx hb dX8_partOf_1 kic_1 ?_
  refine lv_icmp_gt (tgt := 9) hx hb dX8_partOf_2 rfl (fun c_1 => ?_) (fun c_1 => ?_)
  · skip
    have i_1 : 1 < p0.toInt := (fa_lt _ _).mp c_1
    refine lv_iload_n hx hb dX8_partOf_9 rfl (lv_at hl 0 rfl) ?_
    refine lv_iconst (v := 5) hx hb dX8_partOf_10 kic_5 ?_
    refine lv_icmp_gt (tgt := 18) hx hb dX8_partOf_11 rfl (fun c_2 => ?_) (fun c_2 => ?_)
    · skip
      have i_2 : 5 < p0.toInt := (fa_lt _ _).mp c_2
      refine lv_iload_n hx hb dX8_partOf_18 rfl (lv_at hl 0 rfl) ?_
      refine lv_bipush (v := 6) hx hb dX8_partOf_19 kbi_6 ?_
      refine lv_icmp_ne (tgt := 28) hx hb dX8_partOf_21 rfl (fun c_3 => ?_) (fun c_3 => ?_)
      · skip
        have i_3 : ¬ p0.toInt = 6 := fun h9 => c_3 ((fa_eq _ _).mpr h9)
        refine lv_iload_n hx hb dX8_partOf_28 rfl (lv_at hl 0 rfl) ?_
        refine lv_bipush (v := 8) hx hb dX8_partOf_29 kbi_8 ?_
        refine lv_icmp_gt (tgt := 38) hx hb dX8_partOf_31 rfl (fun c_4 => ?_) (fun c_4 => ?_)
        · skip
          have i_4 : 8 < p0.toInt := (fa_lt _ _).mp c_4
          refine lv_iconst (v := 4) hx hb dX8_partOf_38 kic_4 ?_
          have hP9 := h.2.1.sub [] rfl
          have hD9 := h.2.2.1.sub (ws' := []) [] (by decide) rfl
          exact W.iret (v := 4) hx hb hr (fun t ht hW => ⟨⟨4, (), rfl, (by rw [pN_eq hp]; (repeat' split) <;> first | (with_reducible rfl) | (exfalso; omega) | rfl | omega), (by rw [ht]; exact hP9), hD9⟩, h.2.2.2.1.F ht⟩) h.2.2.2.1.2.2 dX8_partOf_39 hlocks
        · skip
          have i_4 : ¬ 8 < p0.toInt := fun h9 => c_4 ((fa_lt _ _).mpr h9)
          refine lv_iconst (v := 3) hx hb dX8_partOf_34 kic_3 ?_
          refine lv_goto (tgt := 39) hx hb dX8_partOf_35 rfl ?_
          have hP9 := h.2.1.sub [] rfl
          have hD9 := h.2.2.1.sub (ws' := []) [] (by decide) rfl
          exact W.iret (v := 3) hx hb hr (fun t ht hW => ⟨⟨3, (), rfl, (by rw [pN_eq hp]; (repeat' split) <;> first | (with_reducible rfl) | (exfalso; omega) | rfl | omega), (by rw [ht]; exact hP9), hD9⟩, h.2.2.2.1.F ht⟩) h.2.2.2.1.2.2 dX8_partOf_39 hlocks
      · skip
        have i_3 : p0.toInt = 6 := (fa_eq _ _).mp c_3
        refine lv_iconst (v := 2) hx hb dX8_partOf_24 kic_2 ?_
        refine lv_goto (tgt := 39) hx hb dX8_partOf_25 rfl ?_
        have hP9 := h.2.1.sub [] rfl
        have hD9 := h.2.2.1.sub (ws' := []) [] (by decide) rfl
        exact W.iret (v := 2) hx hb hr (fun t ht hW => ⟨⟨2, (), rfl, (by rw [pN_eq hp]; (repeat' split) <;> first | (with_reducible rfl) | (exfalso; omega) | rfl | omega), (by rw [ht]; exact hP9), hD9⟩, h.2.2.2.1.F ht⟩) h.2.2.2.1.2.2 dX8_partOf_39 hlocks
    · skip
      have i_2 : ¬ 5 < p0.toInt := fun h9 => c_2 ((fa_lt _ _).mpr h9)
      refine lv_iconst (v := 1) hx hb dX8_partOf_14 kic_1 ?_
      refine lv_goto (tgt := 39) hx hb dX8_partOf_15 rfl ?_
      have hP9 := h.2.1.sub [] rfl
      have hD9 := h.2.2.1.sub (ws' := []) [] (by decide) rfl
      exact W.iret (v := 1) hx hb hr (fun t ht hW => ⟨⟨1, (), rfl, (by rw [pN_eq hp]; (repeat' split) <;> first | (with_reducible rfl) | (exfalso; omega) | rfl | omega), (by rw [ht]; exact hP9), hD9⟩, h.2.2.2.1.F ht⟩) h.2.2.2.1.2.2 dX8_partOf_39 hlocks
  · skip
    have i_1 : ¬ 1 < p0.toInt := fun h9 => c_1 ((fa_lt _ _).mpr h9)
    refine lv_iconst (v := 0) hx hb dX8_partOf_5 kic_0 ?_
    refine lv_goto (tgt := 39) hx hb dX8_partOf_6 rfl ?_
    have hP9 := h.2.1.sub [] rfl
    have hD9 := h.2.2.1.sub (ws' := []) [] (by decide) rfl
    exact W.iret (v := 0) hx hb hr (fun t ht hW => ⟨⟨0, (), rfl, (by rw [pN_eq hp]; (repeat' split) <;> first | (with_reducible rfl) | (exfalso; omega) | rfl | omega), (by rw [ht]; exact hP9), hD9⟩, h.2.2.2.1.F ht⟩) h.2.2.2.1.2.2 dX8_partOf_39 hlocks
