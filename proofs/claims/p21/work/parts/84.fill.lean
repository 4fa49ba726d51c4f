/-- what a call of fill() has told -/
def FPost (q : mPI) (r : Int32) (lf d wd : Nat) (ch : Nat → Nat) : Prop := (r = 1 ∧ mCF q lf d ∧ mPC q ch lf d wd) ∨ (r = 0 ∧ ¬ mCF q lf d)
theorem FP_yes {q : mPI} {d wd k s : Nat} {ch : Nat → Nat} (h1 : mLS q k d s) (h2 : mPC q ch k (d ||| s) (wd + 1)) : mPC q (mUpd ch wd s) (k + 1) d wd := by
  refine Or.inr ⟨?_, ?_⟩
  · rw [mUpd_s]
    exact h1
  · rw [mUpd_s]
    exact mPC_congr q k _ _ (fun j hj => (mUpd_n (by omega)).symm) h2
theorem mCF_z {q : mPI} {k d : Nat} (hk : k ≤ 0) (hd : ¬ d = 2 ^ q.1 - 1) : ¬ mCF q k d := by
  have e : k = 0 := by omega
  subst e
  exact hd
theorem FP_1 {q : mPI} {r : Int32} {lf d wd : Nat} {ch : Nat → Nat} (h : FPost q r lf d wd ch) (c : ¬ r = 0) : mCF q lf d ∧ mPC q ch lf d wd := by
  rcases h with h | h
  · exact h.2
  · exact absurd h.1 c
theorem FP_0 {q : mPI} {r : Int32} {lf d wd : Nat} {ch : Nat → Nat} (h : FPost q r lf d wd ch) (c : r = 0) : ¬ mCF q lf d := by
  rcases h with h | h
  · rw [c] at h
    exact absurd h.1 (by decide)
  · exact h.2
set_option maxHeartbeats 4000000 in
set_option maxRecDepth 100000 in
theorem c_fillK (l : Launch) (dC : Nat → ClassId) (dI : Nat → Nat → Nat) : ∀ (k : Nat) (sz : Nat) (o6 : Nat) (a6_0 : Nat) (o5 : Nat) (a6_2 : Nat) (a6_3 : Nat) (a6_4 : Nat) (a6_5 : Nat) (a6_6 : Nat) (a6_7 : Nat) (c6_0 : ClassId) (c6_2 : ClassId) (c6_3 : ClassId) (c6_4 : ClassId) (c6_5 : ClassId) (c6_6 : ClassId) (c6_7 : ClassId) (q : mPI) (n6 : Nat) (w6 : Nat) (cH : Nat → Nat) (eE : Nat → Nat) (eB : Nat → Nat) (eW : Nat → Nat) (eP : Nat → Nat) (eR : Nat → Nat) (tF : Nat → Nat) (d9 : Nat) (wd : Nat) (hq : q.1 = n6 ∧ n6 ≤ 10 ∧ 1 ≤ q.2.2.2 ∧ q.2.2.2 ≤ 3) (hE : NE q.2.1 n6 0 0 2 eE) (hB : NE q.2.1 n6 0 0 1 eB) (hW : WL q.2.1 n6 0 eW) (hP : ∀ p, p < 5 → eP p = mOP q.2.2.1 p n6) (hR : ∀ p, p < 5 → eR p = pRoom q.2.2.2 p) (hd : d9 < 2 ^ n6) (hcl : mCl q d9) (hw6 : w6 ≤ 10) (hwd : wd ≤ w6) (hTF : TF q tF) (hk : w6 - wd < k), Met l yX6_fill wsX6_fill ({ frames := k + 2, cells := 0, slots := 0, locals := 40 * k + 100 } : Room) (va_Pc [.ref o6, .int (nI d9), .int (nI wd)] (KPre (dC, dI) [(o6, .inr (6, [.ref a6_0, .ref o5, .ref a6_2, .ref a6_3, .ref a6_4, .ref a6_5, .ref a6_6, .ref a6_7, .int (nI n6), .int (nI w6)])), (a6_0, .inl (c6_0, 10, .inl (fun j => nI (cH j)))), (a6_2, .inl (c6_2, 10, .inl (fun j => nI (eE j)))), (a6_3, .inl (c6_3, 10, .inl (fun j => nI (eB j)))), (a6_4, .inl (c6_4, 10, .inl (fun j => nI (eW j)))), (a6_5, .inl (c6_5, 5, .inl (fun j => nI (eP j)))), (a6_6, .inl (c6_6, 5, .inl (fun j => nI (eR j)))), (a6_7, .inl (c6_7, 1024, .inl (fun j => nI (tF j))))] [(c6_0, .int), (c6_2, .int), (c6_3, .int), (c6_4, .int), (c6_5, .int), (c6_6, .int), (c6_7, .byte)] sz (fun U => KAll (va_A [(o6, .inr (6, [.ref a6_0, .ref o5, .ref a6_2, .ref a6_3, .ref a6_4, .ref a6_5, .ref a6_6, .ref a6_7, .int (nI n6), .int (nI w6)])), (a6_0, .inl (c6_0, 10, .inl (fun j => nI (cH j)))), (a6_2, .inl (c6_2, 10, .inl (fun j => nI (eE j)))), (a6_3, .inl (c6_3, 10, .inl (fun j => nI (eB j)))), (a6_4, .inl (c6_4, 10, .inl (fun j => nI (eW j)))), (a6_5, .inl (c6_5, 5, .inl (fun j => nI (eP j)))), (a6_6, .inl (c6_6, 5, .inl (fun j => nI (eR j)))), (a6_7, .inl (c6_7, 1024, .inl (fun j => nI (tF j))))] sz) U))) (va_Qi (fun (r : Int32) (u : (Nat → Nat) × (Nat → Nat)) => FPost q r (w6 - wd) d9 wd u.1 ∧ TF q u.2) (KPost (dC, dI) (va_A [(o6, .inr (6, [.ref a6_0, .ref o5, .ref a6_2, .ref a6_3, .ref a6_4, .ref a6_5, .ref a6_6, .ref a6_7, .int (nI n6), .int (nI w6)])), (a6_0, .inl (c6_0, 10, .inl (fun j => nI (cH j)))), (a6_2, .inl (c6_2, 10, .inl (fun j => nI (eE j)))), (a6_3, .inl (c6_3, 10, .inl (fun j => nI (eB j)))), (a6_4, .inl (c6_4, 10, .inl (fun j => nI (eW j)))), (a6_5, .inl (c6_5, 5, .inl (fun j => nI (eP j)))), (a6_6, .inl (c6_6, 5, .inl (fun j => nI (eR j)))), (a6_7, .inl (c6_7, 1024, .inl (fun j => nI (tF j))))] sz) (fun (u : (Nat → Nat) × (Nat → Nat)) => [(o6, .inr (6, [.ref a6_0, .ref o5, .ref a6_2, .ref a6_3, .ref a6_4, .ref a6_5, .ref a6_6, .ref a6_7, .int (nI n6), .int (nI w6)])), (a6_0, .inl (c6_0, 10, .inl (fun j => nI (u.1 j)))), (a6_2, .inl (c6_2, 10, .inl (fun j => nI (eE j)))), (a6_3, .inl (c6_3, 10, .inl (fun j => nI (eB j)))), (a6_4, .inl (c6_4, 10, .inl (fun j => nI (eW j)))), (a6_5, .inl (c6_5, 5, .inl (fun j => nI (eP j)))), (a6_6, .inl (c6_6, 5, .inl (fun j => nI (eR j)))), (a6_7, .inl (c6_7, 1024, .inl (fun j => nI (u.2 j))))])) (va_A [(o6, .inr (6, [.ref a6_0, .ref o5, .ref a6_2, .ref a6_3, .ref a6_4, .ref a6_5, .ref a6_6, .ref a6_7, .int (nI n6), .int (nI w6)])), (a6_0, .inl (c6_0, 10, .inl (fun j => nI (cH j)))), (a6_2, .inl (c6_2, 10, .inl (fun j => nI (eE j)))), (a6_3, .inl (c6_3, 10, .inl (fun j => nI (eB j)))), (a6_4, .inl (c6_4, 10, .inl (fun j => nI (eW j)))), (a6_5, .inl (c6_5, 5, .inl (fun j => nI (eP j)))), (a6_6, .inl (c6_6, 5, .inl (fun j => nI (eR j)))), (a6_7, .inl (c6_7, 1024, .inl (fun j => nI (tF j))))] sz)) 0 0 (va_A [(o6, .inr (6, [.ref a6_0, .ref o5, .ref a6_2, .ref a6_3, .ref a6_4, .ref a6_5, .ref a6_6, .ref a6_7, .int (nI n6), .int (nI w6)])), (a6_0, .inl (c6_0, 10, .inl (fun j => nI (cH j)))), (a6_2, .inl (c6_2, 10, .inl (fun j => nI (eE j)))), (a6_3, .inl (c6_3, 10, .inl (fun j => nI (eB j)))), (a6_4, .inl (c6_4, 10, .inl (fun j => nI (eW j)))), (a6_5, .inl (c6_5, 5, .inl (fun j => nI (eP j)))), (a6_6, .inl (c6_6, 5, .inl (fun j => nI (eR j)))), (a6_7, .inl (c6_7, 1024, .inl (fun j => nI (tF j))))] sz) := by
  intro k
  induction k with
  | zero => intro sz o6 a6_0 o5 a6_2 a6_3 a6_4 a6_5 a6_6 a6_7 c6_0 c6_2 c6_3 c6_4 c6_5 c6_6 c6_7 q n6 w6 cH eE eB eW eP eR tF d9 wd hq hE hB hW hP hR hd hcl hw6 hwd hTF hk; exact absurd hk (Nat.not_lt_zero _)
  | succ k ih =>
  intro sz o6 a6_0 o5 a6_2 a6_3 a6_4 a6_5 a6_6 a6_7 c6_0 c6_2 c6_3 c6_4 c6_5 c6_6 c6_7 q n6 w6 cH eE eB eW eP eR tF d9 wd hq hE hB hW hP hR hd hcl hw6 hwd hTF hk
  refine kMet (y := yX6_fill) (wsM := wsX6_fill) (cc := cX6_fill) (maxL := 11) (ret := (some .boolean)) (rm := ({ frames := k + 1 + 2, cells := 0, slots := 0, locals := 40 * (k + 1) + 100 } : Room)) (mc := 0) (ms := 0) (av := [.ref o6, .int (nI d9), .int (nI wd)]) (D := (dC, dI)) (wc := [(o6, .inr (6, [.ref a6_0, .ref o5, .ref a6_2, .ref a6_3, .ref a6_4, .ref a6_5, .ref a6_6, .ref a6_7, .int (nI n6), .int (nI w6)])), (a6_0, .inl (c6_0, 10, .inl (fun j => nI (cH j)))), (a6_2, .inl (c6_2, 10, .inl (fun j => nI (eE j)))), (a6_3, .inl (c6_3, 10, .inl (fun j => nI (eB j)))), (a6_4, .inl (c6_4, 10, .inl (fun j => nI (eW j)))), (a6_5, .inl (c6_5, 5, .inl (fun j => nI (eP j)))), (a6_6, .inl (c6_6, 5, .inl (fun j => nI (eR j)))), (a6_7, .inl (c6_7, 1024, .inl (fun j => nI (tF j))))]) (tc := [(c6_0, .int), (c6_2, .int), (c6_3, .int), (c6_4, .int), (c6_5, .int), (c6_6, .int), (c6_7, .byte)]) (sz := sz) (X := fun U => KAll (va_A [(o6, .inr (6, [.ref a6_0, .ref o5, .ref a6_2, .ref a6_3, .ref a6_4, .ref a6_5, .ref a6_6, .ref a6_7, .int (nI n6), .int (nI w6)])), (a6_0, .inl (c6_0, 10, .inl (fun j => nI (cH j)))), (a6_2, .inl (c6_2, 10, .inl (fun j => nI (eE j)))), (a6_3, .inl (c6_3, 10, .inl (fun j => nI (eB j)))), (a6_4, .inl (c6_4, 10, .inl (fun j => nI (eW j)))), (a6_5, .inl (c6_5, 5, .inl (fun j => nI (eP j)))), (a6_6, .inl (c6_6, 5, .inl (fun j => nI (eR j)))), (a6_7, .inl (c6_7, 1024, .inl (fun j => nI (tF j))))] sz) U) (Qc := fun A => va_Qi (fun (r : Int32) (u : (Nat → Nat) × (Nat → Nat)) => FPost q r (w6 - wd) d9 wd u.1 ∧ TF q u.2) (KPost (dC, dI) A (fun (u : (Nat → Nat) × (Nat → Nat)) => [(o6, .inr (6, [.ref a6_0, .ref o5, .ref a6_2, .ref a6_3, .ref a6_4, .ref a6_5, .ref a6_6, .ref a6_7, .int (nI n6), .int (nI w6)])), (a6_0, .inl (c6_0, 10, .inl (fun j => nI (u.1 j)))), (a6_2, .inl (c6_2, 10, .inl (fun j => nI (eE j)))), (a6_3, .inl (c6_3, 10, .inl (fun j => nI (eB j)))), (a6_4, .inl (c6_4, 10, .inl (fun j => nI (eW j)))), (a6_5, .inl (c6_5, 5, .inl (fun j => nI (eP j)))), (a6_6, .inl (c6_6, 5, .inl (fun j => nI (eR j)))), (a6_7, .inl (c6_7, 1024, .inl (fun j => nI (u.2 j))))])) A) (by decide) rfl (Nat.le_of_ble_eq_true rfl) ?_
  intro p e s m below meth c A ls E hr hlocks hnm hsz hAe hX h hl
  have hx := E.1
  have hb := E.2.1
  have hl : lv_has ls 11 [(0, .ref o6), (1, .int (nI d9)), (2, .int (nI wd))] := hl
  have hX : KAll A s := by rw [← hAe]; exact hX
  obtain ⟨⟨tD, hZD, hTD⟩, ⟨tX, hZX, hTX⟩, ⟨tY, hZY, hTY⟩, ⟨tP, hZP, hTP⟩, ⟨tL, hZL, hTL⟩, ⟨tM, hZM, hTM⟩, hN0_134, hN0_60, hN0_96, hN1_83, hN1_87, hN3_49, hN3_52, hN4_44, hN4_69, hN5_33, hN6_102, hN6_67, hF37, hF40, hF50, hF53⟩ := id hX
  have ht0 := mm_two (i := n6) hq.2.1
  have hW1 : WL q.2.1 q.1 0 eW := by rw [hq.1]; exact hW
  refine lv_iconst (v := 1) hx hb dX6_fill_0 kic_1 ?_
  refine lv_aload_n hx hb dX6_fill_1 rfl (lv_at hl 0 rfl) ?_
  refine k_get (v := .int (nI n6)) E h (fun w h => List.mem_cons_of_mem _ (List.mem_append_right _ h)) 0 rfl rfl 8 (Nat.le_of_ble_eq_true rfl) (List.mem_of_getElem? (i := 1) rfl) rfl dX6_fill_2 ?_
  refine lv_ishl hx hb dX6_fill_5 ?_
  refine k_topi (y := nI (2 ^ n6)) (mm_shl (by omega)) ?_
  refine lv_iconst (v := 1) hx hb dX6_fill_6 kic_1 ?_
  refine lv_isub hx hb dX6_fill_7 ?_
  refine k_topi (y := nI (2 ^ n6 - 1)) (pk_sub (a := 2 ^ n6) (b := 1) (mm_pos n6)) ?_
  refine lv_iload_n hx hb dX6_fill_8 rfl (lv_at hl 1 rfl) ?_
  refine lv_iconst (v := -1) hx hb dX6_fill_9 kic_m1 ?_
  refine lv_ixor hx hb dX6_fill_10 ?_
  refine lv_iand hx hb dX6_fill_11 ?_
  refine k_topi (y := nI (mDif (2 ^ n6 - 1) d9)) (mm_andn (2 ^ n6 - 1) d9) ?_
  refine lv_istore_n (lv' := [(3, .int (nI (mDif (2 ^ n6 - 1) d9))), (0, .ref o6), (1, .int (nI d9)), (2, .int (nI wd))]) hx hb dX6_fill_12 rfl hl (Nat.le_of_ble_eq_true rfl) rfl (fun ls hl => ?_)
  refine W.eq (g2 := F0 m 13 ls []) rfl ?_
  refine lv_iload_n hx hb dX6_fill_13 rfl (lv_at hl 0 rfl) ?_
  have hr1 := mDif_le (2 ^ n6 - 1) d9
  refine lv_if_ne (tgt := 19) hx hb dX6_fill_14 rfl (fun c_1 => ?_) (fun c_1 => ?_)
  · skip
    have i_1 : ¬ (mDif (2 ^ n6 - 1) d9) = 0 := fun h9 => c_1 ((nI_eq (a := (mDif (2 ^ n6 - 1) d9)) (b := 0) (by omega) (by omega)).mpr h9)
    have hdf : ¬ d9 = 2 ^ q.1 - 1 := by rw [hq.1]; exact fun z => i_1 ((mRest_0 hd).mpr z)
    refine lv_aload_n hx hb dX6_fill_19 rfl (lv_at hl 1 rfl) ?_
    refine k_get (v := .int (nI w6)) E h (fun w h => List.mem_cons_of_mem _ (List.mem_append_right _ h)) 0 rfl rfl 9 (Nat.le_of_ble_eq_true rfl) (List.mem_of_getElem? (i := 2) rfl) rfl dX6_fill_20 ?_
    refine lv_iload_n hx hb dX6_fill_23 rfl (lv_at hl 3 rfl) ?_
    refine lv_isub hx hb dX6_fill_24 ?_
    refine k_topi (y := nI (w6 - wd)) (pk_sub (by omega)) ?_
    refine lv_istore (lv' := [(4, .int (nI (w6 - wd))), (3, .int (nI (mDif (2 ^ n6 - 1) d9))), (0, .ref o6), (1, .int (nI d9)), (2, .int (nI wd))]) hx hb dX6_fill_25 hl (Nat.le_of_ble_eq_true rfl) rfl (fun ls hl => ?_)
    refine lv_iload hx hb dX6_fill_27 (lv_at hl 0 rfl) ?_
    refine lv_if_le (tgt := 53) hx hb dX6_fill_29 rfl (fun c_2 => ?_) (fun c_2 => ?_)
    · skip
      have i_2 : (w6 - wd) ≤ 0 := (nI_leI (a := (w6 - wd)) (b := 0) (by omega) (by omega)).mp c_2
      refine lv_iconst (v := 0) hx hb dX6_fill_53 kic_0 ?_
      have hP9 := h.2.1.sub [0, 1, 2, 3, 4, 5, 6, 7] rfl
      have hD9 := h.2.2.1.sub (ws' := [(o6, .inr (6, [.ref a6_0, .ref o5, .ref a6_2, .ref a6_3, .ref a6_4, .ref a6_5, .ref a6_6, .ref a6_7, .int (nI n6), .int (nI w6)])), (a6_0, .inl (c6_0, 10, .inl (fun j => nI (cH j)))), (a6_2, .inl (c6_2, 10, .inl (fun j => nI (eE j)))), (a6_3, .inl (c6_3, 10, .inl (fun j => nI (eB j)))), (a6_4, .inl (c6_4, 10, .inl (fun j => nI (eW j)))), (a6_5, .inl (c6_5, 5, .inl (fun j => nI (eP j)))), (a6_6, .inl (c6_6, 5, .inl (fun j => nI (eR j)))), (a6_7, .inl (c6_7, 1024, .inl (fun j => nI (tF j))))]) [0, 1, 2, 3, 4, 5, 6, 7] (by decide +kernel) rfl
      exact W.zret (v := 0) hx hb hr (by decide) (fun t ht hW => ⟨⟨0, (cH, tF), rfl, ⟨Or.inr ⟨rfl, (by first | exact mCF_z (by assumption) hdf | exact TF_no hTF (by rw [hq.1]; exact hd) hdf (by assumption) | exact TM_no (WL_WB hW1) hcl (by rw [hq.1]; exact hTM))⟩, hTF⟩, (by rw [ht]; exact hP9), hD9⟩, h.2.2.2.1.F ht⟩) h.2.2.2.1.2.2 dX6_fill_54 hlocks
    · skip
      have i_2 : ¬ (w6 - wd) ≤ 0 := fun h9 => c_2 ((nI_leI (a := (w6 - wd)) (b := 0) (by omega) (by omega)).mpr h9)
      refine lv_aload_n hx hb dX6_fill_32 rfl (lv_at hl 2 rfl) ?_
      refine k_get (v := .ref a6_7) E h (fun w h => List.mem_cons_of_mem _ (List.mem_append_right _ h)) 0 rfl rfl 7 (Nat.le_of_ble_eq_true rfl) (List.mem_of_getElem? (i := 3) rfl) rfl dX6_fill_33 ?_
      refine lv_iload_n hx hb dX6_fill_36 rfl (lv_at hl 3 rfl) ?_
      refine k_bald (v := nI (tF d9)) E h 7 6 rfl rfl (vp_in_nI (by omega) (by omega)) (by rw [nI_clamp (by omega)]) dX6_fill_37 ?_
      have htf := (hTF d9 (by rw [hq.1]; exact hd)).1
      refine lv_iload hx hb dX6_fill_38 (lv_at hl 0 rfl) ?_
      refine lv_icmp_ge (tgt := 53) hx hb dX6_fill_40 rfl (fun c_3 => ?_) (fun c_3 => ?_)
      · skip
        have i_3 : (w6 - wd) ≤ (tF d9) := (nI_leI (a := (w6 - wd)) (b := (tF d9)) (by omega) (by omega)).mp c_3
        refine lv_iconst (v := 0) hx hb dX6_fill_53 kic_0 ?_
        have hP9 := h.2.1.sub [0, 1, 2, 3, 4, 5, 6, 7] rfl
        have hD9 := h.2.2.1.sub (ws' := [(o6, .inr (6, [.ref a6_0, .ref o5, .ref a6_2, .ref a6_3, .ref a6_4, .ref a6_5, .ref a6_6, .ref a6_7, .int (nI n6), .int (nI w6)])), (a6_0, .inl (c6_0, 10, .inl (fun j => nI (cH j)))), (a6_2, .inl (c6_2, 10, .inl (fun j => nI (eE j)))), (a6_3, .inl (c6_3, 10, .inl (fun j => nI (eB j)))), (a6_4, .inl (c6_4, 10, .inl (fun j => nI (eW j)))), (a6_5, .inl (c6_5, 5, .inl (fun j => nI (eP j)))), (a6_6, .inl (c6_6, 5, .inl (fun j => nI (eR j)))), (a6_7, .inl (c6_7, 1024, .inl (fun j => nI (tF j))))]) [0, 1, 2, 3, 4, 5, 6, 7] (by decide +kernel) rfl
        exact W.zret (v := 0) hx hb hr (by decide) (fun t ht hW => ⟨⟨0, (cH, tF), rfl, ⟨Or.inr ⟨rfl, (by first | exact mCF_z (by assumption) hdf | exact TF_no hTF (by rw [hq.1]; exact hd) hdf (by assumption) | exact TM_no (WL_WB hW1) hcl (by rw [hq.1]; exact hTM))⟩, hTF⟩, (by rw [ht]; exact hP9), hD9⟩, h.2.2.2.1.F ht⟩) h.2.2.2.1.2.2 dX6_fill_54 hlocks
      · skip
        have i_3 : ¬ (w6 - wd) ≤ (tF d9) := fun h9 => c_3 ((nI_leI (a := (w6 - wd)) (b := (tF d9)) (by omega) (by omega)).mpr h9)
        refine lv_aload_n hx hb dX6_fill_43 rfl (lv_at hl 2 rfl) ?_
        refine lv_iload_n hx hb dX6_fill_44 rfl (lv_at hl 1 rfl) ?_
        refine lv_iload hx hb dX6_fill_45 (lv_at hl 0 rfl) ?_
        refine kc_i (wc := [(o6, .inr (6, [.ref a6_0, .ref o5, .ref a6_2, .ref a6_3, .ref a6_4, .ref a6_5, .ref a6_6, .ref a6_7, .int (nI n6), .int (nI w6)])), (a6_5, .inl (c6_5, 5, .inl (fun j => nI (eP j)))), (a6_6, .inl (c6_6, 5, .inl (fun j => nI (eR j)))), (a6_4, .inl (c6_4, 10, .inl (fun j => nI (eW j))))]) (wr := [(a6_0, .inl (c6_0, 10, .inl (fun j => nI (cH j)))), (a6_2, .inl (c6_2, 10, .inl (fun j => nI (eE j)))), (a6_3, .inl (c6_3, 10, .inl (fun j => nI (eB j)))), (a6_7, .inl (c6_7, 1024, .inl (fun j => nI (tF j))))]) h (va_runV (As := [.int (nI (mDif (2 ^ n6 - 1) d9)), .int (nI (w6 - wd))]) (rest := []) E (c_X6_areTooMany l dC dI _ (o6 := o6) (a6_0 := a6_0) (o5 := o5) (a6_2 := a6_2) (a6_3 := a6_3) (a6_4 := a6_4) (a6_5 := a6_5) (a6_6 := a6_6) (a6_7 := a6_7) (v6_9 := (nI w6)) (c6_5 := c6_5) (c6_6 := c6_6) (c6_4 := c6_4) (q := q) (n6 := n6) (eP := eP) (eR := eR) (eW := eW) (rs := (mDif (2 ^ n6 - 1) d9)) (lf := (w6 - wd)) (hq := hq) (hP := hP) (hR := hR) (hW := hW) (hrs := (by omega)) (hlf := (by omega))) (cwV 2 E.2.2.2.2 gX6_fill_X6_areTooMany rfl rfl rfl hdV_X6_areTooMany ⟨by first | omega | (dsimp only; omega), by first | omega | (dsimp only; omega)⟩) (kPreV (q0 := 0) (ci := 6) (q := (RX6, TX6, 10)) h KAll.blind (KAll.call hX h [0, 5, 6, 4] rfl) [0, 5, 6, 4] [4, 5, 3] (by decide) rfl rfl rfl rfl) rfl rfl hl.1 rfl (lv_room (Nat.le_of_ble_eq_true rfl)) dX6_fill_47 ⟨by first | omega | (dsimp only; omega), by first | omega | (dsimp only; omega)⟩) [0, 5, 6, 4] [1, 2, 3, 7] rfl rfl (by decide) (by decide) (fun r_4 u_4 H locs hw_4 h => ?_)
        have h : KS (dC, dI) A [(a6_0, .inl (c6_0, 10, .inl (fun j => nI (cH j)))), (a6_2, .inl (c6_2, 10, .inl (fun j => nI (eE j)))), (a6_3, .inl (c6_3, 10, .inl (fun j => nI (eB j)))), (a6_7, .inl (c6_7, 1024, .inl (fun j => nI (tF j)))), (o6, .inr (6, [.ref a6_0, .ref o5, .ref a6_2, .ref a6_3, .ref a6_4, .ref a6_5, .ref a6_6, .ref a6_7, .int (nI n6), .int (nI w6)])), (a6_5, .inl (c6_5, 5, .inl (fun j => nI (eP j)))), (a6_6, .inl (c6_6, 5, .inl (fun j => nI (eR j)))), (a6_4, .inl (c6_4, 10, .inl (fun j => nI (eW j))))] [(c6_0, .int), (c6_2, .int), (c6_3, .int), (c6_4, .int), (c6_5, .int), (c6_6, .int), (c6_7, .byte)] s H locs := h
        have hw_4 : (r_4 = 0 ∨ r_4 = 1) ∧ (¬ r_4 = 0 → TM q eW (mDif (2 ^ n6 - 1) d9) (w6 - wd)) := by first | exact hw_4 | (simp only [Int32.toInt_toInt64] at hw_4; exact hw_4)
        have hTM0 := hw_4
        refine W.eq (g2 := F0 m 50 ls [.int r_4]) rfl ?_
        refine lv_if_eq (tgt := 55) hx hb dX6_fill_50 rfl (fun c_5 => ?_) (fun c_5 => ?_)
        · skip
          have i_5 : r_4.toInt = 0 := (fa_eq _ _).mp c_5
          refine lv_aload_n hx hb dX6_fill_55 rfl (lv_at hl 2 rfl) ?_
          refine lv_iload_n hx hb dX6_fill_56 rfl (lv_at hl 3 rfl) ?_
          refine kc_i (wc := [(o6, .inr (6, [.ref a6_0, .ref o5, .ref a6_2, .ref a6_3, .ref a6_4, .ref a6_5, .ref a6_6, .ref a6_7, .int (nI n6), .int (nI w6)])), (a6_2, .inl (c6_2, 10, .inl (fun j => nI (eE j)))), (a6_3, .inl (c6_3, 10, .inl (fun j => nI (eB j))))]) (wr := [(a6_0, .inl (c6_0, 10, .inl (fun j => nI (cH j)))), (a6_7, .inl (c6_7, 1024, .inl (fun j => nI (tF j)))), (a6_5, .inl (c6_5, 5, .inl (fun j => nI (eP j)))), (a6_6, .inl (c6_6, 5, .inl (fun j => nI (eR j)))), (a6_4, .inl (c6_4, 10, .inl (fun j => nI (eW j))))]) h (va_runV (As := [.int (nI d9)]) (rest := []) E (c_X6_readyAfter l dC dI _ (o6 := o6) (a6_0 := a6_0) (o5 := o5) (a6_2 := a6_2) (a6_3 := a6_3) (a6_4 := a6_4) (a6_5 := a6_5) (a6_6 := a6_6) (a6_7 := a6_7) (v6_9 := (nI w6)) (c6_2 := c6_2) (c6_3 := c6_3) (q := q) (n6 := n6) (eE := eE) (eB := eB) (d9 := d9) (hq := hq) (hE := hE) (hB := hB) (hd := hd)) (cwV 1 E.2.2.2.2 gX6_fill_X6_readyAfter rfl rfl rfl hdV_X6_readyAfter ⟨by first | omega | (dsimp only; omega), by first | omega | (dsimp only; omega)⟩) (kPreV (q0 := 4) (ci := 6) (q := (RX6, TX6, 10)) h KAll.blind (KAll.call hX h [4, 1, 2] rfl) [4, 1, 2] [1, 2] (by decide) rfl rfl rfl rfl) rfl rfl hl.1 rfl (lv_room (Nat.le_of_ble_eq_true rfl)) dX6_fill_57 ⟨by first | omega | (dsimp only; omega), by first | omega | (dsimp only; omega)⟩) [4, 1, 2] [0, 3, 5, 6, 7] rfl rfl (by decide) (by decide) (fun r_6 u_6 H locs hw_6 h => ?_)
          obtain ⟨rd, rfl⟩ : ∃ z, z = u_6 := ⟨_, rfl⟩
          have h : KS (dC, dI) A [(a6_0, .inl (c6_0, 10, .inl (fun j => nI (cH j)))), (a6_7, .inl (c6_7, 1024, .inl (fun j => nI (tF j)))), (a6_5, .inl (c6_5, 5, .inl (fun j => nI (eP j)))), (a6_6, .inl (c6_6, 5, .inl (fun j => nI (eR j)))), (a6_4, .inl (c6_4, 10, .inl (fun j => nI (eW j)))), (o6, .inr (6, [.ref a6_0, .ref o5, .ref a6_2, .ref a6_3, .ref a6_4, .ref a6_5, .ref a6_6, .ref a6_7, .int (nI n6), .int (nI w6)])), (a6_2, .inl (c6_2, 10, .inl (fun j => nI (eE j)))), (a6_3, .inl (c6_3, 10, .inl (fun j => nI (eB j))))] [(c6_0, .int), (c6_2, .int), (c6_3, .int), (c6_4, .int), (c6_5, .int), (c6_6, .int), (c6_7, .byte)] s H locs := h
          have hw_6 : r_6 = nI rd ∧ RDp q d9 rd q.1 := by first | exact hw_6 | (simp only [Int32.toInt_toInt64] at hw_6; exact hw_6)
          refine k_topi (y := nI rd) (hw_6.1) ?_
          have hRD := hw_6.2
          have hrd0 := RDp_lt hRD
          refine W.eq (g2 := F0 m 60 ls [.int (nI rd)]) rfl ?_
          refine lv_istore (lv' := [(5, .int (nI rd)), (4, .int (nI (w6 - wd))), (3, .int (nI (mDif (2 ^ n6 - 1) d9))), (0, .ref o6), (1, .int (nI d9)), (2, .int (nI wd))]) hx hb dX6_fill_60 hl (Nat.le_of_ble_eq_true rfl) rfl (fun ls hl => ?_)
          refine lv_aload_n hx hb dX6_fill_62 rfl (lv_at hl 3 rfl) ?_
          refine lv_iload_n hx hb dX6_fill_63 rfl (lv_at hl 2 rfl) ?_
          refine lv_iload hx hb dX6_fill_64 (lv_at hl 1 rfl) ?_
          refine kc_i (wc := [(o6, .inr (6, [.ref a6_0, .ref o5, .ref a6_2, .ref a6_3, .ref a6_4, .ref a6_5, .ref a6_6, .ref a6_7, .int (nI n6), .int (nI w6)])), (a6_4, .inl (c6_4, 10, .inl (fun j => nI (eW j))))]) (wr := [(a6_0, .inl (c6_0, 10, .inl (fun j => nI (cH j)))), (a6_7, .inl (c6_7, 1024, .inl (fun j => nI (tF j)))), (a6_5, .inl (c6_5, 5, .inl (fun j => nI (eP j)))), (a6_6, .inl (c6_6, 5, .inl (fun j => nI (eR j)))), (a6_2, .inl (c6_2, 10, .inl (fun j => nI (eE j)))), (a6_3, .inl (c6_3, 10, .inl (fun j => nI (eB j))))]) h (va_runV (As := [.int (nI (mDif (2 ^ n6 - 1) d9)), .int (nI (w6 - wd))]) (rest := []) E (c_X6_urgentOf l dC dI _ (o6 := o6) (a6_0 := a6_0) (o5 := o5) (a6_2 := a6_2) (a6_3 := a6_3) (a6_4 := a6_4) (a6_5 := a6_5) (a6_6 := a6_6) (a6_7 := a6_7) (v6_9 := (nI w6)) (c6_4 := c6_4) (q := q) (n6 := n6) (eW := eW) (rs := (mDif (2 ^ n6 - 1) d9)) (lf := (w6 - wd)) (hq := hq) (hW := hW) (hrs := (by omega)) (hlf := ⟨by omega, by omega⟩)) (cwV 2 E.2.2.2.2 gX6_fill_X6_urgentOf rfl rfl rfl hdV_X6_urgentOf ⟨by first | omega | (dsimp only; omega), by first | omega | (dsimp only; omega)⟩) (kPreV (q0 := 5) (ci := 6) (q := (RX6, TX6, 10)) h KAll.blind (KAll.call hX h [5, 4] rfl) [5, 4] [3] (by decide) rfl rfl rfl rfl) rfl rfl hl.1 rfl (lv_room (Nat.le_of_ble_eq_true rfl)) dX6_fill_66 ⟨by first | omega | (dsimp only; omega), by first | omega | (dsimp only; omega)⟩) [5, 4] [0, 1, 2, 3, 6, 7] rfl rfl (by decide +kernel) (by decide +kernel) (fun r_7 u_7 H locs hw_7 h => ?_)
          obtain ⟨ug, rfl⟩ : ∃ z, z = u_7 := ⟨_, rfl⟩
          have h : KS (dC, dI) A [(a6_0, .inl (c6_0, 10, .inl (fun j => nI (cH j)))), (a6_7, .inl (c6_7, 1024, .inl (fun j => nI (tF j)))), (a6_5, .inl (c6_5, 5, .inl (fun j => nI (eP j)))), (a6_6, .inl (c6_6, 5, .inl (fun j => nI (eR j)))), (a6_2, .inl (c6_2, 10, .inl (fun j => nI (eE j)))), (a6_3, .inl (c6_3, 10, .inl (fun j => nI (eB j)))), (o6, .inr (6, [.ref a6_0, .ref o5, .ref a6_2, .ref a6_3, .ref a6_4, .ref a6_5, .ref a6_6, .ref a6_7, .int (nI n6), .int (nI w6)])), (a6_4, .inl (c6_4, 10, .inl (fun j => nI (eW j))))] [(c6_0, .int), (c6_2, .int), (c6_3, .int), (c6_4, .int), (c6_5, .int), (c6_6, .int), (c6_7, .byte)] s H locs := h
          have hw_7 : r_7 = nI ug ∧ UG eW (mDif (2 ^ n6 - 1) d9) (w6 - wd) ug q.1 := by first | exact hw_7 | (simp only [Int32.toInt_toInt64] at hw_7; exact hw_7)
          refine k_topi (y := nI ug) (hw_7.1) ?_
          have hUG := hw_7.2
          refine W.eq (g2 := F0 m 69 ls [.int (nI ug)]) rfl ?_
          refine lv_istore (lv' := [(6, .int (nI ug)), (5, .int (nI rd)), (4, .int (nI (w6 - wd))), (3, .int (nI (mDif (2 ^ n6 - 1) d9))), (0, .ref o6), (1, .int (nI d9)), (2, .int (nI wd))]) hx hb dX6_fill_69 hl (Nat.le_of_ble_eq_true rfl) rfl (fun ls hl => ?_)
          refine lv_iload hx hb dX6_fill_71 (lv_at hl 1 rfl) ?_
          refine lv_iload hx hb dX6_fill_73 (lv_at hl 0 rfl) ?_
          refine lv_iconst (v := -1) hx hb dX6_fill_75 kic_m1 ?_
          refine lv_ixor hx hb dX6_fill_76 ?_
          refine lv_iand hx hb dX6_fill_77 ?_
          refine k_topi (y := nI (mDif rd ug)) (mm_andn rd ug) ?_
          refine lv_istore (lv' := [(7, .int (nI (mDif rd ug))), (6, .int (nI ug)), (5, .int (nI rd)), (4, .int (nI (w6 - wd))), (3, .int (nI (mDif (2 ^ n6 - 1) d9))), (0, .ref o6), (1, .int (nI d9)), (2, .int (nI wd))]) hx hb dX6_fill_78 hl (Nat.le_of_ble_eq_true rfl) rfl (fun ls hl => ?_)
          refine lv_iconst (v := 0) hx hb dX6_fill_80 kic_0 ?_
          refine lv_istore (lv' := [(8, .int 0), (7, .int (nI (mDif rd ug))), (6, .int (nI ug)), (5, .int (nI rd)), (4, .int (nI (w6 - wd))), (3, .int (nI (mDif (2 ^ n6 - 1) d9))), (0, .ref o6), (1, .int (nI d9)), (2, .int (nI wd))]) hx hb dX6_fill_81 hl (Nat.le_of_ble_eq_true rfl) rfl (fun ls hl => ?_)
          refine lv_iconst (v := 0) hx hb dX6_fill_83 kic_0 ?_
          refine lv_istore (lv' := [(9, .int 0), (8, .int 0), (7, .int (nI (mDif rd ug))), (6, .int (nI ug)), (5, .int (nI rd)), (4, .int (nI (w6 - wd))), (3, .int (nI (mDif (2 ^ n6 - 1) d9))), (0, .ref o6), (1, .int (nI d9)), (2, .int (nI wd))]) hx hb dX6_fill_84 hl (Nat.le_of_ble_eq_true rfl) rfl (fun ls hl => ?_)
          obtain ⟨k1, hk1⟩ : ∃ k1, w6 - wd = k1 + 1 := ⟨w6 - wd - 1, by omega⟩
          rw [hk1] at hUG
          have hfr0 := mDif_le rd ug
          have hrdl : rd < 2 ^ n6 := by rw [← hq.1]; exact RDp_lt hRD
          have hugl : ug < 2 ^ n6 := by rw [← hq.1]; exact UG_lt hUG
          have hUG1 : UG eW (mDif (2 ^ q.1 - 1) d9) (k1 + 1) ug q.1 := by rw [hq.1] at hUG ⊢; exact hUG
          refine k_loop (σ := Nat × Nat × (Nat → Nat) × (Nat → Nat)) (fun x9 => [(a6_0, .inl (c6_0, 10, .inl (fun j => nI (x9.2.2.1 j)))), (a6_7, .inl (c6_7, 1024, .inl (fun j => nI (x9.2.2.2 j)))), (a6_5, .inl (c6_5, 5, .inl (fun j => nI (eP j)))), (a6_6, .inl (c6_6, 5, .inl (fun j => nI (eR j)))), (a6_2, .inl (c6_2, 10, .inl (fun j => nI (eE j)))), (a6_3, .inl (c6_3, 10, .inl (fun j => nI (eB j)))), (o6, .inr (6, [.ref a6_0, .ref o5, .ref a6_2, .ref a6_3, .ref a6_4, .ref a6_5, .ref a6_6, .ref a6_7, .int (nI n6), .int (nI w6)])), (a6_4, .inl (c6_4, 10, .inl (fun j => nI (eW j))))]) (fun x9 => [(0, .ref o6), (1, .int (nI d9)), (2, .int (nI wd)), (3, .int (nI (mDif (2 ^ n6 - 1) d9))), (4, .int (nI (w6 - wd))), (5, .int (nI rd)), (6, .int (nI ug)), (7, .int (nI (mDif rd ug))), (8, .int (nI x9.1)), (9, .int (nI x9.2.1))]) (fun n9 x9 => mSub x9.1 (mDif rd ug) ∧ x9.2.1 ≤ x9.1 ∧ n9 = 2048 - x9.1 ∧ (∀ t, mSub t (mDif rd ug) → t < x9.1 → ¬ (mLW q d9 (t ||| ug) ∧ mCF q k1 (d9 ||| (t ||| ug)))) ∧ TF q x9.2.2.2) ?_ (2048 - 0) (0, 0, cH, tF) ⟨(fun i z => absurd z (by rw [Nat.zero_testBit]; decide)), Nat.le_refl _, rfl, (fun t _ z => absurd z (Nat.not_lt_zero t)), hTF⟩ h (lv_sub hl [7, 8, 9, 6, 5, 4, 3, 2, 1, 0] rfl)
          intro n9 x9 H locs ls hI h hl ih86
          obtain ⟨sm, tn, cH, tF⟩ := x9
          have hI : mSub sm (mDif rd ug) ∧ tn ≤ sm ∧ n9 = 2048 - sm ∧ (∀ t, mSub t (mDif rd ug) → t < sm → ¬ (mLW q d9 (t ||| ug) ∧ mCF q k1 (d9 ||| (t ||| ug)))) ∧ TF q tF := hI
          have h : KS (dC, dI) A [(a6_0, .inl (c6_0, 10, .inl (fun j => nI (cH j)))), (a6_7, .inl (c6_7, 1024, .inl (fun j => nI (tF j)))), (a6_5, .inl (c6_5, 5, .inl (fun j => nI (eP j)))), (a6_6, .inl (c6_6, 5, .inl (fun j => nI (eR j)))), (a6_2, .inl (c6_2, 10, .inl (fun j => nI (eE j)))), (a6_3, .inl (c6_3, 10, .inl (fun j => nI (eB j)))), (o6, .inr (6, [.ref a6_0, .ref o5, .ref a6_2, .ref a6_3, .ref a6_4, .ref a6_5, .ref a6_6, .ref a6_7, .int (nI n6), .int (nI w6)])), (a6_4, .inl (c6_4, 10, .inl (fun j => nI (eW j))))] [(c6_0, .int), (c6_2, .int), (c6_3, .int), (c6_4, .int), (c6_5, .int), (c6_6, .int), (c6_7, .byte)] s H locs := h
          have hl : lv_has ls 11 [(0, .ref o6), (1, .int (nI d9)), (2, .int (nI wd)), (3, .int (nI (mDif (2 ^ n6 - 1) d9))), (4, .int (nI (w6 - wd))), (5, .int (nI rd)), (6, .int (nI ug)), (7, .int (nI (mDif rd ug))), (8, .int (nI sm)), (9, .int (nI tn))] := hl
          obtain ⟨hs1, hs2, hs3, hs4, hTF⟩ := hI
          have hsl := mSub_le hs1
          have hsr : sm < 2 ^ n6 := by omega
          have hacl : sm ||| ug < 2 ^ n6 := mm_or_lt hsr hugl
          have hdal : d9 ||| (sm ||| ug) < 2 ^ n6 := mm_or_lt hd hacl
          have hnxl := mNx_le sm (mDif rd ug)
          refine lv_iload hx hb dX6_fill_86 (lv_at hl 9 rfl) ?_
          refine lv_sipush (v := 1024) hx hb dX6_fill_88 ksi_1024 ?_
          refine lv_icmp_ge (tgt := 166) hx hb dX6_fill_91 rfl (fun c_8 => ?_) (fun c_8 => ?_)
          · skip
            have i_8 : 1024 ≤ tn := (nI_leI (a := 1024) (b := tn) (by omega) (by omega)).mp c_8
            exfalso; omega
          · skip
            have i_8 : ¬ 1024 ≤ tn := fun h9 => c_8 ((nI_leI (a := 1024) (b := tn) (by omega) (by omega)).mpr h9)
            refine lv_iload hx hb dX6_fill_94 (lv_at hl 8 rfl) ?_
            refine lv_iload hx hb dX6_fill_96 (lv_at hl 6 rfl) ?_
            refine lv_ior hx hb dX6_fill_98 ?_
            refine k_topi (y := nI (sm ||| ug)) (mm_or sm ug) ?_
            refine lv_istore (lv' := [(10, .int (nI (sm ||| ug))), (0, .ref o6), (1, .int (nI d9)), (2, .int (nI wd)), (3, .int (nI (mDif (2 ^ n6 - 1) d9))), (4, .int (nI (w6 - wd))), (5, .int (nI rd)), (6, .int (nI ug)), (7, .int (nI (mDif rd ug))), (8, .int (nI sm)), (9, .int (nI tn))]) hx hb dX6_fill_99 hl (Nat.le_of_ble_eq_true rfl) rfl (fun ls hl => ?_)
            refine lv_iload hx hb dX6_fill_101 (lv_at hl 0 rfl) ?_
            refine lv_if_eq (tgt := 142) hx hb dX6_fill_103 rfl (fun c_9 => ?_) (fun c_9 => ?_)
            · skip
              have i_9 : (sm ||| ug) = 0 := (nI_eq (a := (sm ||| ug)) (b := 0) (by omega) (by omega)).mp c_9
              have hZN : ¬ (mLW q d9 (sm ||| ug) ∧ mCF q k1 (d9 ||| (sm ||| ug))) := fun z => z.1.1 i_9
              have hFS := FI_step (Z := fun t => mLW q d9 (t ||| ug) ∧ mCF q k1 (d9 ||| (t ||| ug))) hs1 (by omega) hs4 hZN
              refine lv_iload hx hb dX6_fill_142 (lv_at hl 9 rfl) ?_
              refine lv_iload hx hb dX6_fill_144 (lv_at hl 8 rfl) ?_
              refine lv_isub hx hb dX6_fill_146 ?_
              refine lv_iload hx hb dX6_fill_147 (lv_at hl 8 rfl) ?_
              refine lv_iand hx hb dX6_fill_149 ?_
              refine k_topi (y := nI (mNx sm (mDif rd ug))) (mm_nx (by omega) (by omega)) ?_
              refine lv_istore (lv' := [(8, .int (nI (mNx sm (mDif rd ug)))), (10, .int (nI (sm ||| ug))), (0, .ref o6), (1, .int (nI d9)), (2, .int (nI wd)), (3, .int (nI (mDif (2 ^ n6 - 1) d9))), (4, .int (nI (w6 - wd))), (5, .int (nI rd)), (6, .int (nI ug)), (7, .int (nI (mDif rd ug))), (9, .int (nI tn))]) hx hb dX6_fill_150 hl (Nat.le_of_ble_eq_true rfl) rfl (fun ls hl => ?_)
              refine lv_iload hx hb dX6_fill_152 (lv_at hl 0 rfl) ?_
              refine lv_if_ne (tgt := 160) hx hb dX6_fill_154 rfl (fun c_10 => ?_) (fun c_10 => ?_)
              · skip
                have i_10 : ¬ (mNx sm (mDif rd ug)) = 0 := fun h9 => c_10 ((nI_eq (a := (mNx sm (mDif rd ug))) (b := 0) (by omega) (by omega)).mpr h9)
                have hF2 := hFS.2 i_10
                refine lv_iinc (v := nI (tn + 1)) (lv' := [(9, .int (nI (tn + 1))), (8, .int (nI (mNx sm (mDif rd ug)))), (10, .int (nI (sm ||| ug))), (0, .ref o6), (1, .int (nI d9)), (2, .int (nI wd)), (3, .int (nI (mDif (2 ^ n6 - 1) d9))), (4, .int (nI (w6 - wd))), (5, .int (nI rd)), (6, .int (nI ug)), (7, .int (nI (mDif rd ug)))]) hx hb dX6_fill_160 hl (k := 10) rfl (nI_1 tn) (by decide) rfl (fun ls hl => ?_)
                refine lv_goto (tgt := 86) hx hb dX6_fill_163 rfl ?_
                exact ih86 (2048 - mNx sm (mDif rd ug)) ((mNx sm (mDif rd ug)), (tn + 1), cH, tF) _ _ _ (by have := hF2.1; omega) ⟨mNx_sub _ _, (by have := hF2.1; show tn + 1 ≤ mNx sm (mDif rd ug); omega), rfl, hF2.2, hTF⟩ h (lv_sub hl [3, 4, 5, 6, 7, 8, 9, 10, 1, 0] rfl)
              · skip
                have i_10 : (mNx sm (mDif rd ug)) = 0 := (nI_eq (a := (mNx sm (mDif rd ug))) (b := 0) (by omega) (by omega)).mp c_10
                have hF1 := hFS.1 i_10
                refine lv_goto (tgt := 166) hx hb dX6_fill_157 rfl ?_
                refine lv_aload_n hx hb dX6_fill_166 rfl (lv_at hl 2 rfl) ?_
                refine k_get (v := .ref a6_7) E h (fun w h => List.mem_cons_of_mem _ (List.mem_append_right _ h)) 6 rfl rfl 7 (Nat.le_of_ble_eq_true rfl) (List.mem_of_getElem? (i := 3) rfl) rfl dX6_fill_167 ?_
                refine lv_iload_n hx hb dX6_fill_170 rfl (lv_at hl 3 rfl) ?_
                refine lv_iload hx hb dX6_fill_171 (lv_at hl 6 rfl) ?_
                refine lv_i2b (v := (nI (w6 - wd)).toInt8.toInt32) hx hb dX6_fill_173 rfl ?_
                refine k_topi (y := nI (w6 - wd)) (mm_byte (by omega)) ?_
                refine k_bast (j := d9) (y := nI (w6 - wd)) (ws' := [(a6_0, .inl (c6_0, 10, .inl (fun j => nI (cH j)))), (a6_7, .inl (c6_7, 1024, .inl (upd (fun j => nI (tF j)) d9 (nI (w6 - wd))))), (a6_5, .inl (c6_5, 5, .inl (fun j => nI (eP j)))), (a6_6, .inl (c6_6, 5, .inl (fun j => nI (eR j)))), (a6_2, .inl (c6_2, 10, .inl (fun j => nI (eE j)))), (a6_3, .inl (c6_3, 10, .inl (fun j => nI (eB j)))), (o6, .inr (6, [.ref a6_0, .ref o5, .ref a6_2, .ref a6_3, .ref a6_4, .ref a6_5, .ref a6_6, .ref a6_7, .int (nI n6), .int (nI w6)])), (a6_4, .inl (c6_4, 10, .inl (fun j => nI (eW j))))]) E h 1 6 rfl rfl (vp_in_nI (by omega) (by omega)) (nI_clamp (by omega)) (mm_nar (by omega)) rfl dX6_fill_174 (fun H locs h => ?_)
                have h : KS (dC, dI) A [(a6_0, .inl (c6_0, 10, .inl (fun j => nI (cH j)))), (a6_7, .inl (c6_7, 1024, .inl (fun j => nI ((mUpd tF d9 (w6 - wd)) j)))), (a6_5, .inl (c6_5, 5, .inl (fun j => nI (eP j)))), (a6_6, .inl (c6_6, 5, .inl (fun j => nI (eR j)))), (a6_2, .inl (c6_2, 10, .inl (fun j => nI (eE j)))), (a6_3, .inl (c6_3, 10, .inl (fun j => nI (eB j)))), (o6, .inr (6, [.ref a6_0, .ref o5, .ref a6_2, .ref a6_3, .ref a6_4, .ref a6_5, .ref a6_6, .ref a6_7, .int (nI n6), .int (nI w6)])), (a6_4, .inl (c6_4, 10, .inl (fun j => nI (eW j))))] [(c6_0, .int), (c6_2, .int), (c6_3, .int), (c6_4, .int), (c6_5, .int), (c6_6, .int), (c6_7, .byte)] s _ _ := k_cong 1 h rfl (fun j _ => mm_upd (X := tF) (k := d9) (v := (w6 - wd)) j) rfl
                refine lv_iconst (v := 0) hx hb dX6_fill_175 kic_0 ?_
                have hP9 := h.2.1.sub [6, 0, 4, 5, 7, 2, 3, 1] rfl
                have hD9 := h.2.2.1.sub (ws' := [(o6, .inr (6, [.ref a6_0, .ref o5, .ref a6_2, .ref a6_3, .ref a6_4, .ref a6_5, .ref a6_6, .ref a6_7, .int (nI n6), .int (nI w6)])), (a6_0, .inl (c6_0, 10, .inl (fun j => nI (cH j)))), (a6_2, .inl (c6_2, 10, .inl (fun j => nI (eE j)))), (a6_3, .inl (c6_3, 10, .inl (fun j => nI (eB j)))), (a6_4, .inl (c6_4, 10, .inl (fun j => nI (eW j)))), (a6_5, .inl (c6_5, 5, .inl (fun j => nI (eP j)))), (a6_6, .inl (c6_6, 5, .inl (fun j => nI (eR j)))), (a6_7, .inl (c6_7, 1024, .inl (fun j => nI ((mUpd tF d9 (w6 - wd)) j))))]) [6, 0, 4, 5, 7, 2, 3, 1] (by decide +kernel) rfl
                exact W.zret (v := 0) hx hb hr (by decide) (fun t ht hW => ⟨⟨0, (cH, (mUpd tF d9 (w6 - wd))), rfl, (by have hNO : ¬ mCF q (w6 - wd) d9 := (by rw [hk1]; exact FI_no (WL_WB hW1) hcl hRD hUG1 hdf hF1); exact ⟨Or.inr ⟨rfl, hNO⟩, TF_upd hTF (by omega) hNO⟩), (by rw [ht]; exact hP9), hD9⟩, h.2.2.2.1.F ht⟩) h.2.2.2.1.2.2 dX6_fill_176 hlocks
            · skip
              have i_9 : ¬ (sm ||| ug) = 0 := fun h9 => c_9 ((nI_eq (a := (sm ||| ug)) (b := 0) (by omega) (by omega)).mpr h9)
              refine lv_aload_n hx hb dX6_fill_106 rfl (lv_at hl 1 rfl) ?_
              refine lv_iload hx hb dX6_fill_107 (lv_at hl 0 rfl) ?_
              refine lv_iload hx hb dX6_fill_109 (lv_at hl 6 rfl) ?_
              refine lv_iload_n hx hb dX6_fill_111 rfl (lv_at hl 2 rfl) ?_
              refine kc_i (wc := [(o6, .inr (6, [.ref a6_0, .ref o5, .ref a6_2, .ref a6_3, .ref a6_4, .ref a6_5, .ref a6_6, .ref a6_7, .int (nI n6), .int (nI w6)])), (a6_5, .inl (c6_5, 5, .inl (fun j => nI (eP j)))), (a6_6, .inl (c6_6, 5, .inl (fun j => nI (eR j)))), (a6_3, .inl (c6_3, 10, .inl (fun j => nI (eB j))))]) (wr := [(a6_0, .inl (c6_0, 10, .inl (fun j => nI (cH j)))), (a6_7, .inl (c6_7, 1024, .inl (fun j => nI (tF j)))), (a6_2, .inl (c6_2, 10, .inl (fun j => nI (eE j)))), (a6_4, .inl (c6_4, 10, .inl (fun j => nI (eW j))))]) h (va_runV (As := [.int (nI (sm ||| ug)), .int (nI rd), .int (nI d9)]) (rest := []) E (c_X6_canMeet l dC dI _ (o6 := o6) (a6_0 := a6_0) (o5 := o5) (a6_2 := a6_2) (a6_3 := a6_3) (a6_4 := a6_4) (a6_5 := a6_5) (a6_6 := a6_6) (a6_7 := a6_7) (v6_9 := (nI w6)) (c6_5 := c6_5) (c6_6 := c6_6) (c6_3 := c6_3) (q := q) (n6 := n6) (eP := eP) (eR := eR) (eB := eB) (ac := (sm ||| ug)) (rd := rd) (d9 := d9) (hq := hq) (hP := hP) (hR := hR) (hB := hB) (hac := (by omega)) (hrd := hrdl) (hd := (by omega))) (cwV 3 E.2.2.2.2 gX6_fill_X6_canMeet rfl rfl rfl hdV_X6_canMeet ⟨by first | omega | (dsimp only; omega), by first | omega | (dsimp only; omega)⟩) (kPreV (q0 := 6) (ci := 6) (q := (RX6, TX6, 10)) h KAll.blind (KAll.call hX h [6, 2, 3, 5] rfl) [6, 2, 3, 5] [4, 5, 2] (by decide) rfl rfl rfl rfl) rfl rfl hl.1 rfl (lv_room (Nat.le_of_ble_eq_true rfl)) dX6_fill_112 ⟨by first | omega | (dsimp only; omega), by first | omega | (dsimp only; omega)⟩) [6, 2, 3, 5] [0, 1, 4, 7] rfl rfl (by decide) (by decide) (fun r_11 u_11 H locs hw_11 h => ?_)
              have h : KS (dC, dI) A [(a6_0, .inl (c6_0, 10, .inl (fun j => nI (cH j)))), (a6_7, .inl (c6_7, 1024, .inl (fun j => nI (tF j)))), (a6_2, .inl (c6_2, 10, .inl (fun j => nI (eE j)))), (a6_4, .inl (c6_4, 10, .inl (fun j => nI (eW j)))), (o6, .inr (6, [.ref a6_0, .ref o5, .ref a6_2, .ref a6_3, .ref a6_4, .ref a6_5, .ref a6_6, .ref a6_7, .int (nI n6), .int (nI w6)])), (a6_5, .inl (c6_5, 5, .inl (fun j => nI (eP j)))), (a6_6, .inl (c6_6, 5, .inl (fun j => nI (eR j)))), (a6_3, .inl (c6_3, 10, .inl (fun j => nI (eB j))))] [(c6_0, .int), (c6_2, .int), (c6_3, .int), (c6_4, .int), (c6_5, .int), (c6_6, .int), (c6_7, .byte)] s H locs := h
              have hw_11 : (r_11 = 1 ∧ CMq q d9 rd (sm ||| ug)) ∨ (r_11 = 0 ∧ ¬ CMq q d9 rd (sm ||| ug)) := by first | exact hw_11 | (simp only [Int32.toInt_toInt64] at hw_11; exact hw_11)
              have hCM := hw_11
              refine W.eq (g2 := F0 m 115 ls [.int r_11]) rfl ?_
              refine lv_if_eq (tgt := 142) hx hb dX6_fill_115 rfl (fun c_12 => ?_) (fun c_12 => ?_)
              · skip
                have i_12 : r_11.toInt = 0 := (fa_eq _ _).mp c_12
                have hZN : ¬ (mLW q d9 (sm ||| ug) ∧ mCF q k1 (d9 ||| (sm ||| ug))) := fun z => by rcases hCM with c | c; (rw [c_12] at c; exact absurd c.1 (by decide)); exact c.2 ((CM_LW hRD).mp z.1).2
                have hFS := FI_step (Z := fun t => mLW q d9 (t ||| ug) ∧ mCF q k1 (d9 ||| (t ||| ug))) hs1 (by omega) hs4 hZN
                refine lv_iload hx hb dX6_fill_142 (lv_at hl 9 rfl) ?_
                refine lv_iload hx hb dX6_fill_144 (lv_at hl 8 rfl) ?_
                refine lv_isub hx hb dX6_fill_146 ?_
                refine lv_iload hx hb dX6_fill_147 (lv_at hl 8 rfl) ?_
                refine lv_iand hx hb dX6_fill_149 ?_
                refine k_topi (y := nI (mNx sm (mDif rd ug))) (mm_nx (by omega) (by omega)) ?_
                refine lv_istore (lv' := [(8, .int (nI (mNx sm (mDif rd ug)))), (10, .int (nI (sm ||| ug))), (0, .ref o6), (1, .int (nI d9)), (2, .int (nI wd)), (3, .int (nI (mDif (2 ^ n6 - 1) d9))), (4, .int (nI (w6 - wd))), (5, .int (nI rd)), (6, .int (nI ug)), (7, .int (nI (mDif rd ug))), (9, .int (nI tn))]) hx hb dX6_fill_150 hl (Nat.le_of_ble_eq_true rfl) rfl (fun ls hl => ?_)
                refine lv_iload hx hb dX6_fill_152 (lv_at hl 0 rfl) ?_
                refine lv_if_ne (tgt := 160) hx hb dX6_fill_154 rfl (fun c_13 => ?_) (fun c_13 => ?_)
                · skip
                  have i_13 : ¬ (mNx sm (mDif rd ug)) = 0 := fun h9 => c_13 ((nI_eq (a := (mNx sm (mDif rd ug))) (b := 0) (by omega) (by omega)).mpr h9)
                  have hF2 := hFS.2 i_13
                  refine lv_iinc (v := nI (tn + 1)) (lv' := [(9, .int (nI (tn + 1))), (8, .int (nI (mNx sm (mDif rd ug)))), (10, .int (nI (sm ||| ug))), (0, .ref o6), (1, .int (nI d9)), (2, .int (nI wd)), (3, .int (nI (mDif (2 ^ n6 - 1) d9))), (4, .int (nI (w6 - wd))), (5, .int (nI rd)), (6, .int (nI ug)), (7, .int (nI (mDif rd ug)))]) hx hb dX6_fill_160 hl (k := 10) rfl (nI_1 tn) (by decide) rfl (fun ls hl => ?_)
                  refine lv_goto (tgt := 86) hx hb dX6_fill_163 rfl ?_
                  exact ih86 (2048 - mNx sm (mDif rd ug)) ((mNx sm (mDif rd ug)), (tn + 1), cH, tF) _ _ _ (by have := hF2.1; omega) ⟨mNx_sub _ _, (by have := hF2.1; show tn + 1 ≤ mNx sm (mDif rd ug); omega), rfl, hF2.2, hTF⟩ (k_perm h [0, 1, 5, 6, 2, 7, 4, 3] (by decide +kernel) rfl rfl) (lv_sub hl [3, 4, 5, 6, 7, 8, 9, 10, 1, 0] rfl)
                · skip
                  have i_13 : (mNx sm (mDif rd ug)) = 0 := (nI_eq (a := (mNx sm (mDif rd ug))) (b := 0) (by omega) (by omega)).mp c_13
                  have hF1 := hFS.1 i_13
                  refine lv_goto (tgt := 166) hx hb dX6_fill_157 rfl ?_
                  refine lv_aload_n hx hb dX6_fill_166 rfl (lv_at hl 2 rfl) ?_
                  refine k_get (v := .ref a6_7) E h (fun w h => List.mem_cons_of_mem _ (List.mem_append_right _ h)) 4 rfl rfl 7 (Nat.le_of_ble_eq_true rfl) (List.mem_of_getElem? (i := 3) rfl) rfl dX6_fill_167 ?_
                  refine lv_iload_n hx hb dX6_fill_170 rfl (lv_at hl 3 rfl) ?_
                  refine lv_iload hx hb dX6_fill_171 (lv_at hl 6 rfl) ?_
                  refine lv_i2b (v := (nI (w6 - wd)).toInt8.toInt32) hx hb dX6_fill_173 rfl ?_
                  refine k_topi (y := nI (w6 - wd)) (mm_byte (by omega)) ?_
                  refine k_bast (j := d9) (y := nI (w6 - wd)) (ws' := [(a6_0, .inl (c6_0, 10, .inl (fun j => nI (cH j)))), (a6_7, .inl (c6_7, 1024, .inl (upd (fun j => nI (tF j)) d9 (nI (w6 - wd))))), (a6_2, .inl (c6_2, 10, .inl (fun j => nI (eE j)))), (a6_4, .inl (c6_4, 10, .inl (fun j => nI (eW j)))), (o6, .inr (6, [.ref a6_0, .ref o5, .ref a6_2, .ref a6_3, .ref a6_4, .ref a6_5, .ref a6_6, .ref a6_7, .int (nI n6), .int (nI w6)])), (a6_5, .inl (c6_5, 5, .inl (fun j => nI (eP j)))), (a6_6, .inl (c6_6, 5, .inl (fun j => nI (eR j)))), (a6_3, .inl (c6_3, 10, .inl (fun j => nI (eB j))))]) E h 1 6 rfl rfl (vp_in_nI (by omega) (by omega)) (nI_clamp (by omega)) (mm_nar (by omega)) rfl dX6_fill_174 (fun H locs h => ?_)
                  have h : KS (dC, dI) A [(a6_0, .inl (c6_0, 10, .inl (fun j => nI (cH j)))), (a6_7, .inl (c6_7, 1024, .inl (fun j => nI ((mUpd tF d9 (w6 - wd)) j)))), (a6_2, .inl (c6_2, 10, .inl (fun j => nI (eE j)))), (a6_4, .inl (c6_4, 10, .inl (fun j => nI (eW j)))), (o6, .inr (6, [.ref a6_0, .ref o5, .ref a6_2, .ref a6_3, .ref a6_4, .ref a6_5, .ref a6_6, .ref a6_7, .int (nI n6), .int (nI w6)])), (a6_5, .inl (c6_5, 5, .inl (fun j => nI (eP j)))), (a6_6, .inl (c6_6, 5, .inl (fun j => nI (eR j)))), (a6_3, .inl (c6_3, 10, .inl (fun j => nI (eB j))))] [(c6_0, .int), (c6_2, .int), (c6_3, .int), (c6_4, .int), (c6_5, .int), (c6_6, .int), (c6_7, .byte)] s _ _ := k_cong 1 h rfl (fun j _ => mm_upd (X := tF) (k := d9) (v := (w6 - wd)) j) rfl
                  refine lv_iconst (v := 0) hx hb dX6_fill_175 kic_0 ?_
                  have hP9 := h.2.1.sub [4, 0, 2, 7, 3, 5, 6, 1] rfl
                  have hD9 := h.2.2.1.sub (ws' := [(o6, .inr (6, [.ref a6_0, .ref o5, .ref a6_2, .ref a6_3, .ref a6_4, .ref a6_5, .ref a6_6, .ref a6_7, .int (nI n6), .int (nI w6)])), (a6_0, .inl (c6_0, 10, .inl (fun j => nI (cH j)))), (a6_2, .inl (c6_2, 10, .inl (fun j => nI (eE j)))), (a6_3, .inl (c6_3, 10, .inl (fun j => nI (eB j)))), (a6_4, .inl (c6_4, 10, .inl (fun j => nI (eW j)))), (a6_5, .inl (c6_5, 5, .inl (fun j => nI (eP j)))), (a6_6, .inl (c6_6, 5, .inl (fun j => nI (eR j)))), (a6_7, .inl (c6_7, 1024, .inl (fun j => nI ((mUpd tF d9 (w6 - wd)) j))))]) [4, 0, 2, 7, 3, 5, 6, 1] (by decide +kernel) rfl
                  exact W.zret (v := 0) hx hb hr (by decide) (fun t ht hW => ⟨⟨0, (cH, (mUpd tF d9 (w6 - wd))), rfl, (by have hNO : ¬ mCF q (w6 - wd) d9 := (by rw [hk1]; exact FI_no (WL_WB hW1) hcl hRD hUG1 hdf hF1); exact ⟨Or.inr ⟨rfl, hNO⟩, TF_upd hTF (by omega) hNO⟩), (by rw [ht]; exact hP9), hD9⟩, h.2.2.2.1.F ht⟩) h.2.2.2.1.2.2 dX6_fill_176 hlocks
              · skip
                have i_12 : ¬ r_11.toInt = 0 := fun h9 => c_12 ((fa_eq _ _).mpr h9)
                have hLW : mLW q d9 (sm ||| ug) := (CM_LW hRD).mpr ⟨by assumption, by rcases hCM with c | c; (exact c.2); exact absurd c.1 c_12⟩
                refine lv_aload_n hx hb dX6_fill_118 rfl (lv_at hl 1 rfl) ?_
                refine lv_iload_n hx hb dX6_fill_119 rfl (lv_at hl 2 rfl) ?_
                refine lv_iload hx hb dX6_fill_120 (lv_at hl 0 rfl) ?_
                refine lv_ior hx hb dX6_fill_122 ?_
                refine k_topi (y := nI (d9 ||| (sm ||| ug))) (mm_or d9 (sm ||| ug)) ?_
                refine lv_iload_n hx hb dX6_fill_123 rfl (lv_at hl 3 rfl) ?_
                refine lv_iconst (v := 1) hx hb dX6_fill_124 kic_1 ?_
                refine lv_iadd hx hb dX6_fill_125 ?_
                refine k_topi (y := nI (wd + 1)) (nI_add wd 1) ?_
                refine kc_i (wc := [(o6, .inr (6, [.ref a6_0, .ref o5, .ref a6_2, .ref a6_3, .ref a6_4, .ref a6_5, .ref a6_6, .ref a6_7, .int (nI n6), .int (nI w6)])), (a6_0, .inl (c6_0, 10, .inl (fun j => nI (cH j)))), (a6_2, .inl (c6_2, 10, .inl (fun j => nI (eE j)))), (a6_3, .inl (c6_3, 10, .inl (fun j => nI (eB j)))), (a6_4, .inl (c6_4, 10, .inl (fun j => nI (eW j)))), (a6_5, .inl (c6_5, 5, .inl (fun j => nI (eP j)))), (a6_6, .inl (c6_6, 5, .inl (fun j => nI (eR j)))), (a6_7, .inl (c6_7, 1024, .inl (fun j => nI (tF j))))]) (wr := []) h (va_runS (As := [.ref o6, .int (nI (d9 ||| (sm ||| ug))), .int (nI (wd + 1))]) (rest := []) E (ih _ (o6 := o6) (a6_0 := a6_0) (o5 := o5) (a6_2 := a6_2) (a6_3 := a6_3) (a6_4 := a6_4) (a6_5 := a6_5) (a6_6 := a6_6) (a6_7 := a6_7) (c6_0 := c6_0) (c6_2 := c6_2) (c6_3 := c6_3) (c6_4 := c6_4) (c6_5 := c6_5) (c6_6 := c6_6) (c6_7 := c6_7) (q := q) (n6 := n6) (w6 := w6) (cH := cH) (eE := eE) (eB := eB) (eW := eW) (eP := eP) (eR := eR) (tF := tF) (d9 := (d9 ||| (sm ||| ug))) (wd := (wd + 1)) (hq := hq) (hE := hE) (hB := hB) (hW := hW) (hP := hP) (hR := hR) (hd := hdal) (hcl := (mCl_or hcl hLW)) (hw6 := hw6) (hwd := (by omega)) (hTF := hTF) (hk := (by omega))) (va_cwS 3 E.2.2.2.2 gX6_fill_X6_fill rfl rfl rfl hdS_X6_fill ⟨by first | omega | (dsimp only; omega), by first | omega | (dsimp only; omega)⟩) (kPreS h KAll.blind (KAll.call hX h [4, 0, 2, 7, 3, 5, 6, 1] rfl) [4, 0, 2, 7, 3, 5, 6, 1] [0, 1, 2, 3, 4, 5, 6] (by decide) rfl rfl) rfl rfl hl.1 rfl (lv_room (Nat.le_of_ble_eq_true rfl)) dX6_fill_126 ⟨by first | omega | (dsimp only; omega), by first | omega | (dsimp only; omega)⟩) [4, 0, 2, 7, 3, 5, 6, 1] [] rfl rfl (by decide) (by decide) (fun r_14 u_14 H locs hw_14 h => ?_)
                obtain ⟨z_15, z_16⟩ := u_14
                have h : KS (dC, dI) A [(o6, .inr (6, [.ref a6_0, .ref o5, .ref a6_2, .ref a6_3, .ref a6_4, .ref a6_5, .ref a6_6, .ref a6_7, .int (nI n6), .int (nI w6)])), (a6_0, .inl (c6_0, 10, .inl (fun j => nI (z_15 j)))), (a6_2, .inl (c6_2, 10, .inl (fun j => nI (eE j)))), (a6_3, .inl (c6_3, 10, .inl (fun j => nI (eB j)))), (a6_4, .inl (c6_4, 10, .inl (fun j => nI (eW j)))), (a6_5, .inl (c6_5, 5, .inl (fun j => nI (eP j)))), (a6_6, .inl (c6_6, 5, .inl (fun j => nI (eR j)))), (a6_7, .inl (c6_7, 1024, .inl (fun j => nI (z_16 j))))] [(c6_0, .int), (c6_2, .int), (c6_3, .int), (c6_4, .int), (c6_5, .int), (c6_6, .int), (c6_7, .byte)] s H locs := h
                have hw_14 : FPost q r_14 (w6 - (wd + 1)) (d9 ||| (sm ||| ug)) (wd + 1) z_15 ∧ TF q z_16 := by first | exact hw_14 | (simp only [Int32.toInt_toInt64] at hw_14; exact hw_14)
                have hFP := hw_14.1
                rw [show w6 - (wd + 1) = k1 by omega] at hFP
                have hTF := hw_14.2
                refine W.eq (g2 := F0 m 129 ls [.int r_14]) rfl ?_
                refine lv_if_eq (tgt := 142) hx hb dX6_fill_129 rfl (fun c_17 => ?_) (fun c_17 => ?_)
                · skip
                  have i_17 : r_14.toInt = 0 := (fa_eq _ _).mp c_17
                  have hZN : ¬ (mLW q d9 (sm ||| ug) ∧ mCF q k1 (d9 ||| (sm ||| ug))) := fun z => FP_0 hFP c_17 z.2
                  have hFS := FI_step (Z := fun t => mLW q d9 (t ||| ug) ∧ mCF q k1 (d9 ||| (t ||| ug))) hs1 (by omega) hs4 hZN
                  refine lv_iload hx hb dX6_fill_142 (lv_at hl 9 rfl) ?_
                  refine lv_iload hx hb dX6_fill_144 (lv_at hl 8 rfl) ?_
                  refine lv_isub hx hb dX6_fill_146 ?_
                  refine lv_iload hx hb dX6_fill_147 (lv_at hl 8 rfl) ?_
                  refine lv_iand hx hb dX6_fill_149 ?_
                  refine k_topi (y := nI (mNx sm (mDif rd ug))) (mm_nx (by omega) (by omega)) ?_
                  refine lv_istore (lv' := [(8, .int (nI (mNx sm (mDif rd ug)))), (10, .int (nI (sm ||| ug))), (0, .ref o6), (1, .int (nI d9)), (2, .int (nI wd)), (3, .int (nI (mDif (2 ^ n6 - 1) d9))), (4, .int (nI (w6 - wd))), (5, .int (nI rd)), (6, .int (nI ug)), (7, .int (nI (mDif rd ug))), (9, .int (nI tn))]) hx hb dX6_fill_150 hl (Nat.le_of_ble_eq_true rfl) rfl (fun ls hl => ?_)
                  refine lv_iload hx hb dX6_fill_152 (lv_at hl 0 rfl) ?_
                  refine lv_if_ne (tgt := 160) hx hb dX6_fill_154 rfl (fun c_18 => ?_) (fun c_18 => ?_)
                  · skip
                    have i_18 : ¬ (mNx sm (mDif rd ug)) = 0 := fun h9 => c_18 ((nI_eq (a := (mNx sm (mDif rd ug))) (b := 0) (by omega) (by omega)).mpr h9)
                    have hF2 := hFS.2 i_18
                    refine lv_iinc (v := nI (tn + 1)) (lv' := [(9, .int (nI (tn + 1))), (8, .int (nI (mNx sm (mDif rd ug)))), (10, .int (nI (sm ||| ug))), (0, .ref o6), (1, .int (nI d9)), (2, .int (nI wd)), (3, .int (nI (mDif (2 ^ n6 - 1) d9))), (4, .int (nI (w6 - wd))), (5, .int (nI rd)), (6, .int (nI ug)), (7, .int (nI (mDif rd ug)))]) hx hb dX6_fill_160 hl (k := 10) rfl (nI_1 tn) (by decide) rfl (fun ls hl => ?_)
                    refine lv_goto (tgt := 86) hx hb dX6_fill_163 rfl ?_
                    exact ih86 (2048 - mNx sm (mDif rd ug)) ((mNx sm (mDif rd ug)), (tn + 1), z_15, z_16) _ _ _ (by have := hF2.1; omega) ⟨mNx_sub _ _, (by have := hF2.1; show tn + 1 ≤ mNx sm (mDif rd ug); omega), rfl, hF2.2, hTF⟩ (k_perm h [1, 7, 5, 6, 2, 3, 0, 4] (by decide +kernel) rfl rfl) (lv_sub hl [3, 4, 5, 6, 7, 8, 9, 10, 1, 0] rfl)
                  · skip
                    have i_18 : (mNx sm (mDif rd ug)) = 0 := (nI_eq (a := (mNx sm (mDif rd ug))) (b := 0) (by omega) (by omega)).mp c_18
                    have hF1 := hFS.1 i_18
                    refine lv_goto (tgt := 166) hx hb dX6_fill_157 rfl ?_
                    refine lv_aload_n hx hb dX6_fill_166 rfl (lv_at hl 2 rfl) ?_
                    refine k_get (v := .ref a6_7) E h (fun w h => List.mem_cons_of_mem _ (List.mem_append_right _ h)) 0 rfl rfl 7 (Nat.le_of_ble_eq_true rfl) (List.mem_of_getElem? (i := 3) rfl) rfl dX6_fill_167 ?_
                    refine lv_iload_n hx hb dX6_fill_170 rfl (lv_at hl 3 rfl) ?_
                    refine lv_iload hx hb dX6_fill_171 (lv_at hl 6 rfl) ?_
                    refine lv_i2b (v := (nI (w6 - wd)).toInt8.toInt32) hx hb dX6_fill_173 rfl ?_
                    refine k_topi (y := nI (w6 - wd)) (mm_byte (by omega)) ?_
                    refine k_bast (j := d9) (y := nI (w6 - wd)) (ws' := [(o6, .inr (6, [.ref a6_0, .ref o5, .ref a6_2, .ref a6_3, .ref a6_4, .ref a6_5, .ref a6_6, .ref a6_7, .int (nI n6), .int (nI w6)])), (a6_0, .inl (c6_0, 10, .inl (fun j => nI (z_15 j)))), (a6_2, .inl (c6_2, 10, .inl (fun j => nI (eE j)))), (a6_3, .inl (c6_3, 10, .inl (fun j => nI (eB j)))), (a6_4, .inl (c6_4, 10, .inl (fun j => nI (eW j)))), (a6_5, .inl (c6_5, 5, .inl (fun j => nI (eP j)))), (a6_6, .inl (c6_6, 5, .inl (fun j => nI (eR j)))), (a6_7, .inl (c6_7, 1024, .inl (upd (fun j => nI (z_16 j)) d9 (nI (w6 - wd)))))]) E h 7 6 rfl rfl (vp_in_nI (by omega) (by omega)) (nI_clamp (by omega)) (mm_nar (by omega)) rfl dX6_fill_174 (fun H locs h => ?_)
                    have h : KS (dC, dI) A [(o6, .inr (6, [.ref a6_0, .ref o5, .ref a6_2, .ref a6_3, .ref a6_4, .ref a6_5, .ref a6_6, .ref a6_7, .int (nI n6), .int (nI w6)])), (a6_0, .inl (c6_0, 10, .inl (fun j => nI (z_15 j)))), (a6_2, .inl (c6_2, 10, .inl (fun j => nI (eE j)))), (a6_3, .inl (c6_3, 10, .inl (fun j => nI (eB j)))), (a6_4, .inl (c6_4, 10, .inl (fun j => nI (eW j)))), (a6_5, .inl (c6_5, 5, .inl (fun j => nI (eP j)))), (a6_6, .inl (c6_6, 5, .inl (fun j => nI (eR j)))), (a6_7, .inl (c6_7, 1024, .inl (fun j => nI ((mUpd z_16 d9 (w6 - wd)) j))))] [(c6_0, .int), (c6_2, .int), (c6_3, .int), (c6_4, .int), (c6_5, .int), (c6_6, .int), (c6_7, .byte)] s _ _ := k_cong 7 h rfl (fun j _ => mm_upd (X := z_16) (k := d9) (v := (w6 - wd)) j) rfl
                    refine lv_iconst (v := 0) hx hb dX6_fill_175 kic_0 ?_
                    have hP9 := h.2.1.sub [0, 1, 2, 3, 4, 5, 6, 7] rfl
                    have hD9 := h.2.2.1.sub (ws' := [(o6, .inr (6, [.ref a6_0, .ref o5, .ref a6_2, .ref a6_3, .ref a6_4, .ref a6_5, .ref a6_6, .ref a6_7, .int (nI n6), .int (nI w6)])), (a6_0, .inl (c6_0, 10, .inl (fun j => nI (z_15 j)))), (a6_2, .inl (c6_2, 10, .inl (fun j => nI (eE j)))), (a6_3, .inl (c6_3, 10, .inl (fun j => nI (eB j)))), (a6_4, .inl (c6_4, 10, .inl (fun j => nI (eW j)))), (a6_5, .inl (c6_5, 5, .inl (fun j => nI (eP j)))), (a6_6, .inl (c6_6, 5, .inl (fun j => nI (eR j)))), (a6_7, .inl (c6_7, 1024, .inl (fun j => nI ((mUpd z_16 d9 (w6 - wd)) j))))]) [0, 1, 2, 3, 4, 5, 6, 7] (by decide +kernel) rfl
                    exact W.zret (v := 0) hx hb hr (by decide) (fun t ht hW => ⟨⟨0, (z_15, (mUpd z_16 d9 (w6 - wd))), rfl, (by have hNO : ¬ mCF q (w6 - wd) d9 := (by rw [hk1]; exact FI_no (WL_WB hW1) hcl hRD hUG1 hdf hF1); exact ⟨Or.inr ⟨rfl, hNO⟩, TF_upd hTF (by omega) hNO⟩), (by rw [ht]; exact hP9), hD9⟩, h.2.2.2.1.F ht⟩) h.2.2.2.1.2.2 dX6_fill_176 hlocks
                · skip
                  have i_17 : ¬ r_14.toInt = 0 := fun h9 => c_17 ((fa_eq _ _).mpr h9)
                  have hYES := FP_1 hFP c_17
                  refine lv_aload_n hx hb dX6_fill_132 rfl (lv_at hl 1 rfl) ?_
                  refine k_get (v := .ref a6_0) E h (fun w h => List.mem_cons_of_mem _ (List.mem_append_right _ h)) 0 rfl rfl 0 (Nat.le_of_ble_eq_true rfl) (List.mem_of_getElem? (i := 4) rfl) rfl dX6_fill_133 ?_
                  refine lv_iload_n hx hb dX6_fill_136 rfl (lv_at hl 3 rfl) ?_
                  refine lv_iload hx hb dX6_fill_137 (lv_at hl 0 rfl) ?_
                  refine k_iast (j := wd) (ws' := [(o6, .inr (6, [.ref a6_0, .ref o5, .ref a6_2, .ref a6_3, .ref a6_4, .ref a6_5, .ref a6_6, .ref a6_7, .int (nI n6), .int (nI w6)])), (a6_0, .inl (c6_0, 10, .inl (upd (fun j => nI (z_15 j)) wd (nI (sm ||| ug))))), (a6_2, .inl (c6_2, 10, .inl (fun j => nI (eE j)))), (a6_3, .inl (c6_3, 10, .inl (fun j => nI (eB j)))), (a6_4, .inl (c6_4, 10, .inl (fun j => nI (eW j)))), (a6_5, .inl (c6_5, 5, .inl (fun j => nI (eP j)))), (a6_6, .inl (c6_6, 5, .inl (fun j => nI (eR j)))), (a6_7, .inl (c6_7, 1024, .inl (fun j => nI (z_16 j))))]) E h 1 0 rfl rfl (vp_in_nI (by omega) (by omega)) (nI_clamp (by omega)) rfl dX6_fill_139 (fun H locs h => ?_)
                  have h : KS (dC, dI) A [(o6, .inr (6, [.ref a6_0, .ref o5, .ref a6_2, .ref a6_3, .ref a6_4, .ref a6_5, .ref a6_6, .ref a6_7, .int (nI n6), .int (nI w6)])), (a6_0, .inl (c6_0, 10, .inl (fun j => nI ((mUpd z_15 wd (sm ||| ug)) j)))), (a6_2, .inl (c6_2, 10, .inl (fun j => nI (eE j)))), (a6_3, .inl (c6_3, 10, .inl (fun j => nI (eB j)))), (a6_4, .inl (c6_4, 10, .inl (fun j => nI (eW j)))), (a6_5, .inl (c6_5, 5, .inl (fun j => nI (eP j)))), (a6_6, .inl (c6_6, 5, .inl (fun j => nI (eR j)))), (a6_7, .inl (c6_7, 1024, .inl (fun j => nI (z_16 j))))] [(c6_0, .int), (c6_2, .int), (c6_3, .int), (c6_4, .int), (c6_5, .int), (c6_6, .int), (c6_7, .byte)] s _ _ := k_cong 1 h rfl (fun j _ => mm_upd (X := z_15) (k := wd) (v := (sm ||| ug)) j) rfl
                  refine lv_iconst (v := 1) hx hb dX6_fill_140 kic_1 ?_
                  have hP9 := h.2.1.sub [0, 1, 2, 3, 4, 5, 6, 7] rfl
                  have hD9 := h.2.2.1.sub (ws' := [(o6, .inr (6, [.ref a6_0, .ref o5, .ref a6_2, .ref a6_3, .ref a6_4, .ref a6_5, .ref a6_6, .ref a6_7, .int (nI n6), .int (nI w6)])), (a6_0, .inl (c6_0, 10, .inl (fun j => nI ((mUpd z_15 wd (sm ||| ug)) j)))), (a6_2, .inl (c6_2, 10, .inl (fun j => nI (eE j)))), (a6_3, .inl (c6_3, 10, .inl (fun j => nI (eB j)))), (a6_4, .inl (c6_4, 10, .inl (fun j => nI (eW j)))), (a6_5, .inl (c6_5, 5, .inl (fun j => nI (eP j)))), (a6_6, .inl (c6_6, 5, .inl (fun j => nI (eR j)))), (a6_7, .inl (c6_7, 1024, .inl (fun j => nI (z_16 j))))]) [0, 1, 2, 3, 4, 5, 6, 7] (by decide +kernel) rfl
                  exact W.zret (v := 1) hx hb hr (by decide) (fun t ht hW => ⟨⟨1, ((mUpd z_15 wd (sm ||| ug)), z_16), rfl, ⟨Or.inl ⟨rfl, (by rw [hk1]; exact Or.inr ⟨_, hLW, hYES.1⟩), (by rw [hk1]; exact FP_yes (FI_yes (WL_WB hW1) hcl hRD hUG1 hs1 hs4 hLW hYES.1) hYES.2)⟩, hTF⟩, (by rw [ht]; exact hP9), hD9⟩, h.2.2.2.1.F ht⟩) h.2.2.2.1.2.2 dX6_fill_141 hlocks
        · skip
          have i_5 : ¬ r_4.toInt = 0 := fun h9 => c_5 ((fa_eq _ _).mpr h9)
          have hTM := hTM0.2 c_5
          refine lv_iconst (v := 0) hx hb dX6_fill_53 kic_0 ?_
          have hP9 := h.2.1.sub [4, 0, 1, 2, 7, 5, 6, 3] rfl
          have hD9 := h.2.2.1.sub (ws' := [(o6, .inr (6, [.ref a6_0, .ref o5, .ref a6_2, .ref a6_3, .ref a6_4, .ref a6_5, .ref a6_6, .ref a6_7, .int (nI n6), .int (nI w6)])), (a6_0, .inl (c6_0, 10, .inl (fun j => nI (cH j)))), (a6_2, .inl (c6_2, 10, .inl (fun j => nI (eE j)))), (a6_3, .inl (c6_3, 10, .inl (fun j => nI (eB j)))), (a6_4, .inl (c6_4, 10, .inl (fun j => nI (eW j)))), (a6_5, .inl (c6_5, 5, .inl (fun j => nI (eP j)))), (a6_6, .inl (c6_6, 5, .inl (fun j => nI (eR j)))), (a6_7, .inl (c6_7, 1024, .inl (fun j => nI (tF j))))]) [4, 0, 1, 2, 7, 5, 6, 3] (by decide +kernel) rfl
          exact W.zret (v := 0) hx hb hr (by decide) (fun t ht hW => ⟨⟨0, (cH, tF), rfl, ⟨Or.inr ⟨rfl, (by first | exact mCF_z (by assumption) hdf | exact TF_no hTF (by rw [hq.1]; exact hd) hdf (by assumption) | exact TM_no (WL_WB hW1) hcl (by rw [hq.1]; exact hTM))⟩, hTF⟩, (by rw [ht]; exact hP9), hD9⟩, h.2.2.2.1.F ht⟩) h.2.2.2.1.2.2 dX6_fill_54 hlocks
  · skip
    have i_1 : (mDif (2 ^ n6 - 1) d9) = 0 := (nI_eq (a := (mDif (2 ^ n6 - 1) d9)) (b := 0) (by omega) (by omega)).mp c_1
    have hdF : d9 = 2 ^ q.1 - 1 := by rw [hq.1]; exact (mRest_0 hd).mp i_1
    refine lv_iconst (v := 1) hx hb dX6_fill_17 kic_1 ?_
    have hP9 := h.2.1.sub [0, 1, 2, 3, 4, 5, 6, 7] rfl
    have hD9 := h.2.2.1.sub (ws' := [(o6, .inr (6, [.ref a6_0, .ref o5, .ref a6_2, .ref a6_3, .ref a6_4, .ref a6_5, .ref a6_6, .ref a6_7, .int (nI n6), .int (nI w6)])), (a6_0, .inl (c6_0, 10, .inl (fun j => nI (cH j)))), (a6_2, .inl (c6_2, 10, .inl (fun j => nI (eE j)))), (a6_3, .inl (c6_3, 10, .inl (fun j => nI (eB j)))), (a6_4, .inl (c6_4, 10, .inl (fun j => nI (eW j)))), (a6_5, .inl (c6_5, 5, .inl (fun j => nI (eP j)))), (a6_6, .inl (c6_6, 5, .inl (fun j => nI (eR j)))), (a6_7, .inl (c6_7, 1024, .inl (fun j => nI (tF j))))]) [0, 1, 2, 3, 4, 5, 6, 7] (by decide +kernel) rfl
    exact W.zret (v := 1) hx hb hr (by decide) (fun t ht hW => ⟨⟨1, (cH, tF), rfl, ⟨Or.inl ⟨rfl, by rw [hdF]; exact mCF_full q _, by rw [hdF]; exact mPC_full q _ _ _⟩, hTF⟩, (by rw [ht]; exact hP9), hD9⟩, h.2.2.2.1.F ht⟩) h.2.2.2.1.2.2 dX6_fill_18 hlocks
