theorem kph : ∀ (N n : Nat) (f : Nat → Nat), (∀ i, i < n → f i < N) → (∀ i j, i < n → j < n → f i = f j → i = j) → n ≤ N := by
  intro N
  induction N with
  | zero =>
    intro n f h1 _
    apply Decidable.byContradiction
    intro hn
    exact absurd (h1 0 (by omega)) (Nat.not_lt_zero _)
  | succ N ih =>
    intro n f h1 h2
    by_cases hex : ∃ i, i < n ∧ f i = N
    · obtain ⟨k, hk, ek⟩ := hex
      have z := ih (n - 1) (fun i => if i < k then f i else f (i + 1)) (fun i hi => by
        by_cases c : i < k
        · simp only [c, if_true]
          have a := h1 i (by omega)
          have b : f i ≠ N := fun e => by
            have := h2 i k (by omega) hk (e.trans ek.symm)
            omega
          omega
        · simp only [c, if_false]
          have a := h1 (i + 1) (by omega)
          have b : f (i + 1) ≠ N := fun e => by
            have := h2 (i + 1) k (by omega) hk (e.trans ek.symm)
            omega
          omega) (fun i j hi hj e => by
        by_cases c : i < k
        · by_cases d : j < k
          · simp only [c, d, if_true] at e
            exact h2 i j (by omega) (by omega) e
          · simp only [c, d, if_true, if_false] at e
            have := h2 i (j + 1) (by omega) (by omega) e
            omega
        · by_cases d : j < k
          · simp only [c, d, if_true, if_false] at e
            have := h2 (i + 1) j (by omega) (by omega) e
            omega
          · simp only [c, d, if_false] at e
            have := h2 (i + 1) (j + 1) (by omega) (by omega) e
            omega)
      omega
    · have z := ih n f (fun i hi => by
        have a := h1 i hi
        have b : f i ≠ N := fun e => hex ⟨i, hi, e⟩
        omega) h2
      omega
/-- the places: each has a word of its own, of an instruction -/
def PLI (ow sA pW : Nat → Nat) (len : Nat) (aO : Nat → Nat) (L : Nat → Int32) (i w1 : Nat) : Prop := (∀ p, p < len → ow p < 12 ∧ pW p < lenN L (ow p) ∧ sA p = aO (ow p * 10 + pW p) ∧ (ow p < i ∨ (ow p = i ∧ w1 ≤ pW p))) ∧ ∀ p p', p < len → p' < len → ow p = ow p' → pW p = pW p' → p = p'
theorem PLI_0 (ow sA pW aO : Nat → Nat) (L : Nat → Int32) (i w : Nat) : PLI ow sA pW 0 aO L i w := ⟨fun p h => absurd h (Nat.not_lt_zero p), fun p p' h => absurd h (Nat.not_lt_zero p)⟩
theorem PLI_in {ow sA pW : Nat → Nat} {len : Nat} {aO : Nat → Nat} {L : Nat → Int32} {i w1 w2 : Nat} (h : PLI ow sA pW len aO L i w1) (hw : w2 ≤ w1) : PLI ow sA pW len aO L i w2 := by
  refine ⟨fun p hp => ?_, h.2⟩
  obtain ⟨a1, a2, a3, a4⟩ := h.1 p hp
  exact ⟨a1, a2, a3, by omega⟩
theorem PLI_out {ow sA pW : Nat → Nat} {len : Nat} {aO : Nat → Nat} {L : Nat → Int32} {i w1 w2 : Nat} (h : PLI ow sA pW len aO L i w1) : PLI ow sA pW len aO L (i + 1) w2 := by
  refine ⟨fun p hp => ?_, h.2⟩
  obtain ⟨a1, a2, a3, a4⟩ := h.1 p hp
  exact ⟨a1, a2, a3, by omega⟩
theorem PLI_step {ow sA pW ow' sA' : Nat → Nat} {len len' : Nat} {aO : Nat → Nat} {L : Nat → Int32} {i w : Nat} (h : PLI ow sA pW len aO L i (w + 1)) (hi : i < 12) (hw : w < lenN L i) (hr : (len' = len ∧ ow' = ow ∧ sA' = sA) ∨ (len' = len + 1 ∧ ow' = mUpd ow len i ∧ sA' = mUpd sA len (aO (i * 10 + w)))) : PLI ow' sA' (if len' = len then pW else mUpd pW len w) len' aO L i w := by
  rcases hr with ⟨e1, e2, e3⟩ | ⟨e1, e2, e3⟩
  · subst e1 e2 e3
    rw [if_pos rfl]
    exact PLI_in h (by omega)
  · subst e1 e2 e3
    rw [if_neg (by omega)]
    have hne : ∀ p, p < len → ¬ (ow p = i ∧ pW p = w) := fun p hp z => by
      obtain ⟨a1, a2, a3, a4⟩ := h.1 p hp
      omega
    refine ⟨fun p hp => ?_, fun p p' hp hp' => ?_⟩
    · by_cases c : p = len
      · subst c
        rw [mUpd_s, mUpd_s, mUpd_s]
        exact ⟨hi, hw, rfl, Or.inr ⟨rfl, Nat.le_refl _⟩⟩
      · rw [mUpd_n c, mUpd_n c, mUpd_n c]
        obtain ⟨a1, a2, a3, a4⟩ := h.1 p (by omega)
        exact ⟨a1, a2, a3, by omega⟩
    · by_cases c : p = len
      · by_cases d : p' = len
        · intro _ _
          omega
        · subst c
          rw [mUpd_s, mUpd_s, mUpd_n d, mUpd_n d]
          intro q1 q2
          exact absurd ⟨q1.symm, q2.symm⟩ (hne p' (by omega))
      · by_cases d : p' = len
        · subst d
          rw [mUpd_s, mUpd_s, mUpd_n c, mUpd_n c]
          intro q1 q2
          exact absurd ⟨q1, q2⟩ (hne p (by omega))
        · rw [mUpd_n c, mUpd_n c, mUpd_n d, mUpd_n d]
          intro q1 q2
          exact h.2 p p' (by omega) (by omega) q1 q2
set_option maxHeartbeats 4000000 in
set_option maxRecDepth 100000 in
theorem c_sameN (l : Launch) (dC : Nat → ClassId) (dI : Nat → Nat → Nat) (sz : Nat) (o5 : Nat) (a5_0 : Nat) (a5_1 : Nat) (a5_2 : Nat) (a5_3 : Nat) (a5_4 : Nat) (a5_5 : Nat) (a5_6 : Nat) (c5_1 : ClassId) (f5_1 : Nat → Int32) (c5_2 : ClassId) (f5_2 : Nat → Int32) (c5_3 : ClassId) (f5_3 : Nat → Int32) (c5_4 : ClassId) (f5_4 : Nat → Int32) (m9 : Nat) (i9 : Nat) (hp : m9 < 120 ∧ i9 < 120) : Met l yX5_same wsX5_same ({ frames := 0, cells := 0, slots := 0, locals := 0 } : Room) (va_Pc [.ref o5, .int (nI m9), .int (nI i9)] (KPre (dC, dI) [(o5, .inr (5, [.ref a5_0, .ref a5_1, .ref a5_2, .ref a5_3, .ref a5_4, .ref a5_5, .ref a5_6])), (a5_1, .inl (c5_1, 120, .inl f5_1)), (a5_2, .inl (c5_2, 120, .inl f5_2)), (a5_3, .inl (c5_3, 120, .inl f5_3)), (a5_4, .inl (c5_4, 120, .inl f5_4))] [(c5_1, .int), (c5_2, .int), (c5_3, .int), (c5_4, .int)] sz (fun _ => True))) (va_Qi (fun (r : Int32) (u : Unit) => r = if ((f5_1 m9).toInt = (f5_1 i9).toInt ∧ (f5_2 m9).toInt = (f5_2 i9).toInt ∧ (f5_3 m9).toInt = (f5_3 i9).toInt ∧ (f5_4 m9).toInt = (f5_4 i9).toInt) then 1 else 0) (KPost (dC, dI) (va_A [(o5, .inr (5, [.ref a5_0, .ref a5_1, .ref a5_2, .ref a5_3, .ref a5_4, .ref a5_5, .ref a5_6])), (a5_1, .inl (c5_1, 120, .inl f5_1)), (a5_2, .inl (c5_2, 120, .inl f5_2)), (a5_3, .inl (c5_3, 120, .inl f5_3)), (a5_4, .inl (c5_4, 120, .inl f5_4))] sz) (fun (u : Unit) => [(o5, .inr (5, [.ref a5_0, .ref a5_1, .ref a5_2, .ref a5_3, .ref a5_4, .ref a5_5, .ref a5_6])), (a5_1, .inl (c5_1, 120, .inl f5_1)), (a5_2, .inl (c5_2, 120, .inl f5_2)), (a5_3, .inl (c5_3, 120, .inl f5_3)), (a5_4, .inl (c5_4, 120, .inl f5_4))])) (va_A [(o5, .inr (5, [.ref a5_0, .ref a5_1, .ref a5_2, .ref a5_3, .ref a5_4, .ref a5_5, .ref a5_6])), (a5_1, .inl (c5_1, 120, .inl f5_1)), (a5_2, .inl (c5_2, 120, .inl f5_2)), (a5_3, .inl (c5_3, 120, .inl f5_3)), (a5_4, .inl (c5_4, 120, .inl f5_4))] sz)) 0 0 (va_A [(o5, .inr (5, [.ref a5_0, .ref a5_1, .ref a5_2, .ref a5_3, .ref a5_4, .ref a5_5, .ref a5_6])), (a5_1, .inl (c5_1, 120, .inl f5_1)), (a5_2, .inl (c5_2, 120, .inl f5_2)), (a5_3, .inl (c5_3, 120, .inl f5_3)), (a5_4, .inl (c5_4, 120, .inl f5_4))] sz) := by
  refine kMet (y := yX5_same) (wsM := wsX5_same) (cc := cX5_same) (maxL := 3) (ret := (some .boolean)) (rm := ({ frames := 0, cells := 0, slots := 0, locals := 0 } : Room)) (mc := 0) (ms := 0) (av := [.ref o5, .int (nI m9), .int (nI i9)]) (D := (dC, dI)) (wc := [(o5, .inr (5, [.ref a5_0, .ref a5_1, .ref a5_2, .ref a5_3, .ref a5_4, .ref a5_5, .ref a5_6])), (a5_1, .inl (c5_1, 120, .inl f5_1)), (a5_2, .inl (c5_2, 120, .inl f5_2)), (a5_3, .inl (c5_3, 120, .inl f5_3)), (a5_4, .inl (c5_4, 120, .inl f5_4))]) (tc := [(c5_1, .int), (c5_2, .int), (c5_3, .int), (c5_4, .int)]) (sz := sz) (X := fun _ => True) (Qc := fun A => va_Qi (fun (r : Int32) (u : Unit) => r = if ((f5_1 m9).toInt = (f5_1 i9).toInt ∧ (f5_2 m9).toInt = (f5_2 i9).toInt ∧ (f5_3 m9).toInt = (f5_3 i9).toInt ∧ (f5_4 m9).toInt = (f5_4 i9).toInt) then 1 else 0) (KPost (dC, dI) A (fun (u : Unit) => [(o5, .inr (5, [.ref a5_0, .ref a5_1, .ref a5_2, .ref a5_3, .ref a5_4, .ref a5_5, .ref a5_6])), (a5_1, .inl (c5_1, 120, .inl f5_1)), (a5_2, .inl (c5_2, 120, .inl f5_2)), (a5_3, .inl (c5_3, 120, .inl f5_3)), (a5_4, .inl (c5_4, 120, .inl f5_4))])) A) (by decide) rfl (Nat.le_of_ble_eq_true rfl) ?_
  intro p e s m below meth c A ls E hr hlocks hnm hsz hAe hX h hl
  have hx := E.1
  have hb := E.2.1
  have hl : lv_has ls 3 [(0, .ref o5), (1, .int (nI m9)), (2, .int (nI i9))] := hl
  refine lv_aload_n hx hb dX5_same_0 rfl (lv_at hl 0 rfl) ?_
  refine k_get (v := .ref a5_1) E h (fun w h => List.mem_cons_of_mem _ (List.mem_append_right _ h)) 0 rfl rfl 1 (Nat.le_of_ble_eq_true rfl) (List.mem_of_getElem? (i := 1) rfl) rfl dX5_same_1 ?_
  refine lv_iload_n hx hb dX5_same_4 rfl (lv_at hl 1 rfl) ?_
  refine k_iald (v := f5_1 m9) E h 1 0 rfl rfl (vp_in_nI (by omega) (by omega)) (by rw [nI_clamp (by omega)]) dX5_same_5 ?_
  refine lv_aload_n hx hb dX5_same_6 rfl (lv_at hl 0 rfl) ?_
  refine k_get (v := .ref a5_1) E h (fun w h => List.mem_cons_of_mem _ (List.mem_append_right _ h)) 0 rfl rfl 1 (Nat.le_of_ble_eq_true rfl) (List.mem_of_getElem? (i := 1) rfl) rfl dX5_same_7 ?_
  refine lv_iload_n hx hb dX5_same_10 rfl (lv_at hl 2 rfl) ?_
  refine k_iald (v := f5_1 i9) E h 1 0 rfl rfl (vp_in_nI (by omega) (by omega)) (by rw [nI_clamp (by omega)]) dX5_same_11 ?_
  refine lv_icmp_ne (tgt := 64) hx hb dX5_same_12 rfl (fun c_1 => ?_) (fun c_1 => ?_)
  · skip
    have i_1 : ¬ (f5_1 m9).toInt = (f5_1 i9).toInt := fun h9 => c_1 ((fa_eq _ _).mpr h9)
    refine lv_iconst (v := 0) hx hb dX5_same_64 kic_0 ?_
    have hP9 := h.2.1.sub [0, 1, 2, 3, 4] rfl
    have hD9 := h.2.2.1.sub (ws' := [(o5, .inr (5, [.ref a5_0, .ref a5_1, .ref a5_2, .ref a5_3, .ref a5_4, .ref a5_5, .ref a5_6])), (a5_1, .inl (c5_1, 120, .inl f5_1)), (a5_2, .inl (c5_2, 120, .inl f5_2)), (a5_3, .inl (c5_3, 120, .inl f5_3)), (a5_4, .inl (c5_4, 120, .inl f5_4))]) [0, 1, 2, 3, 4] (by decide) rfl
    exact W.zret (v := 0) hx hb hr (by decide) (fun t ht hW => ⟨⟨0, (), rfl, (by (first | rw [] | skip); (repeat' split) <;> first | (with_reducible rfl) | (exfalso; omega) | rfl | omega | contradiction), (by rw [ht]; exact hP9), hD9⟩, h.2.2.2.1.F ht⟩) h.2.2.2.1.2.2 dX5_same_65 hlocks
  · skip
    have i_1 : (f5_1 m9).toInt = (f5_1 i9).toInt := (fa_eq _ _).mp c_1
    refine lv_aload_n hx hb dX5_same_15 rfl (lv_at hl 0 rfl) ?_
    refine k_get (v := .ref a5_2) E h (fun w h => List.mem_cons_of_mem _ (List.mem_append_right _ h)) 0 rfl rfl 2 (Nat.le_of_ble_eq_true rfl) (List.mem_of_getElem? (i := 2) rfl) rfl dX5_same_16 ?_
    refine lv_iload_n hx hb dX5_same_19 rfl (lv_at hl 1 rfl) ?_
    refine k_iald (v := f5_2 m9) E h 2 1 rfl rfl (vp_in_nI (by omega) (by omega)) (by rw [nI_clamp (by omega)]) dX5_same_20 ?_
    refine lv_aload_n hx hb dX5_same_21 rfl (lv_at hl 0 rfl) ?_
    refine k_get (v := .ref a5_2) E h (fun w h => List.mem_cons_of_mem _ (List.mem_append_right _ h)) 0 rfl rfl 2 (Nat.le_of_ble_eq_true rfl) (List.mem_of_getElem? (i := 2) rfl) rfl dX5_same_22 ?_
    refine lv_iload_n hx hb dX5_same_25 rfl (lv_at hl 2 rfl) ?_
    refine k_iald (v := f5_2 i9) E h 2 1 rfl rfl (vp_in_nI (by omega) (by omega)) (by rw [nI_clamp (by omega)]) dX5_same_26 ?_
    refine lv_icmp_ne (tgt := 64) hx hb dX5_same_27 rfl (fun c_2 => ?_) (fun c_2 => ?_)
    · skip
      have i_2 : ¬ (f5_2 m9).toInt = (f5_2 i9).toInt := fun h9 => c_2 ((fa_eq _ _).mpr h9)
      refine lv_iconst (v := 0) hx hb dX5_same_64 kic_0 ?_
      have hP9 := h.2.1.sub [0, 1, 2, 3, 4] rfl
      have hD9 := h.2.2.1.sub (ws' := [(o5, .inr (5, [.ref a5_0, .ref a5_1, .ref a5_2, .ref a5_3, .ref a5_4, .ref a5_5, .ref a5_6])), (a5_1, .inl (c5_1, 120, .inl f5_1)), (a5_2, .inl (c5_2, 120, .inl f5_2)), (a5_3, .inl (c5_3, 120, .inl f5_3)), (a5_4, .inl (c5_4, 120, .inl f5_4))]) [0, 1, 2, 3, 4] (by decide) rfl
      exact W.zret (v := 0) hx hb hr (by decide) (fun t ht hW => ⟨⟨0, (), rfl, (by (first | rw [] | skip); (repeat' split) <;> first | (with_reducible rfl) | (exfalso; omega) | rfl | omega | contradiction), (by rw [ht]; exact hP9), hD9⟩, h.2.2.2.1.F ht⟩) h.2.2.2.1.2.2 dX5_same_65 hlocks
    · skip
      have i_2 : (f5_2 m9).toInt = (f5_2 i9).toInt := (fa_eq _ _).mp c_2
      refine lv_aload_n hx hb dX5_same_30 rfl (lv_at hl 0 rfl) ?_
      refine k_get (v := .ref a5_3) E h (fun w h => List.mem_cons_of_mem _ (List.mem_append_right _ h)) 0 rfl rfl 3 (Nat.le_of_ble_eq_true rfl) (List.mem_of_getElem? (i := 3) rfl) rfl dX5_same_31 ?_
      refine lv_iload_n hx hb dX5_same_34 rfl (lv_at hl 1 rfl) ?_
      refine k_iald (v := f5_3 m9) E h 3 2 rfl rfl (vp_in_nI (by omega) (by omega)) (by rw [nI_clamp (by omega)]) dX5_same_35 ?_
      refine lv_aload_n hx hb dX5_same_36 rfl (lv_at hl 0 rfl) ?_
      refine k_get (v := .ref a5_3) E h (fun w h => List.mem_cons_of_mem _ (List.mem_append_right _ h)) 0 rfl rfl 3 (Nat.le_of_ble_eq_true rfl) (List.mem_of_getElem? (i := 3) rfl) rfl dX5_same_37 ?_
      refine lv_iload_n hx hb dX5_same_40 rfl (lv_at hl 2 rfl) ?_
      refine k_iald (v := f5_3 i9) E h 3 2 rfl rfl (vp_in_nI (by omega) (by omega)) (by rw [nI_clamp (by omega)]) dX5_same_41 ?_
      refine lv_icmp_ne (tgt := 64) hx hb dX5_same_42 rfl (fun c_3 => ?_) (fun c_3 => ?_)
      · skip
        have i_3 : ¬ (f5_3 m9).toInt = (f5_3 i9).toInt := fun h9 => c_3 ((fa_eq _ _).mpr h9)
        refine lv_iconst (v := 0) hx hb dX5_same_64 kic_0 ?_
        have hP9 := h.2.1.sub [0, 1, 2, 3, 4] rfl
        have hD9 := h.2.2.1.sub (ws' := [(o5, .inr (5, [.ref a5_0, .ref a5_1, .ref a5_2, .ref a5_3, .ref a5_4, .ref a5_5, .ref a5_6])), (a5_1, .inl (c5_1, 120, .inl f5_1)), (a5_2, .inl (c5_2, 120, .inl f5_2)), (a5_3, .inl (c5_3, 120, .inl f5_3)), (a5_4, .inl (c5_4, 120, .inl f5_4))]) [0, 1, 2, 3, 4] (by decide) rfl
        exact W.zret (v := 0) hx hb hr (by decide) (fun t ht hW => ⟨⟨0, (), rfl, (by (first | rw [] | skip); (repeat' split) <;> first | (with_reducible rfl) | (exfalso; omega) | rfl | omega | contradiction), (by rw [ht]; exact hP9), hD9⟩, h.2.2.2.1.F ht⟩) h.2.2.2.1.2.2 dX5_same_65 hlocks
      · skip
        have i_3 : (f5_3 m9).toInt = (f5_3 i9).toInt := (fa_eq _ _).mp c_3
        refine lv_aload_n hx hb dX5_same_45 rfl (lv_at hl 0 rfl) ?_
        refine k_get (v := .ref a5_4) E h (fun w h => List.mem_cons_of_mem _ (List.mem_append_right _ h)) 0 rfl rfl 4 (Nat.le_of_ble_eq_true rfl) (List.mem_of_getElem? (i := 4) rfl) rfl dX5_same_46 ?_
        refine lv_iload_n hx hb dX5_same_49 rfl (lv_at hl 1 rfl) ?_
        refine k_iald (v := f5_4 m9) E h 4 3 rfl rfl (vp_in_nI (by omega) (by omega)) (by rw [nI_clamp (by omega)]) dX5_same_50 ?_
        refine lv_aload_n hx hb dX5_same_51 rfl (lv_at hl 0 rfl) ?_
        refine k_get (v := .ref a5_4) E h (fun w h => List.mem_cons_of_mem _ (List.mem_append_right _ h)) 0 rfl rfl 4 (Nat.le_of_ble_eq_true rfl) (List.mem_of_getElem? (i := 4) rfl) rfl dX5_same_52 ?_
        refine lv_iload_n hx hb dX5_same_55 rfl (lv_at hl 2 rfl) ?_
        refine k_iald (v := f5_4 i9) E h 4 3 rfl rfl (vp_in_nI (by omega) (by omega)) (by rw [nI_clamp (by omega)]) dX5_same_56 ?_
        refine lv_icmp_ne (tgt := 64) hx hb dX5_same_57 rfl (fun c_4 => ?_) (fun c_4 => ?_)
        · skip
          have i_4 : ¬ (f5_4 m9).toInt = (f5_4 i9).toInt := fun h9 => c_4 ((fa_eq _ _).mpr h9)
          refine lv_iconst (v := 0) hx hb dX5_same_64 kic_0 ?_
          have hP9 := h.2.1.sub [0, 1, 2, 3, 4] rfl
          have hD9 := h.2.2.1.sub (ws' := [(o5, .inr (5, [.ref a5_0, .ref a5_1, .ref a5_2, .ref a5_3, .ref a5_4, .ref a5_5, .ref a5_6])), (a5_1, .inl (c5_1, 120, .inl f5_1)), (a5_2, .inl (c5_2, 120, .inl f5_2)), (a5_3, .inl (c5_3, 120, .inl f5_3)), (a5_4, .inl (c5_4, 120, .inl f5_4))]) [0, 1, 2, 3, 4] (by decide) rfl
          exact W.zret (v := 0) hx hb hr (by decide) (fun t ht hW => ⟨⟨0, (), rfl, (by (first | rw [] | skip); (repeat' split) <;> first | (with_reducible rfl) | (exfalso; omega) | rfl | omega | contradiction), (by rw [ht]; exact hP9), hD9⟩, h.2.2.2.1.F ht⟩) h.2.2.2.1.2.2 dX5_same_65 hlocks
        · skip
          have i_4 : (f5_4 m9).toInt = (f5_4 i9).toInt := (fa_eq _ _).mp c_4
          refine lv_iconst (v := 1) hx hb dX5_same_60 kic_1 ?_
          refine lv_goto (tgt := 65) hx hb dX5_same_61 rfl ?_
          have hP9 := h.2.1.sub [0, 1, 2, 3, 4] rfl
          have hD9 := h.2.2.1.sub (ws' := [(o5, .inr (5, [.ref a5_0, .ref a5_1, .ref a5_2, .ref a5_3, .ref a5_4, .ref a5_5, .ref a5_6])), (a5_1, .inl (c5_1, 120, .inl f5_1)), (a5_2, .inl (c5_2, 120, .inl f5_2)), (a5_3, .inl (c5_3, 120, .inl f5_3)), (a5_4, .inl (c5_4, 120, .inl f5_4))]) [0, 1, 2, 3, 4] (by decide) rfl
          exact W.zret (v := 1) hx hb hr (by decide) (fun t ht hW => ⟨⟨1, (), rfl, (by (first | rw [] | skip); (repeat' split) <;> first | (with_reducible rfl) | (exfalso; omega) | rfl | omega | contradiction), (by rw [ht]; exact hP9), hD9⟩, h.2.2.2.1.F ht⟩) h.2.2.2.1.2.2 dX5_same_65 hlocks