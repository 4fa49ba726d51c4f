theorem kph : ∀ (N n : Nat) (f : Nat → Nat), (∀ i, i < n → f i < N) → (∀ i j, i < n → j < n → f i = f j → i = j) → n ≤ N := by
  intro N
  induction N with
  | zero =>
    intro n f h1 _
    apply Decidable.byContradiction
    intro hn
    exact absurd (h1 0 (by omega)) (Nat.not_lt_zero _)
  | succ N ih =>
    intro n f h1 h2
    by_cases hex : ∃ i, i < n ∧ f i = N
    · obtain ⟨k, hk, ek⟩ := hex
      have z := ih (n - 1) (fun i => if i < k then f i else f (i + 1)) (fun i hi => by
        by_cases c : i < k
        · simp only [c, if_true]
          have a := h1 i (by omega)
          have b : f i ≠ N := fun e => by
            have := h2 i k (by omega) hk (e.trans ek.symm)
            omega
          omega
        · simp only [c, if_false]
          have a := h1 (i + 1) (by omega)
          have b : f (i + 1) ≠ N := fun e => by
            have := h2 (i + 1) k (by omega) hk (e.trans ek.symm)
            omega
          omega) (fun i j hi hj e => by
        by_cases c : i < k
        · by_cases d : j < k
          · simp only [c, d, if_true] at e
            exact h2 i j (by omega) (by omega) e
          · simp only [c, d, if_true, if_false] at e
            have := h2 i (j + 1) (by omega) (by omega) e
            omega
        · by_cases d : j < k
          · simp only [c, d, if_true, if_false] at e
            have := h2 (i + 1) j (by omega) (by omega) e
            omega
          · simp only [c, d, if_false] at e
            have := h2 (i + 1) (j + 1) (by omega) (by omega) e
            omega)
      omega
    · have z := ih n f (fun i hi => by
        have a := h1 i hi
        have b : f i ≠ N := fun e => hex ⟨i, hi, e⟩
        omega) h2
      omega
/-- the places: each has a word of its own, of an instruction -/
def PLI (ow sA pW : Nat → Nat) (len : Nat) (aO : Nat → Nat) (L : Nat → Int32) (i w1 : Nat) : Prop := (∀ p, p < len → ow p < 12 ∧ pW p < lenN L (ow p) ∧ sA p = aO (ow p * 10 + pW p) ∧ (ow p < i ∨ (ow p = i ∧ w1 ≤ pW p))) ∧ ∀ p p', p < len → p' < len → ow p = ow p' → pW p = pW p' → p = p'
theorem PLI_0 (ow sA pW aO : Nat → Nat) (L : Nat → Int32) (i w : Nat) : PLI ow sA pW 0 aO L i w := ⟨fun p h => absurd h (Nat.not_lt_zero p), fun p p' h => absurd h (Nat.not_lt_zero p)⟩
theorem PLI_in {ow sA pW : Nat → Nat} {len : Nat} {aO : Nat → Nat} {L : Nat → Int32} {i w1 w2 : Nat} (h : PLI ow sA pW len aO L i w1) (hw : w2 ≤ w1) : PLI ow sA pW len aO L i w2 := by
  refine ⟨fun p hp => ?_, h.2⟩
  obtain ⟨a1, a2, a3, a4⟩ := h.1 p hp
  exact ⟨a1, a2, a3, by omega⟩
theorem PLI_out {ow sA pW : Nat → Nat} {len : Nat} {aO : Nat → Nat} {L : Nat → Int32} {i w1 w2 : Nat} (h : PLI ow sA pW len aO L i w1) : PLI ow sA pW len aO L (i + 1) w2 := by
  refine ⟨fun p hp => ?_, h.2⟩
  obtain ⟨a1, a2, a3, a4⟩ := h.1 p hp
  exact ⟨a1, a2, a3, by omega⟩
theorem PLI_step {ow sA pW ow' sA' : Nat → Nat} {len len' : Nat} {aO : Nat → Nat} {L : Nat → Int32} {i w : Nat} (h : PLI ow sA pW len aO L i (w + 1)) (hi : i < 12) (hw : w < lenN L i) (hr : (len' = len ∧ ow' = ow ∧ sA' = sA) ∨ (len' = len + 1 ∧ ow' = mUpd ow len i ∧ sA' = mUpd sA len (aO (i * 10 + w)))) : PLI ow' sA' (if len' = len then pW else mUpd pW len w) len' aO L i w := by
  rcases hr with ⟨e1, e2, e3⟩ | ⟨e1, e2, e3⟩
  · subst e1 e2 e3
    rw [if_pos rfl]
    exact PLI_in h (by omega)
  · subst e1 e2 e3
    rw [if_neg (by omega)]
    have hne : ∀ p, p < len → ¬ (ow p = i ∧ pW p = w) := fun p hp z => by
      obtain ⟨a1, a2, a3, a4⟩ := h.1 p hp
      omega
    refine ⟨fun p hp => ?_, fun p p' hp hp' => ?_⟩
    · by_cases c : p = len
      · subst c
        rw [mUpd_s, mUpd_s, mUpd_s]
        exact ⟨hi, hw, rfl, Or.inr ⟨rfl, Nat.le_refl _⟩⟩
      · rw [mUpd_n c, mUpd_n c, mUpd_n c]
        obtain ⟨a1, a2, a3, a4⟩ := h.1 p (by omega)
        exact ⟨a1, a2, a3, by omega⟩
    · by_cases c : p = len
      · by_cases d : p' = len
        · intro _ _
          omega
        · subst c
          rw [mUpd_s, mUpd_s, mUpd_n d, mUpd_n d]
          intro q1 q2
          exact absurd ⟨q1.symm, q2.symm⟩ (hne p' (by omega))
      · by_cases d : p' = len
        · subst d
          rw [mUpd_s, mUpd_s, mUpd_n c, mUpd_n c]
          intro q1 q2
          exact absurd ⟨q1, q2⟩ (hne p (by omega))
        · rw [mUpd_n c, mUpd_n c, mUpd_n d, mUpd_n d]
          intro q1 q2
          exact h.2 p p' (by omega) (by omega) q1 q2
set_option maxHeartbeats 4000000 in
set_option maxRecDepth 100000 in
theorem c_sameN (l : Launch) (dC : Nat → ClassId) (dI : Nat → Nat → Nat) (sz : Nat) (o5 : Nat) (a5_0 : Nat) (a5_1 : Nat) (a5_2 : Nat) (a5_3 : Nat) (a5_4 : Nat) (a5_5 : Nat) (a5_6 : Nat) (c5_1 : ClassId) (f5_1 : Nat → Int32) (c5_2 : ClassId) (f5_2 : Nat → Int32) (c5_3 : ClassId) (f5_3 : Nat → Int32) (c5_4 : ClassId) (f5_4 : Nat → Int32) (m9 : Nat) (i9 : Nat) (hp : m9 < 120 ∧ i9 < 120) : Met l yX5_same wsX5_same ({ frames := 0, cells := 0, slots := 0, locals := 0 } : Room) (va_Pc [.ref o5, .int (nI m9), .int (nI i9)] (KPre (dC, dI) [(o5, .inr (5, [.ref a5_0, .ref a5_1, .ref a5_2, .ref a5_3, .ref a5_4, .ref a5_5, .ref a5_6])), (a5_1, .inl (c5_1, 120, .inl f5_1)), (a5_2, .inl (c5_2, 120, .inl f5_2)), (a5_3, .inl (c5_3, 120, .inl f5_3)), (a5_4, .inl (c5_4, 120, .inl f5_4))] [(c5_1, .int), (c5_2, .int), (c5_3, .int), (c5_4, .int)] sz (fun _ => True))) (va_Qi (fun (r : Int32) (u : Unit) => r = if ((f5_1 m9).toInt = (f5_1 i9).toInt ∧ (f5_2 m9).toInt = (f5_2 i9).toInt ∧ (f5_3 m9).toInt = (f5_3 i9).toInt ∧ (f5_4 m9).toInt = (f5_4 i9).toInt) then 1 else 0) (KPost (dC, dI) (va_A [(o5, .inr (5, [.ref a5_0, .ref a5_1, .ref a5_2, .ref a5_3, .ref a5_4, .ref a5_5, .ref a5_6])), (a5_1, .inl (c5_1, 120, .inl f5_1)), (a5_2, .inl (c5_2, 120, .inl f5_2)), (a5_3, .inl (c5_3, 120, .inl f5_3)), (a5_4, .inl (c5_4, 120, .inl f5_4))] sz) (fun (u : Unit) => [(o5, .inr (5, [.ref a5_0, .ref a5_1, .ref a5_2, .ref a5_3, .ref a5_4, .ref a5_5, .ref a5_6])), (a5_1, .inl (c5_1, 120, .inl f5_1)), (a5_2, .inl (c5_2, 120, .inl f5_2)), (a5_3, .inl (c5_3, 120, .inl f5_3)), (a5_4, .inl (c5_4, 120, .inl f5_4))])) (va_A [(o5, .inr (5, [.ref a5_0, .ref a5_1, .ref a5_2, .ref a5_3, .ref a5_4, .ref a5_5, .ref a5_6])), (a5_1, .inl (c5_1, 120, .inl f5_1)), (a5_2, .inl (c5_2, 120, .inl f5_2)), (a5_3, .inl (c5_3, 120, .inl f5_3)), (a5_4, .inl (c5_4, 120, .inl f5_4))] sz)) 0 0 (va_A [(o5, .inr (5, [.ref a5_0, .ref a5_1, .ref a5_2, .ref a5_3, .ref a5_4, .ref a5_5, .ref a5_6])), (a5_1, .inl (c5_1, 120, .inl f5_1)), (a5_2, .inl (c5_2, 120, .inl f5_2)), (a5_3, .inl (c5_3, 120, .inl f5_3)), (a5_4, .inl (c5_4, 120, .inl f5_4))] sz) := by
  refine kMet (y := yX5_same) (wsM := wsX5_same) (cc := cX5_same) (maxL := 3) (ret := (some .boolean)) (rm := ({ frames := 0, cells := 0, slots := 0, locals := 0 } : Room)) (mc := 0) (ms := 0) (av := [.ref o5, .int (nI m9), .int (nI i9)]) (D := (dC, dI)) (wc := [(o5, .inr (5, [.ref a5_0, .ref a5_1, .ref a5_2, .ref a5_3, .ref a5_4, .ref a5_5, .ref a5_6])), (a5_1, .inl (c5_1, 120, .inl f5_1)), (a5_2, .inl (c5_2, 120, .inl f5_2)), (a5_3, .inl (c5_3, 120, .inl f5_3)), (a5_4, .inl (c5_4, 120, .inl f5_4))]) (tc := [(c5_1, .int), (c5_2, .int), (c5_3, .int), (c5_4, .int)]) (sz := sz) (X := fun _ => True) (Qc := fun A => va_Qi (fun (r : Int32) (u : Unit) => r = if ((f5_1 m9).toInt = (f5_1 i9).toInt ∧ (f5_2 m9).toInt = (f5_2 i9).toInt ∧ (f5_3 m9).toInt = (f5_3 i9).toInt ∧ (f5_4 m9).toInt = (f5_4 i9).toInt) then 1 else 0) (KPost (dC, dI) A (fun (u : Unit) => [(o5, .inr (5, [.ref a5_0, .ref a5_1, .ref a5_2, .ref a5_3, .ref a5_4, .ref a5_5, .ref a5_6])), (a5_1, .inl (c5_1, 120, .inl f5_1)), (a5_2, .inl (c5_2, 120, .inl f5_2)), (a5_3, .inl (c5_3, 120, .inl f5_3)), (a5_4, .inl (c5_4, 120, .inl f5_4))])) A) (by decide) rfl (Nat.le_of_ble_eq_true rfl) ?_
  intro p e s m below meth c A ls E hr hlocks hnm hsz hAe hX h hl
  have hx := E.1
  have hb := E.2.1
  have hl : lv_has ls 3 [(0, .ref o5), (1, .int (nI m9)), (2, .int (nI i9))] := hl
  refine lv_aload_n hx hb dX5_same_0 rfl (lv_at hl 0 rfl) ?_
  refine k_get (v := .ref a5_1) E h (fun w h => List.mem_cons_of_mem _ (List.mem_append_right _ h)) 0 rfl rfl 1 (by decide) (List.mem_of_getElem? (i := 1) rfl) rfl dX5_same_1 ?_
  refine lv_iload_n hx hb dX5_same_4 rfl (lv_at hl 1 rfl) ?_
  refine k_iald (v := f5_1 m9) E h 1 0 rfl rfl (vp_in_nI (by omega) (by omega)) (by rw [nI_clamp (by omega)]) dX5_same_5 ?_
  refine lv_aload_n hx hb dX5_same_6 rfl (lv_at hl 0 rfl) ?_
  refine k_get (v := .ref a5_1) E h (fun w h => List.mem_cons_of_mem _ (List.mem_append_right _ h)) 0 rfl rfl 1 (by decide) (List.mem_of_getElem? (i := 1) rfl) rfl dX5_same_7 ?_
  refine lv_iload_n hx hb dX5_same_10 rfl (lv_at hl 2 rfl) ?_
  refine k_iald (v := f5_1 i9) E h 1 0 rfl rfl (vp_in_nI (by omega) (by omega)) (by rw [nI_clamp (by omega)]) dX5_same_11 ?_
  refine lv_icmp_ne (tgt := 64) hx hb dX5_same_12 (by decide) (fun c_1 => ?_) (fun c_1 => ?_)
  · skip
    have i_1 : ¬ (f5_1 m9).toInt = (f5_1 i9).toInt := fun h9 => c_1 ((fa_eq _ _).mpr h9)
    refine lv_iconst (v := 0) hx hb dX5_same_64 (by decide) ?_
    have hP9 := h.2.1.sub [0, 1, 2, 3, 4] rfl
    have hD9 := h.2.2.1.sub (ws' := [(o5, .inr (5, [.ref a5_0, .ref a5_1, .ref a5_2, .ref a5_3, .ref a5_4, .ref a5_5, .ref a5_6])), (a5_1, .inl (c5_1, 120, .inl f5_1)), (a5_2, .inl (c5_2, 120, .inl f5_2)), (a5_3, .inl (c5_3, 120, .inl f5_3)), (a5_4, .inl (c5_4, 120, .inl f5_4))]) [0, 1, 2, 3, 4] (by decide) rfl
    exact W.zret (v := 0) hx hb hr (by decide) (fun t ht hW => ⟨⟨0, (), rfl, (by (first | rw [] | skip); (repeat' split) <;> first | rfl | contradiction | omega), (by rw [ht]; exact hP9), hD9⟩, h.2.2.2.1.F ht⟩) h.2.2.2.1.2.2 dX5_same_65 hlocks
  · skip
    have i_1 : (f5_1 m9).toInt = (f5_1 i9).toInt := (fa_eq _ _).mp c_1
    refine lv_aload_n hx hb dX5_same_15 rfl (lv_at hl 0 rfl) ?_
    refine k_get (v := .ref a5_2) E h (fun w h => List.mem_cons_of_mem _ (List.mem_append_right _ h)) 0 rfl rfl 2 (by decide) (List.mem_of_getElem? (i := 2) rfl) rfl dX5_same_16 ?_
    refine lv_iload_n hx hb dX5_same_19 rfl (lv_at hl 1 rfl) ?_
    refine k_iald (v := f5_2 m9) E h 2 1 rfl rfl (vp_in_nI (by omega) (by omega)) (by rw [nI_clamp (by omega)]) dX5_same_20 ?_
    refine lv_aload_n hx hb dX5_same_21 rfl (lv_at hl 0 rfl) ?_
    refine k_get (v := .ref a5_2) E h (fun w h => List.mem_cons_of_mem _ (List.mem_append_right _ h)) 0 rfl rfl 2 (by decide) (List.mem_of_getElem? (i := 2) rfl) rfl dX5_same_22 ?_
    refine lv_iload_n hx hb dX5_same_25 rfl (lv_at hl 2 rfl) ?_
    refine k_iald (v := f5_2 i9) E h 2 1 rfl rfl (vp_in_nI (by omega) (by omega)) (by rw [nI_clamp (by omega)]) dX5_same_26 ?_
    refine lv_icmp_ne (tgt := 64) hx hb dX5_same_27 (by decide) (fun c_2 => ?_) (fun c_2 => ?_)
    · skip
      have i_2 : ¬ (f5_2 m9).toInt = (f5_2 i9).toInt := fun h9 => c_2 ((fa_eq _ _).mpr h9)
      refine lv_iconst (v := 0) hx hb dX5_same_64 (by decide) ?_
      have hP9 := h.2.1.sub [0, 1, 2, 3, 4] rfl
      have hD9 := h.2.2.1.sub (ws' := [(o5, .inr (5, [.ref a5_0, .ref a5_1, .ref a5_2, .ref a5_3, .ref a5_4, .ref a5_5, .ref a5_6])), (a5_1, .inl (c5_1, 120, .inl f5_1)), (a5_2, .inl (c5_2, 120, .inl f5_2)), (a5_3, .inl (c5_3, 120, .inl f5_3)), (a5_4, .inl (c5_4, 120, .inl f5_4))]) [0, 1, 2, 3, 4] (by decide) rfl
      exact W.zret (v := 0) hx hb hr (by decide) (fun t ht hW => ⟨⟨0, (), rfl, (by (first | rw [] | skip); (repeat' split) <;> first | rfl | contradiction | omega), (by rw [ht]; exact hP9), hD9⟩, h.2.2.2.1.F ht⟩) h.2.2.2.1.2.2 dX5_same_65 hlocks
    · skip
      have i_2 : (f5_2 m9).toInt = (f5_2 i9).toInt := (fa_eq _ _).mp c_2
      refine lv_aload_n hx hb dX5_same_30 rfl (lv_at hl 0 rfl) ?_
      refine k_get (v := .ref a5_3) E h (fun w h => List.mem_cons_of_mem _ (List.mem_append_right _ h)) 0 rfl rfl 3 (by decide) (List.mem_of_getElem? (i := 3) rfl) rfl dX5_same_31 ?_
      refine lv_iload_n hx hb dX5_same_34 rfl (lv_at hl 1 rfl) ?_
      refine k_iald (v := f5_3 m9) E h 3 2 rfl rfl (vp_in_nI (by omega) (by omega)) (by rw [nI_clamp (by omega)]) dX5_same_35 ?_
      refine lv_aload_n hx hb dX5_same_36 rfl (lv_at hl 0 rfl) ?_
      refine k_get (v := .ref a5_3) E h (fun w h => List.mem_cons_of_mem _ (List.mem_append_right _ h)) 0 rfl rfl 3 (by decide) (List.mem_of_getElem? (i := 3) rfl) rfl dX5_same_37 ?_
      refine lv_iload_n hx hb dX5_same_40 rfl (lv_at hl 2 rfl) ?_
      refine k_iald (v := f5_3 i9) E h 3 2 rfl rfl (vp_in_nI (by omega) (by omega)) (by rw [nI_clamp (by omega)]) dX5_same_41 ?_
      refine lv_icmp_ne (tgt := 64) hx hb dX5_same_42 (by decide) (fun c_3 => ?_) (fun c_3 => ?_)
      · skip
        have i_3 : ¬ (f5_3 m9).toInt = (f5_3 i9).toInt := fun h9 => c_3 ((fa_eq _ _).mpr h9)
        refine lv_iconst (v := 0) hx hb dX5_same_64 (by decide) ?_
        have hP9 := h.2.1.sub [0, 1, 2, 3, 4] rfl
        have hD9 := h.2.2.1.sub (ws' := [(o5, .inr (5, [.ref a5_0, .ref a5_1, .ref a5_2, .ref a5_3, .ref a5_4, .ref a5_5, .ref a5_6])), (a5_1, .inl (c5_1, 120, .inl f5_1)), (a5_2, .inl (c5_2, 120, .inl f5_2)), (a5_3, .inl (c5_3, 120, .inl f5_3)), (a5_4, .inl (c5_4, 120, .inl f5_4))]) [0, 1, 2, 3, 4] (by decide) rfl
        exact W.zret (v := 0) hx hb hr (by decide) (fun t ht hW => ⟨⟨0, (), rfl, (by (first | rw [] | skip); (repeat' split) <;> first | rfl | contradiction | omega), (by rw [ht]; exact hP9), hD9⟩, h.2.2.2.1.F ht⟩) h.2.2.2.1.2.2 dX5_same_65 hlocks
      · skip
        have i_3 : (f5_3 m9).toInt = (f5_3 i9).toInt := (fa_eq _ _).mp c_3
        refine lv_aload_n hx hb dX5_same_45 rfl (lv_at hl 0 rfl) ?_
        refine k_get (v := .ref a5_4) E h (fun w h => List.mem_cons_of_mem _ (List.mem_append_right _ h)) 0 rfl rfl 4 (by decide) (List.mem_of_getElem? (i := 4) rfl) rfl dX5_same_46 ?_
        refine lv_iload_n hx hb dX5_same_49 rfl (lv_at hl 1 rfl) ?_
        refine k_iald (v := f5_4 m9) E h 4 3 rfl rfl (vp_in_nI (by omega) (by omega)) (by rw [nI_clamp (by omega)]) dX5_same_50 ?_
        refine lv_aload_n hx hb dX5_same_51 rfl (lv_at hl 0 rfl) ?_
        refine k_get (v := .ref a5_4) E h (fun w h => List.mem_cons_of_mem _ (List.mem_append_right _ h)) 0 rfl rfl 4 (by decide) (List.mem_of_getElem? (i := 4) rfl) rfl dX5_same_52 ?_
        refine lv_iload_n hx hb dX5_same_55 rfl (lv_at hl 2 rfl) ?_
        refine k_iald (v := f5_4 i9) E h 4 3 rfl rfl (vp_in_nI (by omega) (by omega)) (by rw [nI_clamp (by omega)]) dX5_same_56 ?_
        refine lv_icmp_ne (tgt := 64) hx hb dX5_same_57 (by decide) (fun c_4 => ?_) (fun c_4 => ?_)
        · skip
          have i_4 : ¬ (f5_4 m9).toInt = (f5_4 i9).toInt := fun h9 => c_4 ((fa_eq _ _).mpr h9)
          refine lv_iconst (v := 0) hx hb dX5_same_64 (by decide) ?_
          have hP9 := h.2.1.sub [0, 1, 2, 3, 4] rfl
          have hD9 := h.2.2.1.sub (ws' := [(o5, .inr (5, [.ref a5_0, .ref a5_1, .ref a5_2, .ref a5_3, .ref a5_4, .ref a5_5, .ref a5_6])), (a5_1, .inl (c5_1, 120, .inl f5_1)), (a5_2, .inl (c5_2, 120, .inl f5_2)), (a5_3, .inl (c5_3, 120, .inl f5_3)), (a5_4, .inl (c5_4, 120, .inl f5_4))]) [0, 1, 2, 3, 4] (by decide) rfl
          exact W.zret (v := 0) hx hb hr (by decide) (fun t ht hW => ⟨⟨0, (), rfl, (by (first | rw [] | skip); (repeat' split) <;> first | rfl | contradiction | omega), (by rw [ht]; exact hP9), hD9⟩, h.2.2.2.1.F ht⟩) h.2.2.2.1.2.2 dX5_same_65 hlocks
        · skip
          have i_4 : (f5_4 m9).toInt = (f5_4 i9).toInt := (fa_eq _ _).mp c_4
          refine lv_iconst (v := 1) hx hb dX5_same_60 (by decide) ?_
          refine lv_goto (tgt := 65) hx hb dX5_same_61 (by decide) ?_
          have hP9 := h.2.1.sub [0, 1, 2, 3, 4] rfl
          have hD9 := h.2.2.1.sub (ws' := [(o5, .inr (5, [.ref a5_0, .ref a5_1, .ref a5_2, .ref a5_3, .ref a5_4, .ref a5_5, .ref a5_6])), (a5_1, .inl (c5_1, 120, .inl f5_1)), (a5_2, .inl (c5_2, 120, .inl f5_2)), (a5_3, .inl (c5_3, 120, .inl f5_3)), (a5_4, .inl (c5_4, 120, .inl f5_4))]) [0, 1, 2, 3, 4] (by decide) rfl
          exact W.zret (v := 1) hx hb hr (by decide) (fun t ht hW => ⟨⟨1, (), rfl, (by (first | rw [] | skip); (repeat' split) <;> first | rfl | contradiction | omega), (by rw [ht]; exact hP9), hD9⟩, h.2.2.2.1.F ht⟩) h.2.2.2.1.2.2 dX5_same_65 hlocks
set_option maxHeartbeats 4000000 in
set_option maxRecDepth 100000 in
theorem c_X4_firstIn (l : Launch) (dC : Nat → ClassId) (dI : Nat → Nat → Nat) (sz : Nat) (m9 : Nat) (i9 : Nat) (hm : m9 < 2147483648) (hi : i9 ≤ 10) : Met l yX4_firstIn wsX4_firstIn ({ frames := 1, cells := 0, slots := 0, locals := 21 } : Room) (va_Pc [.int (nI m9), .int (nI i9)] (KPre (dC, dI) [] [] sz (fun U => KAll (va_A [] sz) U))) (va_Qi (fun (r : Int32) (u : Nat) => r = nI u ∧ u < 10) (KPost (dC, dI) (va_A [] sz) (fun (u : Nat) => [])) (va_A [] sz)) 0 0 (va_A [] sz) := by
  refine kMet (y := yX4_firstIn) (wsM := wsX4_firstIn) (cc := cX4_firstIn) (maxL := 3) (ret := (some .int)) (rm := ({ frames := 1, cells := 0, slots := 0, locals := 21 } : Room)) (mc := 0) (ms := 0) (av := [.int (nI m9), .int (nI i9)]) (D := (dC, dI)) (wc := []) (tc := []) (sz := sz) (X := fun U => KAll (va_A [] sz) U) (Qc := fun A => va_Qi (fun (r : Int32) (u : Nat) => r = nI u ∧ u < 10) (KPost (dC, dI) A (fun (u : Nat) => [])) A) (by decide) rfl (Nat.le_of_ble_eq_true rfl) ?_
  intro p e s m below meth c A ls E hr hlocks hnm hsz hAe hX h hl
  have hx := E.1
  have hb := E.2.1
  have hl : lv_has ls 3 [(0, .int (nI m9)), (1, .int (nI i9))] := hl
  have hX : KAll A s := by rw [← hAe]; exact hX
  obtain ⟨⟨tD, hZD, hTD⟩, ⟨tX, hZX, hTX⟩, ⟨tY, hZY, hTY⟩, ⟨tP, hZP, hTP⟩, ⟨tL, hZL, hTL⟩, ⟨tM, hZM, hTM⟩, hN0_134, hN0_60, hN0_96, hN1_83, hN1_87, hN3_49, hN3_52, hN4_44, hN4_69, hN5_33, hN6_102, hN6_67, hF37, hF40, hF50, hF53⟩ := id hX
  refine lv_iload_n hx hb dX4_firstIn_0 rfl (lv_at hl 1 rfl) ?_
  refine lv_istore_n (lv' := [(2, .int (nI i9)), (0, .int (nI m9)), (1, .int (nI i9))]) hx hb dX4_firstIn_1 rfl hl (by decide) rfl (fun ls hl => ?_)
  refine k_loop (σ := Nat) (fun x9 => []) (fun x9 => [(0, .int (nI m9)), (1, .int (nI i9)), (2, .int (nI x9))]) (fun n9 x9 => x9 ≤ 10 ∧ n9 = 10 - x9) ?_ (10 - i9) i9 ⟨by omega, rfl⟩ h (lv_sub hl [1, 2, 0] rfl)
  intro n9 x9 H locs ls hI h hl ih2
  obtain ⟨i, rfl⟩ : ∃ z, z = x9 := ⟨_, rfl⟩
  have hI : i ≤ 10 ∧ n9 = 10 - i := hI
  have h : KS (dC, dI) A [] [] s H locs := h
  have hl : lv_has ls 3 [(0, .int (nI m9)), (1, .int (nI i9)), (2, .int (nI i))] := hl
  obtain ⟨hi1, hi2⟩ := hI
  refine lv_iload_n hx hb dX4_firstIn_2 rfl (lv_at hl 2 rfl) ?_
  refine lv_bipush (v := 10) hx hb dX4_firstIn_3 (by decide) ?_
  refine lv_icmp_ge (tgt := 24) hx hb dX4_firstIn_5 (by decide) (fun c_1 => ?_) (fun c_1 => ?_)
  · skip
    have i_1 : 10 ≤ i := (nI_leI (a := 10) (b := i) (by omega) (by omega)).mp c_1
    refine lv_iconst (v := 0) hx hb dX4_firstIn_24 (by decide) ?_
    have hP9 := h.2.1.sub [] rfl
    have hD9 := h.2.2.1.sub (ws' := []) [] (by decide) rfl
    exact W.iret (v := 0) hx hb hr (fun t ht hW => ⟨⟨0, 0, rfl, ⟨rfl, by omega⟩, (by rw [ht]; exact hP9), hD9⟩, h.2.2.2.1.F ht⟩) h.2.2.2.1.2.2 dX4_firstIn_25 hlocks
  · skip
    have i_1 : ¬ 10 ≤ i := fun h9 => c_1 ((nI_leI (a := 10) (b := i) (by omega) (by omega)).mpr h9)
    refine lv_iload_n hx hb dX4_firstIn_8 rfl (lv_at hl 0 rfl) ?_
    refine lv_iload_n hx hb dX4_firstIn_9 rfl (lv_at hl 2 rfl) ?_
    refine kc_i (wc := []) (wr := []) h (va_runSN (As := [.int (nI m9), .int (nI i)]) (rest := []) E (c_isInN l dC dI _  (m9 := m9) (i9 := i) (hm := hm) (hi := (by omega))) ⟨va_cnB 2 E.2.2.2.2 gX4_firstIn_X7_isIn_n69 rfl rfl rfl hN4_69 (E.2.2.2.2 _ (List.mem_of_getElem? (i := 2) rfl)) (by decide +kernel) ⟨Nat.le_of_ble_eq_true rfl, Nat.le_of_ble_eq_true rfl⟩, E.2.2.2.2 _ (List.mem_of_getElem? (i := 1) rfl), trivial⟩ (kPreS h KX_true (fun _ _ _ => trivial) [] [] (by decide) rfl rfl) rfl rfl hl.1 rfl (lv_room (Nat.le_of_ble_eq_true rfl)) dX4_firstIn_10 ⟨Nat.le_of_ble_eq_true rfl, Nat.le_of_ble_eq_true rfl⟩) [] [] rfl rfl (by decide) (by decide) (fun r_2 u_2 H locs hw_2 h => ?_)
    have h : KS (dC, dI) A [] [] s H locs := h
    have hw_2 : r_2 = if m9.testBit i = true then 1 else 0 := by first | exact hw_2 | (simp only [Int32.toInt_toInt64] at hw_2; exact hw_2)
    refine W.eq (g2 := F0 m 13 ls [.int r_2]) rfl ?_
    refine lv_if_eq (tgt := 18) hx hb dX4_firstIn_13 (by decide) (fun c_3 => ?_) (fun c_3 => ?_)
    · skip
      have b_3 := kb0 hw_2 c_3
      refine lv_iinc (v := nI (i + 1)) (lv' := [(2, .int (nI (i + 1))), (0, .int (nI m9)), (1, .int (nI i9))]) hx hb dX4_firstIn_18 hl (k := 2) rfl (nI_1 i) (by decide) rfl (fun ls hl => ?_)
      refine lv_goto (tgt := 2) hx hb dX4_firstIn_21 (by decide) ?_
      exact ih2 (10 - (i + 1)) (i + 1) _ _ _ (by omega) ⟨by omega, rfl⟩ h (lv_sub hl [1, 2, 0] rfl)
    · skip
      have b_3 := kb1 hw_2 c_3
      refine lv_iload_n hx hb dX4_firstIn_16 rfl (lv_at hl 2 rfl) ?_
      have hP9 := h.2.1.sub [] rfl
      have hD9 := h.2.2.1.sub (ws' := []) [] (by decide) rfl
      exact W.iret (v := nI i) hx hb hr (fun t ht hW => ⟨⟨nI i, i, rfl, ⟨rfl, by omega⟩, (by rw [ht]; exact hP9), hD9⟩, h.2.2.2.1.F ht⟩) h.2.2.2.1.2.2 dX4_firstIn_17 hlocks
set_option maxHeartbeats 4000000 in
set_option maxRecDepth 100000 in
theorem c_X4_hasSameActs (l : Launch) (dC : Nat → ClassId) (dI : Nat → Nat → Nat) (sz : Nat) (o4 : Nat) (v4_0 : Int32) (v4_1 : Int32) (a4_2 : Nat) (a4_3 : Nat) (a4_4 : Nat) (a4_5 : Nat) (a4_6 : Nat) (o5 : Nat) (o3 : Nat) (c4_2 : ClassId) (c4_3 : ClassId) (a5_0 : Nat) (a5_1 : Nat) (a5_2 : Nat) (a5_3 : Nat) (a5_4 : Nat) (a5_5 : Nat) (a5_6 : Nat) (c5_1 : ClassId) (f5_1 : Nat → Int32) (c5_2 : ClassId) (f5_2 : Nat → Int32) (c5_3 : ClassId) (f5_3 : Nat → Int32) (c5_4 : ClassId) (f5_4 : Nat → Int32) (ow : Nat → Nat) (sA : Nat → Nat) (pl : Nat) (i9 : Nat) (st9 : Nat) (hp : (pl < 120 ∧ i9 < 12) ∧ st9 < 1024) (hs : ow pl < 12 ∧ sA pl < 1024) : Met l yX4_hasSameActs wsX4_hasSameActs ({ frames := 2, cells := 0, slots := 0, locals := 43 } : Room) (va_Pc [.ref o4, .int (nI pl), .int (nI i9), .int (nI st9)] (KPre (dC, dI) [(o4, .inr (4, [.int v4_0, .int v4_1, .ref a4_2, .ref a4_3, .ref a4_4, .ref a4_5, .ref a4_6, .ref o5, .ref o3])), (a4_2, .inl (c4_2, 120, .inl (fun j => nI (ow j)))), (a4_3, .inl (c4_3, 120, .inl (fun j => nI (sA j)))), (o5, .inr (5, [.ref a5_0, .ref a5_1, .ref a5_2, .ref a5_3, .ref a5_4, .ref a5_5, .ref a5_6])), (a5_1, .inl (c5_1, 120, .inl f5_1)), (a5_2, .inl (c5_2, 120, .inl f5_2)), (a5_3, .inl (c5_3, 120, .inl f5_3)), (a5_4, .inl (c5_4, 120, .inl f5_4))] [(c4_2, .int), (c4_3, .int), (c5_1, .int), (c5_2, .int), (c5_3, .int), (c5_4, .int)] sz (fun U => KAll (va_A [(o4, .inr (4, [.int v4_0, .int v4_1, .ref a4_2, .ref a4_3, .ref a4_4, .ref a4_5, .ref a4_6, .ref o5, .ref o3])), (a4_2, .inl (c4_2, 120, .inl (fun j => nI (ow j)))), (a4_3, .inl (c4_3, 120, .inl (fun j => nI (sA j)))), (o5, .inr (5, [.ref a5_0, .ref a5_1, .ref a5_2, .ref a5_3, .ref a5_4, .ref a5_5, .ref a5_6])), (a5_1, .inl (c5_1, 120, .inl f5_1)), (a5_2, .inl (c5_2, 120, .inl f5_2)), (a5_3, .inl (c5_3, 120, .inl f5_3)), (a5_4, .inl (c5_4, 120, .inl f5_4))] sz) U))) (va_Qi (fun (r : Int32) (u : Unit) => True) (KPost (dC, dI) (va_A [(o4, .inr (4, [.int v4_0, .int v4_1, .ref a4_2, .ref a4_3, .ref a4_4, .ref a4_5, .ref a4_6, .ref o5, .ref o3])), (a4_2, .inl (c4_2, 120, .inl (fun j => nI (ow j)))), (a4_3, .inl (c4_3, 120, .inl (fun j => nI (sA j)))), (o5, .inr (5, [.ref a5_0, .ref a5_1, .ref a5_2, .ref a5_3, .ref a5_4, .ref a5_5, .ref a5_6])), (a5_1, .inl (c5_1, 120, .inl f5_1)), (a5_2, .inl (c5_2, 120, .inl f5_2)), (a5_3, .inl (c5_3, 120, .inl f5_3)), (a5_4, .inl (c5_4, 120, .inl f5_4))] sz) (fun (u : Unit) => [(o4, .inr (4, [.int v4_0, .int v4_1, .ref a4_2, .ref a4_3, .ref a4_4, .ref a4_5, .ref a4_6, .ref o5, .ref o3])), (a4_2, .inl (c4_2, 120, .inl (fun j => nI (ow j)))), (a4_3, .inl (c4_3, 120, .inl (fun j => nI (sA j)))), (o5, .inr (5, [.ref a5_0, .ref a5_1, .ref a5_2, .ref a5_3, .ref a5_4, .ref a5_5, .ref a5_6])), (a5_1, .inl (c5_1, 120, .inl f5_1)), (a5_2, .inl (c5_2, 120, .inl f5_2)), (a5_3, .inl (c5_3, 120, .inl f5_3)), (a5_4, .inl (c5_4, 120, .inl f5_4))])) (va_A [(o4, .inr (4, [.int v4_0, .int v4_1, .ref a4_2, .ref a4_3, .ref a4_4, .ref a4_5, .ref a4_6, .ref o5, .ref o3])), (a4_2, .inl (c4_2, 120, .inl (fun j => nI (ow j)))), (a4_3, .inl (c4_3, 120, .inl (fun j => nI (sA j)))), (o5, .inr (5, [.ref a5_0, .ref a5_1, .ref a5_2, .ref a5_3, .ref a5_4, .ref a5_5, .ref a5_6])), (a5_1, .inl (c5_1, 120, .inl f5_1)), (a5_2, .inl (c5_2, 120, .inl f5_2)), (a5_3, .inl (c5_3, 120, .inl f5_3)), (a5_4, .inl (c5_4, 120, .inl f5_4))] sz)) 0 0 (va_A [(o4, .inr (4, [.int v4_0, .int v4_1, .ref a4_2, .ref a4_3, .ref a4_4, .ref a4_5, .ref a4_6, .ref o5, .ref o3])), (a4_2, .inl (c4_2, 120, .inl (fun j => nI (ow j)))), (a4_3, .inl (c4_3, 120, .inl (fun j => nI (sA j)))), (o5, .inr (5, [.ref a5_0, .ref a5_1, .ref a5_2, .ref a5_3, .ref a5_4, .ref a5_5, .ref a5_6])), (a5_1, .inl (c5_1, 120, .inl f5_1)), (a5_2, .inl (c5_2, 120, .inl f5_2)), (a5_3, .inl (c5_3, 120, .inl f5_3)), (a5_4, .inl (c5_4, 120, .inl f5_4))] sz) := by
  refine kMet (y := yX4_hasSameActs) (wsM := wsX4_hasSameActs) (cc := cX4_hasSameActs) (maxL := 7) (ret := (some .boolean)) (rm := ({ frames := 2, cells := 0, slots := 0, locals := 43 } : Room)) (mc := 0) (ms := 0) (av := [.ref o4, .int (nI pl), .int (nI i9), .int (nI st9)]) (D := (dC, dI)) (wc := [(o4, .inr (4, [.int v4_0, .int v4_1, .ref a4_2, .ref a4_3, .ref a4_4, .ref a4_5, .ref a4_6, .ref o5, .ref o3])), (a4_2, .inl (c4_2, 120, .inl (fun j => nI (ow j)))), (a4_3, .inl (c4_3, 120, .inl (fun j => nI (sA j)))), (o5, .inr (5, [.ref a5_0, .ref a5_1, .ref a5_2, .ref a5_3, .ref a5_4, .ref a5_5, .ref a5_6])), (a5_1, .inl (c5_1, 120, .inl f5_1)), (a5_2, .inl (c5_2, 120, .inl f5_2)), (a5_3, .inl (c5_3, 120, .inl f5_3)), (a5_4, .inl (c5_4, 120, .inl f5_4))]) (tc := [(c4_2, .int), (c4_3, .int), (c5_1, .int), (c5_2, .int), (c5_3, .int), (c5_4, .int)]) (sz := sz) (X := fun U => KAll (va_A [(o4, .inr (4, [.int v4_0, .int v4_1, .ref a4_2, .ref a4_3, .ref a4_4, .ref a4_5, .ref a4_6, .ref o5, .ref o3])), (a4_2, .inl (c4_2, 120, .inl (fun j => nI (ow j)))), (a4_3, .inl (c4_3, 120, .inl (fun j => nI (sA j)))), (o5, .inr (5, [.ref a5_0, .ref a5_1, .ref a5_2, .ref a5_3, .ref a5_4, .ref a5_5, .ref a5_6])), (a5_1, .inl (c5_1, 120, .inl f5_1)), (a5_2, .inl (c5_2, 120, .inl f5_2)), (a5_3, .inl (c5_3, 120, .inl f5_3)), (a5_4, .inl (c5_4, 120, .inl f5_4))] sz) U) (Qc := fun A => va_Qi (fun (r : Int32) (u : Unit) => True) (KPost (dC, dI) A (fun (u : Unit) => [(o4, .inr (4, [.int v4_0, .int v4_1, .ref a4_2, .ref a4_3, .ref a4_4, .ref a4_5, .ref a4_6, .ref o5, .ref o3])), (a4_2, .inl (c4_2, 120, .inl (fun j => nI (ow j)))), (a4_3, .inl (c4_3, 120, .inl (fun j => nI (sA j)))), (o5, .inr (5, [.ref a5_0, .ref a5_1, .ref a5_2, .ref a5_3, .ref a5_4, .ref a5_5, .ref a5_6])), (a5_1, .inl (c5_1, 120, .inl f5_1)), (a5_2, .inl (c5_2, 120, .inl f5_2)), (a5_3, .inl (c5_3, 120, .inl f5_3)), (a5_4, .inl (c5_4, 120, .inl f5_4))])) A) (by decide) rfl (Nat.le_of_ble_eq_true rfl) ?_
  intro p e s m below meth c A ls E hr hlocks hnm hsz hAe hX h hl
  have hx := E.1
  have hb := E.2.1
  have hl : lv_has ls 7 [(0, .ref o4), (1, .int (nI pl)), (2, .int (nI i9)), (3, .int (nI st9))] := hl
  have hX : KAll A s := by rw [← hAe]; exact hX
  obtain ⟨⟨tD, hZD, hTD⟩, ⟨tX, hZX, hTX⟩, ⟨tY, hZY, hTY⟩, ⟨tP, hZP, hTP⟩, ⟨tL, hZL, hTL⟩, ⟨tM, hZM, hTM⟩, hN0_134, hN0_60, hN0_96, hN1_83, hN1_87, hN3_49, hN3_52, hN4_44, hN4_69, hN5_33, hN6_102, hN6_67, hF37, hF40, hF50, hF53⟩ := id hX
  refine lv_aload_n hx hb dX4_hasSameActs_0 rfl (lv_at hl 0 rfl) ?_
  refine k_get (v := .ref a4_3) E h (fun w h => List.mem_cons_of_mem _ (List.mem_append_left _ (List.mem_append_right _ h))) 0 rfl rfl 3 (by decide) (List.mem_of_getElem? (i := 1) rfl) rfl dX4_hasSameActs_1 ?_
  refine lv_iload_n hx hb dX4_hasSameActs_4 rfl (lv_at hl 1 rfl) ?_
  refine k_iald (v := nI (sA pl)) E h 2 1 rfl rfl (vp_in_nI (by omega) (by omega)) (by rw [nI_clamp (by omega)]) dX4_hasSameActs_5 ?_
  refine lv_istore (lv' := [(4, .int (nI (sA pl))), (0, .ref o4), (1, .int (nI pl)), (2, .int (nI i9)), (3, .int (nI st9))]) hx hb dX4_hasSameActs_6 hl (by decide) rfl (fun ls hl => ?_)
  refine lv_iload hx hb dX4_hasSameActs_8 (lv_at hl 0 rfl) ?_
  refine kc_i (wc := []) (wr := [(o4, .inr (4, [.int v4_0, .int v4_1, .ref a4_2, .ref a4_3, .ref a4_4, .ref a4_5, .ref a4_6, .ref o5, .ref o3])), (a4_2, .inl (c4_2, 120, .inl (fun j => nI (ow j)))), (a4_3, .inl (c4_3, 120, .inl (fun j => nI (sA j)))), (o5, .inr (5, [.ref a5_0, .ref a5_1, .ref a5_2, .ref a5_3, .ref a5_4, .ref a5_5, .ref a5_6])), (a5_1, .inl (c5_1, 120, .inl f5_1)), (a5_2, .inl (c5_2, 120, .inl f5_2)), (a5_3, .inl (c5_3, 120, .inl f5_3)), (a5_4, .inl (c5_4, 120, .inl f5_4))]) h (va_runS (As := [.int (nI (sA pl))]) (rest := []) E (c_bitcN l dC dI _  (m9 := (sA pl)) (hm := hs.2)) (va_cwS 1 E.2.2.2.2 gX4_hasSameActs_J6_bitCount_0f7a4 rfl rfl rfl (by decide +kernel) ⟨Nat.le_of_ble_eq_true rfl, Nat.le_of_ble_eq_true rfl⟩) (kPreS h KX_true (fun _ _ _ => trivial) [] [] (by decide) rfl rfl) rfl rfl hl.1 rfl (lv_room (Nat.le_of_ble_eq_true rfl)) dX4_hasSameActs_10 ⟨Nat.le_of_ble_eq_true rfl, Nat.le_of_ble_eq_true rfl⟩) [] [0, 1, 2, 3, 4, 5, 6, 7] rfl rfl (by decide) (by decide) (fun r_1 u_1 H locs hw_1 h => ?_)
  have h : KS (dC, dI) A [(o4, .inr (4, [.int v4_0, .int v4_1, .ref a4_2, .ref a4_3, .ref a4_4, .ref a4_5, .ref a4_6, .ref o5, .ref o3])), (a4_2, .inl (c4_2, 120, .inl (fun j => nI (ow j)))), (a4_3, .inl (c4_3, 120, .inl (fun j => nI (sA j)))), (o5, .inr (5, [.ref a5_0, .ref a5_1, .ref a5_2, .ref a5_3, .ref a5_4, .ref a5_5, .ref a5_6])), (a5_1, .inl (c5_1, 120, .inl f5_1)), (a5_2, .inl (c5_2, 120, .inl f5_2)), (a5_3, .inl (c5_3, 120, .inl f5_3)), (a5_4, .inl (c5_4, 120, .inl f5_4))] [(c4_2, .int), (c4_3, .int), (c5_1, .int), (c5_2, .int), (c5_3, .int), (c5_4, .int)] s H locs := h
  have hw_1 : r_1 = nI (mCnt (sA pl) 10) := by first | exact hw_1 | (simp only [Int32.toInt_toInt64] at hw_1; exact hw_1)
  refine k_topi (y := nI (mCnt (sA pl) 10)) (hw_1) ?_
  refine W.eq (g2 := F0 m 13 ls [.int (nI (mCnt (sA pl) 10))]) rfl ?_
  refine lv_iload_n hx hb dX4_hasSameActs_13 rfl (lv_at hl 4 rfl) ?_
  refine kc_i (wc := []) (wr := [(o4, .inr (4, [.int v4_0, .int v4_1, .ref a4_2, .ref a4_3, .ref a4_4, .ref a4_5, .ref a4_6, .ref o5, .ref o3])), (a4_2, .inl (c4_2, 120, .inl (fun j => nI (ow j)))), (a4_3, .inl (c4_3, 120, .inl (fun j => nI (sA j)))), (o5, .inr (5, [.ref a5_0, .ref a5_1, .ref a5_2, .ref a5_3, .ref a5_4, .ref a5_5, .ref a5_6])), (a5_1, .inl (c5_1, 120, .inl f5_1)), (a5_2, .inl (c5_2, 120, .inl f5_2)), (a5_3, .inl (c5_3, 120, .inl f5_3)), (a5_4, .inl (c5_4, 120, .inl f5_4))]) h (va_runS (As := [.int (nI st9)]) (rest := [.int (nI (mCnt (sA pl) 10))]) E (c_bitcN l dC dI _  (m9 := st9) (hm := hp.2)) (va_cwS 1 E.2.2.2.2 gX4_hasSameActs_J6_bitCount_0f7a4 rfl rfl rfl (by decide +kernel) ⟨Nat.le_of_ble_eq_true rfl, Nat.le_of_ble_eq_true rfl⟩) (kPreS h KX_true (fun _ _ _ => trivial) [] [] (by decide) rfl rfl) rfl rfl hl.1 rfl (lv_room (Nat.le_of_ble_eq_true rfl)) dX4_hasSameActs_14 ⟨Nat.le_of_ble_eq_true rfl, Nat.le_of_ble_eq_true rfl⟩) [] [0, 1, 2, 3, 4, 5, 6, 7] rfl rfl (by decide) (by decide) (fun r_2 u_2 H locs hw_2 h => ?_)
  have h : KS (dC, dI) A [(o4, .inr (4, [.int v4_0, .int v4_1, .ref a4_2, .ref a4_3, .ref a4_4, .ref a4_5, .ref a4_6, .ref o5, .ref o3])), (a4_2, .inl (c4_2, 120, .inl (fun j => nI (ow j)))), (a4_3, .inl (c4_3, 120, .inl (fun j => nI (sA j)))), (o5, .inr (5, [.ref a5_0, .ref a5_1, .ref a5_2, .ref a5_3, .ref a5_4, .ref a5_5, .ref a5_6])), (a5_1, .inl (c5_1, 120, .inl f5_1)), (a5_2, .inl (c5_2, 120, .inl f5_2)), (a5_3, .inl (c5_3, 120, .inl f5_3)), (a5_4, .inl (c5_4, 120, .inl f5_4))] [(c4_2, .int), (c4_3, .int), (c5_1, .int), (c5_2, .int), (c5_3, .int), (c5_4, .int)] s H locs := h
  have hw_2 : r_2 = nI (mCnt st9 10) := by first | exact hw_2 | (simp only [Int32.toInt_toInt64] at hw_2; exact hw_2)
  refine k_topi (y := nI (mCnt st9 10)) (hw_2) ?_
  refine W.eq (g2 := F0 m 17 ls [.int (nI (mCnt st9 10)), .int (nI (mCnt (sA pl) 10))]) rfl ?_
  have hm1 := mCnt_le (sA pl) 10
  have hm2 := mCnt_le st9 10
  refine lv_icmp_eq (tgt := 22) hx hb dX4_hasSameActs_17 (by decide) (fun c_3 => ?_) (fun c_3 => ?_)
  · skip
    have i_3 : (mCnt (sA pl) 10) = (mCnt st9 10) := (nI_eq (a := (mCnt (sA pl) 10)) (b := (mCnt st9 10)) (by omega) (by omega)).mp c_3
    refine lv_iconst (v := 0) hx hb dX4_hasSameActs_22 (by decide) ?_
    refine lv_istore (lv' := [(5, .int 0), (4, .int (nI (sA pl))), (0, .ref o4), (1, .int (nI pl)), (2, .int (nI i9)), (3, .int (nI st9))]) hx hb dX4_hasSameActs_23 hl (by decide) rfl (fun ls hl => ?_)
    refine lv_iconst (v := 0) hx hb dX4_hasSameActs_25 (by decide) ?_
    refine lv_istore (lv' := [(6, .int 0), (5, .int 0), (4, .int (nI (sA pl))), (0, .ref o4), (1, .int (nI pl)), (2, .int (nI i9)), (3, .int (nI st9))]) hx hb dX4_hasSameActs_26 hl (by decide) rfl (fun ls hl => ?_)
    refine k_loop (σ := Nat × Nat) (fun x9 => [(o4, .inr (4, [.int v4_0, .int v4_1, .ref a4_2, .ref a4_3, .ref a4_4, .ref a4_5, .ref a4_6, .ref o5, .ref o3])), (a4_2, .inl (c4_2, 120, .inl (fun j => nI (ow j)))), (a4_3, .inl (c4_3, 120, .inl (fun j => nI (sA j)))), (o5, .inr (5, [.ref a5_0, .ref a5_1, .ref a5_2, .ref a5_3, .ref a5_4, .ref a5_5, .ref a5_6])), (a5_1, .inl (c5_1, 120, .inl f5_1)), (a5_2, .inl (c5_2, 120, .inl f5_2)), (a5_3, .inl (c5_3, 120, .inl f5_3)), (a5_4, .inl (c5_4, 120, .inl f5_4))]) (fun x9 => [(0, .ref o4), (1, .int (nI pl)), (2, .int (nI i9)), (3, .int (nI st9)), (4, .int (nI (sA pl))), (5, .int (nI x9.2)), (6, .int (nI x9.1))]) (fun n9 x9 => x9.1 ≤ 10 ∧ n9 = 10 - x9.1 ∧ x9.2 ≤ 10) ?_ (10 - 0) (0, 0) ⟨Nat.zero_le _, rfl, Nat.zero_le _⟩ h (lv_sub hl [3, 4, 5, 6, 2, 1, 0] rfl)
    intro n9 x9 H locs ls hI h hl ih28
    obtain ⟨i, j9⟩ := x9
    have hI : i ≤ 10 ∧ n9 = 10 - i ∧ j9 ≤ 10 := hI
    have h : KS (dC, dI) A [(o4, .inr (4, [.int v4_0, .int v4_1, .ref a4_2, .ref a4_3, .ref a4_4, .ref a4_5, .ref a4_6, .ref o5, .ref o3])), (a4_2, .inl (c4_2, 120, .inl (fun j => nI (ow j)))), (a4_3, .inl (c4_3, 120, .inl (fun j => nI (sA j)))), (o5, .inr (5, [.ref a5_0, .ref a5_1, .ref a5_2, .ref a5_3, .ref a5_4, .ref a5_5, .ref a5_6])), (a5_1, .inl (c5_1, 120, .inl f5_1)), (a5_2, .inl (c5_2, 120, .inl f5_2)), (a5_3, .inl (c5_3, 120, .inl f5_3)), (a5_4, .inl (c5_4, 120, .inl f5_4))] [(c4_2, .int), (c4_3, .int), (c5_1, .int), (c5_2, .int), (c5_3, .int), (c5_4, .int)] s H locs := h
    have hl : lv_has ls 7 [(0, .ref o4), (1, .int (nI pl)), (2, .int (nI i9)), (3, .int (nI st9)), (4, .int (nI (sA pl))), (5, .int (nI j9)), (6, .int (nI i))] := hl
    obtain ⟨hi1, hi2, hi3⟩ := hI
    refine lv_iload hx hb dX4_hasSameActs_28 (lv_at hl 6 rfl) ?_
    refine lv_bipush (v := 10) hx hb dX4_hasSameActs_30 (by decide) ?_
    refine lv_icmp_ge (tgt := 91) hx hb dX4_hasSameActs_32 (by decide) (fun c_4 => ?_) (fun c_4 => ?_)
    · skip
      have i_4 : 10 ≤ i := (nI_leI (a := 10) (b := i) (by omega) (by omega)).mp c_4
      refine lv_iconst (v := 1) hx hb dX4_hasSameActs_91 (by decide) ?_
      have hP9 := h.2.1.sub [0, 1, 2, 3, 4, 5, 6, 7] rfl
      have hD9 := h.2.2.1.sub (ws' := [(o4, .inr (4, [.int v4_0, .int v4_1, .ref a4_2, .ref a4_3, .ref a4_4, .ref a4_5, .ref a4_6, .ref o5, .ref o3])), (a4_2, .inl (c4_2, 120, .inl (fun j => nI (ow j)))), (a4_3, .inl (c4_3, 120, .inl (fun j => nI (sA j)))), (o5, .inr (5, [.ref a5_0, .ref a5_1, .ref a5_2, .ref a5_3, .ref a5_4, .ref a5_5, .ref a5_6])), (a5_1, .inl (c5_1, 120, .inl f5_1)), (a5_2, .inl (c5_2, 120, .inl f5_2)), (a5_3, .inl (c5_3, 120, .inl f5_3)), (a5_4, .inl (c5_4, 120, .inl f5_4))]) [0, 1, 2, 3, 4, 5, 6, 7] (by decide) rfl
      exact W.zret (v := 1) hx hb hr (by decide) (fun t ht hW => ⟨⟨1, (), rfl, trivial, (by rw [ht]; exact hP9), hD9⟩, h.2.2.2.1.F ht⟩) h.2.2.2.1.2.2 dX4_hasSameActs_92 hlocks
    · skip
      have i_4 : ¬ 10 ≤ i := fun h9 => c_4 ((nI_leI (a := 10) (b := i) (by omega) (by omega)).mpr h9)
      refine lv_iload_n hx hb dX4_hasSameActs_35 rfl (lv_at hl 3 rfl) ?_
      refine lv_iload hx hb dX4_hasSameActs_36 (lv_at hl 6 rfl) ?_
      refine kc_i (wc := []) (wr := [(o4, .inr (4, [.int v4_0, .int v4_1, .ref a4_2, .ref a4_3, .ref a4_4, .ref a4_5, .ref a4_6, .ref o5, .ref o3])), (a4_2, .inl (c4_2, 120, .inl (fun j => nI (ow j)))), (a4_3, .inl (c4_3, 120, .inl (fun j => nI (sA j)))), (o5, .inr (5, [.ref a5_0, .ref a5_1, .ref a5_2, .ref a5_3, .ref a5_4, .ref a5_5, .ref a5_6])), (a5_1, .inl (c5_1, 120, .inl f5_1)), (a5_2, .inl (c5_2, 120, .inl f5_2)), (a5_3, .inl (c5_3, 120, .inl f5_3)), (a5_4, .inl (c5_4, 120, .inl f5_4))]) h (va_runSN (As := [.int (nI st9), .int (nI i)]) (rest := []) E (c_isInN l dC dI _  (m9 := st9) (i9 := i) (hm := (by omega)) (hi := (by omega))) ⟨va_cnB 2 E.2.2.2.2 gX4_hasSameActs_X7_isIn_n69 rfl rfl rfl hN4_69 (E.2.2.2.2 _ (List.mem_of_getElem? (i := 12) rfl)) (by decide +kernel) ⟨Nat.le_of_ble_eq_true rfl, Nat.le_of_ble_eq_true rfl⟩, E.2.2.2.2 _ (List.mem_of_getElem? (i := 11) rfl), trivial⟩ (kPreS h KX_true (fun _ _ _ => trivial) [] [] (by decide) rfl rfl) rfl rfl hl.1 rfl (lv_room (Nat.le_of_ble_eq_true rfl)) dX4_hasSameActs_38 ⟨Nat.le_of_ble_eq_true rfl, Nat.le_of_ble_eq_true rfl⟩) [] [0, 1, 2, 3, 4, 5, 6, 7] rfl rfl (by decide) (by decide) (fun r_5 u_5 H locs hw_5 h => ?_)
      have h : KS (dC, dI) A [(o4, .inr (4, [.int v4_0, .int v4_1, .ref a4_2, .ref a4_3, .ref a4_4, .ref a4_5, .ref a4_6, .ref o5, .ref o3])), (a4_2, .inl (c4_2, 120, .inl (fun j => nI (ow j)))), (a4_3, .inl (c4_3, 120, .inl (fun j => nI (sA j)))), (o5, .inr (5, [.ref a5_0, .ref a5_1, .ref a5_2, .ref a5_3, .ref a5_4, .ref a5_5, .ref a5_6])), (a5_1, .inl (c5_1, 120, .inl f5_1)), (a5_2, .inl (c5_2, 120, .inl f5_2)), (a5_3, .inl (c5_3, 120, .inl f5_3)), (a5_4, .inl (c5_4, 120, .inl f5_4))] [(c4_2, .int), (c4_3, .int), (c5_1, .int), (c5_2, .int), (c5_3, .int), (c5_4, .int)] s H locs := h
      have hw_5 : r_5 = if st9.testBit i = true then 1 else 0 := by first | exact hw_5 | (simp only [Int32.toInt_toInt64] at hw_5; exact hw_5)
      refine W.eq (g2 := F0 m 41 ls [.int r_5]) rfl ?_
      refine lv_if_eq (tgt := 85) hx hb dX4_hasSameActs_41 (by decide) (fun c_6 => ?_) (fun c_6 => ?_)
      · skip
        have b_6 := kb0 hw_5 c_6
        refine lv_iinc (v := nI (i + 1)) (lv' := [(6, .int (nI (i + 1))), (0, .ref o4), (1, .int (nI pl)), (2, .int (nI i9)), (3, .int (nI st9)), (4, .int (nI (sA pl))), (5, .int (nI j9))]) hx hb dX4_hasSameActs_85 hl (k := 6) rfl (nI_1 i) (by decide) rfl (fun ls hl => ?_)
        refine lv_goto (tgt := 28) hx hb dX4_hasSameActs_88 (by decide) ?_
        exact ih28 (10 - (i + 1)) (i + 1, j9) _ _ _ (by omega) ⟨by omega, rfl, by omega⟩ h (lv_sub hl [1, 2, 3, 4, 5, 6, 0] rfl)
      · skip
        have b_6 := kb1 hw_5 c_6
        refine lv_iload hx hb dX4_hasSameActs_44 (lv_at hl 4 rfl) ?_
        refine lv_iload hx hb dX4_hasSameActs_46 (lv_at hl 5 rfl) ?_
        refine kc_i (wc := []) (wr := [(o4, .inr (4, [.int v4_0, .int v4_1, .ref a4_2, .ref a4_3, .ref a4_4, .ref a4_5, .ref a4_6, .ref o5, .ref o3])), (a4_2, .inl (c4_2, 120, .inl (fun j => nI (ow j)))), (a4_3, .inl (c4_3, 120, .inl (fun j => nI (sA j)))), (o5, .inr (5, [.ref a5_0, .ref a5_1, .ref a5_2, .ref a5_3, .ref a5_4, .ref a5_5, .ref a5_6])), (a5_1, .inl (c5_1, 120, .inl f5_1)), (a5_2, .inl (c5_2, 120, .inl f5_2)), (a5_3, .inl (c5_3, 120, .inl f5_3)), (a5_4, .inl (c5_4, 120, .inl f5_4))]) h (va_runS (As := [.int (nI (sA pl)), .int (nI j9)]) (rest := []) E (c_X4_firstIn l dC dI _  (m9 := (sA pl)) (i9 := j9) (hm := (by omega)) (hi := (by omega))) (va_cwS 2 E.2.2.2.2 gX4_hasSameActs_X4_firstIn rfl rfl rfl (by decide +kernel) ⟨Nat.le_of_ble_eq_true rfl, Nat.le_of_ble_eq_true rfl⟩) (kPreS h KAll.blind (KAll.call hX h [] rfl) [] [] (by decide) rfl rfl) rfl rfl hl.1 rfl (lv_room (Nat.le_of_ble_eq_true rfl)) dX4_hasSameActs_48 ⟨Nat.le_of_ble_eq_true rfl, Nat.le_of_ble_eq_true rfl⟩) [] [0, 1, 2, 3, 4, 5, 6, 7] rfl rfl (by decide) (by decide) (fun r_7 u_7 H locs hw_7 h => ?_)
        obtain ⟨g9, rfl⟩ : ∃ z, z = u_7 := ⟨_, rfl⟩
        have h : KS (dC, dI) A [(o4, .inr (4, [.int v4_0, .int v4_1, .ref a4_2, .ref a4_3, .ref a4_4, .ref a4_5, .ref a4_6, .ref o5, .ref o3])), (a4_2, .inl (c4_2, 120, .inl (fun j => nI (ow j)))), (a4_3, .inl (c4_3, 120, .inl (fun j => nI (sA j)))), (o5, .inr (5, [.ref a5_0, .ref a5_1, .ref a5_2, .ref a5_3, .ref a5_4, .ref a5_5, .ref a5_6])), (a5_1, .inl (c5_1, 120, .inl f5_1)), (a5_2, .inl (c5_2, 120, .inl f5_2)), (a5_3, .inl (c5_3, 120, .inl f5_3)), (a5_4, .inl (c5_4, 120, .inl f5_4))] [(c4_2, .int), (c4_3, .int), (c5_1, .int), (c5_2, .int), (c5_3, .int), (c5_4, .int)] s H locs := h
        have hw_7 : r_7 = nI g9 ∧ g9 < 10 := by first | exact hw_7 | (simp only [Int32.toInt_toInt64] at hw_7; exact hw_7)
        refine k_topi (y := nI g9) (hw_7.1) ?_
        have hg9 := hw_7.2
        refine W.eq (g2 := F0 m 51 ls [.int (nI g9)]) rfl ?_
        refine lv_istore (lv' := [(5, .int (nI g9)), (0, .ref o4), (1, .int (nI pl)), (2, .int (nI i9)), (3, .int (nI st9)), (4, .int (nI (sA pl))), (6, .int (nI i))]) hx hb dX4_hasSameActs_51 hl (by decide) rfl (fun ls hl => ?_)
        refine lv_aload_n hx hb dX4_hasSameActs_53 rfl (lv_at hl 1 rfl) ?_
        refine k_get (v := .ref o5) E h (fun w h => List.mem_cons_of_mem _ (List.mem_append_left _ (List.mem_append_right _ h))) 0 rfl rfl 7 (by decide) (List.mem_of_getElem? (i := 2) rfl) rfl dX4_hasSameActs_54 ?_
        refine lv_iload_n hx hb dX4_hasSameActs_57 rfl (lv_at hl 3 rfl) ?_
        refine lv_iload hx hb dX4_hasSameActs_58 (lv_at hl 6 rfl) ?_
        refine kc_i (wc := []) (wr := [(o4, .inr (4, [.int v4_0, .int v4_1, .ref a4_2, .ref a4_3, .ref a4_4, .ref a4_5, .ref a4_6, .ref o5, .ref o3])), (a4_2, .inl (c4_2, 120, .inl (fun j => nI (ow j)))), (a4_3, .inl (c4_3, 120, .inl (fun j => nI (sA j)))), (o5, .inr (5, [.ref a5_0, .ref a5_1, .ref a5_2, .ref a5_3, .ref a5_4, .ref a5_5, .ref a5_6])), (a5_1, .inl (c5_1, 120, .inl f5_1)), (a5_2, .inl (c5_2, 120, .inl f5_2)), (a5_3, .inl (c5_3, 120, .inl f5_3)), (a5_4, .inl (c5_4, 120, .inl f5_4))]) h (va_runSN (As := [.int (nI i9), .int (nI i)]) (rest := [.ref o5]) E (c_slotN l dC dI _  (m9 := i9) (i9 := i) ) ⟨va_cnB 2 E.2.2.2.2 gX4_hasSameActs_X7_slot_n44 rfl rfl rfl hN4_44 (E.2.2.2.2 _ (List.mem_of_getElem? (i := 12) rfl)) (by decide +kernel) ⟨Nat.le_of_ble_eq_true rfl, Nat.le_of_ble_eq_true rfl⟩, E.2.2.2.2 _ (List.mem_of_getElem? (i := 18) rfl), trivial⟩ (kPreS h KX_true (fun _ _ _ => trivial) [] [] (by decide) rfl rfl) rfl rfl hl.1 rfl (lv_room (Nat.le_of_ble_eq_true rfl)) dX4_hasSameActs_60 ⟨Nat.le_of_ble_eq_true rfl, Nat.le_of_ble_eq_true rfl⟩) [] [0, 1, 2, 3, 4, 5, 6, 7] rfl rfl (by decide) (by decide) (fun r_8 u_8 H locs hw_8 h => ?_)
        have h : KS (dC, dI) A [(o4, .inr (4, [.int v4_0, .int v4_1, .ref a4_2, .ref a4_3, .ref a4_4, .ref a4_5, .ref a4_6, .ref o5, .ref o3])), (a4_2, .inl (c4_2, 120, .inl (fun j => nI (ow j)))), (a4_3, .inl (c4_3, 120, .inl (fun j => nI (sA j)))), (o5, .inr (5, [.ref a5_0, .ref a5_1, .ref a5_2, .ref a5_3, .ref a5_4, .ref a5_5, .ref a5_6])), (a5_1, .inl (c5_1, 120, .inl f5_1)), (a5_2, .inl (c5_2, 120, .inl f5_2)), (a5_3, .inl (c5_3, 120, .inl f5_3)), (a5_4, .inl (c5_4, 120, .inl f5_4))] [(c4_2, .int), (c4_3, .int), (c5_1, .int), (c5_2, .int), (c5_3, .int), (c5_4, .int)] s H locs := h
        have hw_8 : r_8 = nI (i9 * 10 + i) := by first | exact hw_8 | (simp only [Int32.toInt_toInt64] at hw_8; exact hw_8)
        refine k_topi (y := nI (i9 * 10 + i)) (hw_8) ?_
        refine W.eq (g2 := F0 m 63 ls [.int (nI (i9 * 10 + i)), .ref o5]) rfl ?_
        refine lv_aload_n hx hb dX4_hasSameActs_63 rfl (lv_at hl 1 rfl) ?_
        refine k_get (v := .ref a4_2) E h (fun w h => List.mem_cons_of_mem _ (List.mem_append_left _ (List.mem_append_right _ h))) 0 rfl rfl 2 (by decide) (List.mem_of_getElem? (i := 3) rfl) rfl dX4_hasSameActs_64 ?_
        refine lv_iload_n hx hb dX4_hasSameActs_67 rfl (lv_at hl 2 rfl) ?_
        refine k_iald (v := nI (ow pl)) E h 1 0 rfl rfl (vp_in_nI (by omega) (by omega)) (by rw [nI_clamp (by omega)]) dX4_hasSameActs_68 ?_
        refine lv_iload hx hb dX4_hasSameActs_69 (lv_at hl 0 rfl) ?_
        refine kc_i (wc := []) (wr := [(o4, .inr (4, [.int v4_0, .int v4_1, .ref a4_2, .ref a4_3, .ref a4_4, .ref a4_5, .ref a4_6, .ref o5, .ref o3])), (a4_2, .inl (c4_2, 120, .inl (fun j => nI (ow j)))), (a4_3, .inl (c4_3, 120, .inl (fun j => nI (sA j)))), (o5, .inr (5, [.ref a5_0, .ref a5_1, .ref a5_2, .ref a5_3, .ref a5_4, .ref a5_5, .ref a5_6])), (a5_1, .inl (c5_1, 120, .inl f5_1)), (a5_2, .inl (c5_2, 120, .inl f5_2)), (a5_3, .inl (c5_3, 120, .inl f5_3)), (a5_4, .inl (c5_4, 120, .inl f5_4))]) h (va_runSN (As := [.int (nI (ow pl)), .int (nI g9)]) (rest := [.int (nI (i9 * 10 + i)), .ref o5]) E (c_slotN l dC dI _  (m9 := (ow pl)) (i9 := g9) ) ⟨va_cnB 2 E.2.2.2.2 gX4_hasSameActs_X7_slot_n44 rfl rfl rfl hN4_44 (E.2.2.2.2 _ (List.mem_of_getElem? (i := 12) rfl)) (by decide +kernel) ⟨Nat.le_of_ble_eq_true rfl, Nat.le_of_ble_eq_true rfl⟩, E.2.2.2.2 _ (List.mem_of_getElem? (i := 18) rfl), trivial⟩ (kPreS h KX_true (fun _ _ _ => trivial) [] [] (by decide) rfl rfl) rfl rfl hl.1 rfl (lv_room (Nat.le_of_ble_eq_true rfl)) dX4_hasSameActs_71 ⟨Nat.le_of_ble_eq_true rfl, Nat.le_of_ble_eq_true rfl⟩) [] [0, 1, 2, 3, 4, 5, 6, 7] rfl rfl (by decide) (by decide) (fun r_9 u_9 H locs hw_9 h => ?_)
        have h : KS (dC, dI) A [(o4, .inr (4, [.int v4_0, .int v4_1, .ref a4_2, .ref a4_3, .ref a4_4, .ref a4_5, .ref a4_6, .ref o5, .ref o3])), (a4_2, .inl (c4_2, 120, .inl (fun j => nI (ow j)))), (a4_3, .inl (c4_3, 120, .inl (fun j => nI (sA j)))), (o5, .inr (5, [.ref a5_0, .ref a5_1, .ref a5_2, .ref a5_3, .ref a5_4, .ref a5_5, .ref a5_6])), (a5_1, .inl (c5_1, 120, .inl f5_1)), (a5_2, .inl (c5_2, 120, .inl f5_2)), (a5_3, .inl (c5_3, 120, .inl f5_3)), (a5_4, .inl (c5_4, 120, .inl f5_4))] [(c4_2, .int), (c4_3, .int), (c5_1, .int), (c5_2, .int), (c5_3, .int), (c5_4, .int)] s H locs := h
        have hw_9 : r_9 = nI ((ow pl) * 10 + g9) := by first | exact hw_9 | (simp only [Int32.toInt_toInt64] at hw_9; exact hw_9)
        refine k_topi (y := nI ((ow pl) * 10 + g9)) (hw_9) ?_
        refine W.eq (g2 := F0 m 74 ls [.int (nI ((ow pl) * 10 + g9)), .int (nI (i9 * 10 + i)), .ref o5]) rfl ?_
        refine kc_i (wc := [(o5, .inr (5, [.ref a5_0, .ref a5_1, .ref a5_2, .ref a5_3, .ref a5_4, .ref a5_5, .ref a5_6])), (a5_1, .inl (c5_1, 120, .inl f5_1)), (a5_2, .inl (c5_2, 120, .inl f5_2)), (a5_3, .inl (c5_3, 120, .inl f5_3)), (a5_4, .inl (c5_4, 120, .inl f5_4))]) (wr := [(o4, .inr (4, [.int v4_0, .int v4_1, .ref a4_2, .ref a4_3, .ref a4_4, .ref a4_5, .ref a4_6, .ref o5, .ref o3])), (a4_2, .inl (c4_2, 120, .inl (fun j => nI (ow j)))), (a4_3, .inl (c4_3, 120, .inl (fun j => nI (sA j))))]) h (va_runV (As := [.int (nI (i9 * 10 + i)), .int (nI ((ow pl) * 10 + g9))]) (rest := []) E (c_sameN l dC dI _ (o5 := o5) (a5_0 := a5_0) (a5_1 := a5_1) (a5_2 := a5_2) (a5_3 := a5_3) (a5_4 := a5_4) (a5_5 := a5_5) (a5_6 := a5_6) (c5_1 := c5_1) (f5_1 := f5_1) (c5_2 := c5_2) (f5_2 := f5_2) (c5_3 := c5_3) (f5_3 := f5_3) (c5_4 := c5_4) (f5_4 := f5_4) (m9 := (i9 * 10 + i)) (i9 := ((ow pl) * 10 + g9)) (hp := ⟨by omega, by omega⟩)) (cwV 2 E.2.2.2.2 gX4_hasSameActs_X5_same rfl rfl rfl (by decide +kernel) ⟨Nat.le_of_ble_eq_true rfl, Nat.le_of_ble_eq_true rfl⟩) (kPreV (q0 := 3) (ci := 5) h KX_true (fun _ _ _ => trivial) [3, 4, 5, 6, 7] [2, 3, 4, 5] (by decide) rfl rfl rfl rfl) rfl rfl hl.1 rfl (lv_room (Nat.le_of_ble_eq_true rfl)) dX4_hasSameActs_74 ⟨Nat.le_of_ble_eq_true rfl, Nat.le_of_ble_eq_true rfl⟩) [3, 4, 5, 6, 7] [0, 1, 2] rfl rfl (by decide) (by decide) (fun r_10 u_10 H locs hw_10 h => ?_)
        have h : KS (dC, dI) A [(o4, .inr (4, [.int v4_0, .int v4_1, .ref a4_2, .ref a4_3, .ref a4_4, .ref a4_5, .ref a4_6, .ref o5, .ref o3])), (a4_2, .inl (c4_2, 120, .inl (fun j => nI (ow j)))), (a4_3, .inl (c4_3, 120, .inl (fun j => nI (sA j)))), (o5, .inr (5, [.ref a5_0, .ref a5_1, .ref a5_2, .ref a5_3, .ref a5_4, .ref a5_5, .ref a5_6])), (a5_1, .inl (c5_1, 120, .inl f5_1)), (a5_2, .inl (c5_2, 120, .inl f5_2)), (a5_3, .inl (c5_3, 120, .inl f5_3)), (a5_4, .inl (c5_4, 120, .inl f5_4))] [(c4_2, .int), (c4_3, .int), (c5_1, .int), (c5_2, .int), (c5_3, .int), (c5_4, .int)] s H locs := h
        have hw_10 : r_10 = if ((f5_1 (i9 * 10 + i)).toInt = (f5_1 ((ow pl) * 10 + g9)).toInt ∧ (f5_2 (i9 * 10 + i)).toInt = (f5_2 ((ow pl) * 10 + g9)).toInt ∧ (f5_3 (i9 * 10 + i)).toInt = (f5_3 ((ow pl) * 10 + g9)).toInt ∧ (f5_4 (i9 * 10 + i)).toInt = (f5_4 ((ow pl) * 10 + g9)).toInt) then 1 else 0 := by first | exact hw_10 | (simp only [Int32.toInt_toInt64] at hw_10; exact hw_10)
        refine W.eq (g2 := F0 m 77 ls [.int r_10]) rfl ?_
        refine lv_if_ne (tgt := 82) hx hb dX4_hasSameActs_77 (by decide) (fun c_11 => ?_) (fun c_11 => ?_)
        · skip
          have b_11 := kb1 hw_10 c_11
          refine lv_iinc (v := nI (g9 + 1)) (lv' := [(5, .int (nI (g9 + 1))), (0, .ref o4), (1, .int (nI pl)), (2, .int (nI i9)), (3, .int (nI st9)), (4, .int (nI (sA pl))), (6, .int (nI i))]) hx hb dX4_hasSameActs_82 hl (k := 0) rfl (nI_1 g9) (by decide) rfl (fun ls hl => ?_)
          refine lv_iinc (v := nI (i + 1)) (lv' := [(6, .int (nI (i + 1))), (5, .int (nI (g9 + 1))), (0, .ref o4), (1, .int (nI pl)), (2, .int (nI i9)), (3, .int (nI st9)), (4, .int (nI (sA pl)))]) hx hb dX4_hasSameActs_85 hl (k := 6) rfl (nI_1 i) (by decide) rfl (fun ls hl => ?_)
          refine lv_goto (tgt := 28) hx hb dX4_hasSameActs_88 (by decide) ?_
          exact ih28 (10 - (i + 1)) (i + 1, (g9 + 1)) _ _ _ (by omega) ⟨by omega, rfl, by omega⟩ h (lv_sub hl [2, 3, 4, 5, 6, 1, 0] rfl)
        · skip
          have b_11 := kb0 hw_10 c_11
          refine lv_iconst (v := 0) hx hb dX4_hasSameActs_80 (by decide) ?_
          have hP9 := h.2.1.sub [0, 1, 2, 3, 4, 5, 6, 7] rfl
          have hD9 := h.2.2.1.sub (ws' := [(o4, .inr (4, [.int v4_0, .int v4_1, .ref a4_2, .ref a4_3, .ref a4_4, .ref a4_5, .ref a4_6, .ref o5, .ref o3])), (a4_2, .inl (c4_2, 120, .inl (fun j => nI (ow j)))), (a4_3, .inl (c4_3, 120, .inl (fun j => nI (sA j)))), (o5, .inr (5, [.ref a5_0, .ref a5_1, .ref a5_2, .ref a5_3, .ref a5_4, .ref a5_5, .ref a5_6])), (a5_1, .inl (c5_1, 120, .inl f5_1)), (a5_2, .inl (c5_2, 120, .inl f5_2)), (a5_3, .inl (c5_3, 120, .inl f5_3)), (a5_4, .inl (c5_4, 120, .inl f5_4))]) [0, 1, 2, 3, 4, 5, 6, 7] (by decide) rfl
          exact W.zret (v := 0) hx hb hr (by decide) (fun t ht hW => ⟨⟨0, (), rfl, trivial, (by rw [ht]; exact hP9), hD9⟩, h.2.2.2.1.F ht⟩) h.2.2.2.1.2.2 dX4_hasSameActs_81 hlocks
  · skip
    have i_3 : ¬ (mCnt (sA pl) 10) = (mCnt st9 10) := fun h9 => c_3 ((nI_eq (a := (mCnt (sA pl) 10)) (b := (mCnt st9 10)) (by omega) (by omega)).mpr h9)
    refine lv_iconst (v := 0) hx hb dX4_hasSameActs_20 (by decide) ?_
    have hP9 := h.2.1.sub [0, 1, 2, 3, 4, 5, 6, 7] rfl
    have hD9 := h.2.2.1.sub (ws' := [(o4, .inr (4, [.int v4_0, .int v4_1, .ref a4_2, .ref a4_3, .ref a4_4, .ref a4_5, .ref a4_6, .ref o5, .ref o3])), (a4_2, .inl (c4_2, 120, .inl (fun j => nI (ow j)))), (a4_3, .inl (c4_3, 120, .inl (fun j => nI (sA j)))), (o5, .inr (5, [.ref a5_0, .ref a5_1, .ref a5_2, .ref a5_3, .ref a5_4, .ref a5_5, .ref a5_6])), (a5_1, .inl (c5_1, 120, .inl f5_1)), (a5_2, .inl (c5_2, 120, .inl f5_2)), (a5_3, .inl (c5_3, 120, .inl f5_3)), (a5_4, .inl (c5_4, 120, .inl f5_4))]) [0, 1, 2, 3, 4, 5, 6, 7] (by decide) rfl
    exact W.zret (v := 0) hx hb hr (by decide) (fun t ht hW => ⟨⟨0, (), rfl, trivial, (by rw [ht]; exact hP9), hD9⟩, h.2.2.2.1.F ht⟩) h.2.2.2.1.2.2 dX4_hasSameActs_21 hlocks
set_option maxHeartbeats 4000000 in
set_option maxRecDepth 100000 in
theorem c_X4_findOrAdd (l : Launch) (dC : Nat → ClassId) (dI : Nat → Nat → Nat) (sz : Nat) (o4 : Nat) (v4_0 : Int32) (a4_2 : Nat) (a4_3 : Nat) (a4_4 : Nat) (a4_5 : Nat) (a4_6 : Nat) (o5 : Nat) (o3 : Nat) (c4_2 : ClassId) (c4_3 : ClassId) (c4_4 : ClassId) (f4_4 : Nat → Int32) (c4_5 : ClassId) (f4_5 : Nat → Int32) (a5_0 : Nat) (a5_1 : Nat) (a5_2 : Nat) (a5_3 : Nat) (a5_4 : Nat) (a5_5 : Nat) (a5_6 : Nat) (c5_1 : ClassId) (f5_1 : Nat → Int32) (c5_2 : ClassId) (f5_2 : Nat → Int32) (c5_3 : ClassId) (f5_3 : Nat → Int32) (c5_4 : ClassId) (f5_4 : Nat → Int32) (p2 : Int32) (len : Nat) (ow : Nat → Nat) (sA : Nat → Nat) (i9 : Nat) (st9 : Nat) (hlen : len < 120) (hi9 : i9 < 12) (hst : st9 < 1024) (hs1 : ∀ p, p < len → ow p < 12 ∧ sA p < 1024) : Met l yX4_findOrAdd wsX4_findOrAdd ({ frames := 3, cells := 0, slots := 0, locals := 69 } : Room) (va_Pc [.ref o4, .int (nI i9), .int (nI st9), .int p2] (KPre (dC, dI) [(o4, .inr (4, [.int v4_0, .int (nI len), .ref a4_2, .ref a4_3, .ref a4_4, .ref a4_5, .ref a4_6, .ref o5, .ref o3])), (a4_2, .inl (c4_2, 120, .inl (fun j => nI (ow j)))), (a4_3, .inl (c4_3, 120, .inl (fun j => nI (sA j)))), (a4_4, .inl (c4_4, 120, .inl f4_4)), (a4_5, .inl (c4_5, 120, .inl f4_5)), (o5, .inr (5, [.ref a5_0, .ref a5_1, .ref a5_2, .ref a5_3, .ref a5_4, .ref a5_5, .ref a5_6])), (a5_1, .inl (c5_1, 120, .inl f5_1)), (a5_2, .inl (c5_2, 120, .inl f5_2)), (a5_3, .inl (c5_3, 120, .inl f5_3)), (a5_4, .inl (c5_4, 120, .inl f5_4))] [(c4_2, .int), (c4_3, .int), (c4_4, .int), (c4_5, .int), (c5_1, .int), (c5_2, .int), (c5_3, .int), (c5_4, .int)] sz (fun U => KAll (va_A [(o4, .inr (4, [.int v4_0, .int (nI len), .ref a4_2, .ref a4_3, .ref a4_4, .ref a4_5, .ref a4_6, .ref o5, .ref o3])), (a4_2, .inl (c4_2, 120, .inl (fun j => nI (ow j)))), (a4_3, .inl (c4_3, 120, .inl (fun j => nI (sA j)))), (a4_4, .inl (c4_4, 120, .inl f4_4)), (a4_5, .inl (c4_5, 120, .inl f4_5)), (o5, .inr (5, [.ref a5_0, .ref a5_1, .ref a5_2, .ref a5_3, .ref a5_4, .ref a5_5, .ref a5_6])), (a5_1, .inl (c5_1, 120, .inl f5_1)), (a5_2, .inl (c5_2, 120, .inl f5_2)), (a5_3, .inl (c5_3, 120, .inl f5_3)), (a5_4, .inl (c5_4, 120, .inl f5_4))] sz) U))) (va_Qi (fun (r : Int32) (u : Nat × Nat × (Nat → Nat) × (Nat → Nat) × (Nat → Int32) × (Nat → Int32)) => r = nI u.1 ∧ u.1 < u.2.1 ∧ ((u.2.1 = len ∧ u.2.2.1 = ow ∧ u.2.2.2.1 = sA) ∨ (u.2.1 = len + 1 ∧ u.2.2.1 = mUpd ow len i9 ∧ u.2.2.2.1 = mUpd sA len st9))) (KPost (dC, dI) (va_A [(o4, .inr (4, [.int v4_0, .int (nI len), .ref a4_2, .ref a4_3, .ref a4_4, .ref a4_5, .ref a4_6, .ref o5, .ref o3])), (a4_2, .inl (c4_2, 120, .inl (fun j => nI (ow j)))), (a4_3, .inl (c4_3, 120, .inl (fun j => nI (sA j)))), (a4_4, .inl (c4_4, 120, .inl f4_4)), (a4_5, .inl (c4_5, 120, .inl f4_5)), (o5, .inr (5, [.ref a5_0, .ref a5_1, .ref a5_2, .ref a5_3, .ref a5_4, .ref a5_5, .ref a5_6])), (a5_1, .inl (c5_1, 120, .inl f5_1)), (a5_2, .inl (c5_2, 120, .inl f5_2)), (a5_3, .inl (c5_3, 120, .inl f5_3)), (a5_4, .inl (c5_4, 120, .inl f5_4))] sz) (fun (u : Nat × Nat × (Nat → Nat) × (Nat → Nat) × (Nat → Int32) × (Nat → Int32)) => [(o4, .inr (4, [.int v4_0, .int (nI u.2.1), .ref a4_2, .ref a4_3, .ref a4_4, .ref a4_5, .ref a4_6, .ref o5, .ref o3])), (a4_2, .inl (c4_2, 120, .inl (fun j => nI (u.2.2.1 j)))), (a4_3, .inl (c4_3, 120, .inl (fun j => nI (u.2.2.2.1 j)))), (a4_4, .inl (c4_4, 120, .inl u.2.2.2.2.1)), (a4_5, .inl (c4_5, 120, .inl u.2.2.2.2.2)), (o5, .inr (5, [.ref a5_0, .ref a5_1, .ref a5_2, .ref a5_3, .ref a5_4, .ref a5_5, .ref a5_6])), (a5_1, .inl (c5_1, 120, .inl f5_1)), (a5_2, .inl (c5_2, 120, .inl f5_2)), (a5_3, .inl (c5_3, 120, .inl f5_3)), (a5_4, .inl (c5_4, 120, .inl f5_4))])) (va_A [(o4, .inr (4, [.int v4_0, .int (nI len), .ref a4_2, .ref a4_3, .ref a4_4, .ref a4_5, .ref a4_6, .ref o5, .ref o3])), (a4_2, .inl (c4_2, 120, .inl (fun j => nI (ow j)))), (a4_3, .inl (c4_3, 120, .inl (fun j => nI (sA j)))), (a4_4, .inl (c4_4, 120, .inl f4_4)), (a4_5, .inl (c4_5, 120, .inl f4_5)), (o5, .inr (5, [.ref a5_0, .ref a5_1, .ref a5_2, .ref a5_3, .ref a5_4, .ref a5_5, .ref a5_6])), (a5_1, .inl (c5_1, 120, .inl f5_1)), (a5_2, .inl (c5_2, 120, .inl f5_2)), (a5_3, .inl (c5_3, 120, .inl f5_3)), (a5_4, .inl (c5_4, 120, .inl f5_4))] sz)) 0 0 (va_A [(o4, .inr (4, [.int v4_0, .int (nI len), .ref a4_2, .ref a4_3, .ref a4_4, .ref a4_5, .ref a4_6, .ref o5, .ref o3])), (a4_2, .inl (c4_2, 120, .inl (fun j => nI (ow j)))), (a4_3, .inl (c4_3, 120, .inl (fun j => nI (sA j)))), (a4_4, .inl (c4_4, 120, .inl f4_4)), (a4_5, .inl (c4_5, 120, .inl f4_5)), (o5, .inr (5, [.ref a5_0, .ref a5_1, .ref a5_2, .ref a5_3, .ref a5_4, .ref a5_5, .ref a5_6])), (a5_1, .inl (c5_1, 120, .inl f5_1)), (a5_2, .inl (c5_2, 120, .inl f5_2)), (a5_3, .inl (c5_3, 120, .inl f5_3)), (a5_4, .inl (c5_4, 120, .inl f5_4))] sz) := by
  refine kMet (y := yX4_findOrAdd) (wsM := wsX4_findOrAdd) (cc := cX4_findOrAdd) (maxL := 5) (ret := (some .int)) (rm := ({ frames := 3, cells := 0, slots := 0, locals := 69 } : Room)) (mc := 0) (ms := 0) (av := [.ref o4, .int (nI i9), .int (nI st9), .int p2]) (D := (dC, dI)) (wc := [(o4, .inr (4, [.int v4_0, .int (nI len), .ref a4_2, .ref a4_3, .ref a4_4, .ref a4_5, .ref a4_6, .ref o5, .ref o3])), (a4_2, .inl (c4_2, 120, .inl (fun j => nI (ow j)))), (a4_3, .inl (c4_3, 120, .inl (fun j => nI (sA j)))), (a4_4, .inl (c4_4, 120, .inl f4_4)), (a4_5, .inl (c4_5, 120, .inl f4_5)), (o5, .inr (5, [.ref a5_0, .ref a5_1, .ref a5_2, .ref a5_3, .ref a5_4, .ref a5_5, .ref a5_6])), (a5_1, .inl (c5_1, 120, .inl f5_1)), (a5_2, .inl (c5_2, 120, .inl f5_2)), (a5_3, .inl (c5_3, 120, .inl f5_3)), (a5_4, .inl (c5_4, 120, .inl f5_4))]) (tc := [(c4_2, .int), (c4_3, .int), (c4_4, .int), (c4_5, .int), (c5_1, .int), (c5_2, .int), (c5_3, .int), (c5_4, .int)]) (sz := sz) (X := fun U => KAll (va_A [(o4, .inr (4, [.int v4_0, .int (nI len), .ref a4_2, .ref a4_3, .ref a4_4, .ref a4_5, .ref a4_6, .ref o5, .ref o3])), (a4_2, .inl (c4_2, 120, .inl (fun j => nI (ow j)))), (a4_3, .inl (c4_3, 120, .inl (fun j => nI (sA j)))), (a4_4, .inl (c4_4, 120, .inl f4_4)), (a4_5, .inl (c4_5, 120, .inl f4_5)), (o5, .inr (5, [.ref a5_0, .ref a5_1, .ref a5_2, .ref a5_3, .ref a5_4, .ref a5_5, .ref a5_6])), (a5_1, .inl (c5_1, 120, .inl f5_1)), (a5_2, .inl (c5_2, 120, .inl f5_2)), (a5_3, .inl (c5_3, 120, .inl f5_3)), (a5_4, .inl (c5_4, 120, .inl f5_4))] sz) U) (Qc := fun A => va_Qi (fun (r : Int32) (u : Nat × Nat × (Nat → Nat) × (Nat → Nat) × (Nat → Int32) × (Nat → Int32)) => r = nI u.1 ∧ u.1 < u.2.1 ∧ ((u.2.1 = len ∧ u.2.2.1 = ow ∧ u.2.2.2.1 = sA) ∨ (u.2.1 = len + 1 ∧ u.2.2.1 = mUpd ow len i9 ∧ u.2.2.2.1 = mUpd sA len st9))) (KPost (dC, dI) A (fun (u : Nat × Nat × (Nat → Nat) × (Nat → Nat) × (Nat → Int32) × (Nat → Int32)) => [(o4, .inr (4, [.int v4_0, .int (nI u.2.1), .ref a4_2, .ref a4_3, .ref a4_4, .ref a4_5, .ref a4_6, .ref o5, .ref o3])), (a4_2, .inl (c4_2, 120, .inl (fun j => nI (u.2.2.1 j)))), (a4_3, .inl (c4_3, 120, .inl (fun j => nI (u.2.2.2.1 j)))), (a4_4, .inl (c4_4, 120, .inl u.2.2.2.2.1)), (a4_5, .inl (c4_5, 120, .inl u.2.2.2.2.2)), (o5, .inr (5, [.ref a5_0, .ref a5_1, .ref a5_2, .ref a5_3, .ref a5_4, .ref a5_5, .ref a5_6])), (a5_1, .inl (c5_1, 120, .inl f5_1)), (a5_2, .inl (c5_2, 120, .inl f5_2)), (a5_3, .inl (c5_3, 120, .inl f5_3)), (a5_4, .inl (c5_4, 120, .inl f5_4))])) A) (by decide) rfl (Nat.le_of_ble_eq_true rfl) ?_
  intro p e s m below meth c A ls E hr hlocks hnm hsz hAe hX h hl
  have hx := E.1
  have hb := E.2.1
  have hl : lv_has ls 5 [(0, .ref o4), (1, .int (nI i9)), (2, .int (nI st9)), (3, .int p2)] := hl
  have hX : KAll A s := by rw [← hAe]; exact hX
  obtain ⟨⟨tD, hZD, hTD⟩, ⟨tX, hZX, hTX⟩, ⟨tY, hZY, hTY⟩, ⟨tP, hZP, hTP⟩, ⟨tL, hZL, hTL⟩, ⟨tM, hZM, hTM⟩, hN0_134, hN0_60, hN0_96, hN1_83, hN1_87, hN3_49, hN3_52, hN4_44, hN4_69, hN5_33, hN6_102, hN6_67, hF37, hF40, hF50, hF53⟩ := id hX
  refine lv_iconst (v := 0) hx hb dX4_findOrAdd_0 (by decide) ?_
  refine lv_istore (lv' := [(4, .int 0), (0, .ref o4), (1, .int (nI i9)), (2, .int (nI st9)), (3, .int p2)]) hx hb dX4_findOrAdd_1 hl (by decide) rfl (fun ls hl => ?_)
  refine k_loop (σ := Nat) (fun x9 => [(o4, .inr (4, [.int v4_0, .int (nI len), .ref a4_2, .ref a4_3, .ref a4_4, .ref a4_5, .ref a4_6, .ref o5, .ref o3])), (a4_2, .inl (c4_2, 120, .inl (fun j => nI (ow j)))), (a4_3, .inl (c4_3, 120, .inl (fun j => nI (sA j)))), (a4_4, .inl (c4_4, 120, .inl f4_4)), (a4_5, .inl (c4_5, 120, .inl f4_5)), (o5, .inr (5, [.ref a5_0, .ref a5_1, .ref a5_2, .ref a5_3, .ref a5_4, .ref a5_5, .ref a5_6])), (a5_1, .inl (c5_1, 120, .inl f5_1)), (a5_2, .inl (c5_2, 120, .inl f5_2)), (a5_3, .inl (c5_3, 120, .inl f5_3)), (a5_4, .inl (c5_4, 120, .inl f5_4))]) (fun x9 => [(0, .ref o4), (1, .int (nI i9)), (2, .int (nI st9)), (3, .int p2), (4, .int (nI x9))]) (fun n9 x9 => x9 ≤ len ∧ n9 = len - x9) ?_ (len - 0) 0 ⟨Nat.zero_le _, rfl⟩ h (lv_sub hl [1, 2, 3, 4, 0] rfl)
  intro n9 x9 H locs ls hI h hl ih3
  obtain ⟨i, rfl⟩ : ∃ z, z = x9 := ⟨_, rfl⟩
  have hI : i ≤ len ∧ n9 = len - i := hI
  have h : KS (dC, dI) A [(o4, .inr (4, [.int v4_0, .int (nI len), .ref a4_2, .ref a4_3, .ref a4_4, .ref a4_5, .ref a4_6, .ref o5, .ref o3])), (a4_2, .inl (c4_2, 120, .inl (fun j => nI (ow j)))), (a4_3, .inl (c4_3, 120, .inl (fun j => nI (sA j)))), (a4_4, .inl (c4_4, 120, .inl f4_4)), (a4_5, .inl (c4_5, 120, .inl f4_5)), (o5, .inr (5, [.ref a5_0, .ref a5_1, .ref a5_2, .ref a5_3, .ref a5_4, .ref a5_5, .ref a5_6])), (a5_1, .inl (c5_1, 120, .inl f5_1)), (a5_2, .inl (c5_2, 120, .inl f5_2)), (a5_3, .inl (c5_3, 120, .inl f5_3)), (a5_4, .inl (c5_4, 120, .inl f5_4))] [(c4_2, .int), (c4_3, .int), (c4_4, .int), (c4_5, .int), (c5_1, .int), (c5_2, .int), (c5_3, .int), (c5_4, .int)] s H locs := h
  have hl : lv_has ls 5 [(0, .ref o4), (1, .int (nI i9)), (2, .int (nI st9)), (3, .int p2), (4, .int (nI i))] := hl
  obtain ⟨hi1, hi2⟩ := hI
  refine lv_iload hx hb dX4_findOrAdd_3 (lv_at hl 4 rfl) ?_
  refine lv_aload_n hx hb dX4_findOrAdd_5 rfl (lv_at hl 0 rfl) ?_
  refine k_get (v := .int (nI len)) E h (fun w h => List.mem_cons_of_mem _ (List.mem_append_left _ (List.mem_append_right _ h))) 0 rfl rfl 1 (by decide) (List.mem_of_getElem? (i := 1) rfl) rfl dX4_findOrAdd_6 ?_
  refine lv_icmp_ge (tgt := 43) hx hb dX4_findOrAdd_9 (by decide) (fun c_1 => ?_) (fun c_1 => ?_)
  · skip
    have i_1 : len ≤ i := (nI_leI (a := len) (b := i) (by omega) (by omega)).mp c_1
    refine lv_aload_n hx hb dX4_findOrAdd_43 rfl (lv_at hl 0 rfl) ?_
    refine k_get (v := .ref a4_2) E h (fun w h => List.mem_cons_of_mem _ (List.mem_append_left _ (List.mem_append_right _ h))) 0 rfl rfl 2 (by decide) (List.mem_of_getElem? (i := 3) rfl) rfl dX4_findOrAdd_44 ?_
    refine lv_aload_n hx hb dX4_findOrAdd_47 rfl (lv_at hl 0 rfl) ?_
    refine k_get (v := .int (nI len)) E h (fun w h => List.mem_cons_of_mem _ (List.mem_append_left _ (List.mem_append_right _ h))) 0 rfl rfl 1 (by decide) (List.mem_of_getElem? (i := 1) rfl) rfl dX4_findOrAdd_48 ?_
    refine lv_iload_n hx hb dX4_findOrAdd_51 rfl (lv_at hl 1 rfl) ?_
    refine k_iast (j := len) (ws' := [(o4, .inr (4, [.int v4_0, .int (nI len), .ref a4_2, .ref a4_3, .ref a4_4, .ref a4_5, .ref a4_6, .ref o5, .ref o3])), (a4_2, .inl (c4_2, 120, .inl (upd (fun j => nI (ow j)) len (nI i9)))), (a4_3, .inl (c4_3, 120, .inl (fun j => nI (sA j)))), (a4_4, .inl (c4_4, 120, .inl f4_4)), (a4_5, .inl (c4_5, 120, .inl f4_5)), (o5, .inr (5, [.ref a5_0, .ref a5_1, .ref a5_2, .ref a5_3, .ref a5_4, .ref a5_5, .ref a5_6])), (a5_1, .inl (c5_1, 120, .inl f5_1)), (a5_2, .inl (c5_2, 120, .inl f5_2)), (a5_3, .inl (c5_3, 120, .inl f5_3)), (a5_4, .inl (c5_4, 120, .inl f5_4))]) E h 1 0 rfl rfl (vp_in_nI (by omega) (by omega)) (nI_clamp (by omega)) rfl dX4_findOrAdd_52 (fun H locs h => ?_)
    have h : KS (dC, dI) A [(o4, .inr (4, [.int v4_0, .int (nI len), .ref a4_2, .ref a4_3, .ref a4_4, .ref a4_5, .ref a4_6, .ref o5, .ref o3])), (a4_2, .inl (c4_2, 120, .inl (fun j => nI ((mUpd ow len i9) j)))), (a4_3, .inl (c4_3, 120, .inl (fun j => nI (sA j)))), (a4_4, .inl (c4_4, 120, .inl f4_4)), (a4_5, .inl (c4_5, 120, .inl f4_5)), (o5, .inr (5, [.ref a5_0, .ref a5_1, .ref a5_2, .ref a5_3, .ref a5_4, .ref a5_5, .ref a5_6])), (a5_1, .inl (c5_1, 120, .inl f5_1)), (a5_2, .inl (c5_2, 120, .inl f5_2)), (a5_3, .inl (c5_3, 120, .inl f5_3)), (a5_4, .inl (c5_4, 120, .inl f5_4))] [(c4_2, .int), (c4_3, .int), (c4_4, .int), (c4_5, .int), (c5_1, .int), (c5_2, .int), (c5_3, .int), (c5_4, .int)] s _ _ := k_cong 1 h rfl (fun j _ => mm_upd (X := ow) (k := len) (v := i9) j) rfl
    refine lv_aload_n hx hb dX4_findOrAdd_53 rfl (lv_at hl 0 rfl) ?_
    refine k_get (v := .ref a4_3) E h (fun w h => List.mem_cons_of_mem _ (List.mem_append_left _ (List.mem_append_right _ h))) 0 rfl rfl 3 (by decide) (List.mem_of_getElem? (i := 4) rfl) rfl dX4_findOrAdd_54 ?_
    refine lv_aload_n hx hb dX4_findOrAdd_57 rfl (lv_at hl 0 rfl) ?_
    refine k_get (v := .int (nI len)) E h (fun w h => List.mem_cons_of_mem _ (List.mem_append_left _ (List.mem_append_right _ h))) 0 rfl rfl 1 (by decide) (List.mem_of_getElem? (i := 1) rfl) rfl dX4_findOrAdd_58 ?_
    refine lv_iload_n hx hb dX4_findOrAdd_61 rfl (lv_at hl 2 rfl) ?_
    refine W.eq (g2 := F0 m 62 ls [.int (nI st9), .int (nI len), .ref a4_3]) rfl ?_
    refine k_iast (j := len) (ws' := [(o4, .inr (4, [.int v4_0, .int (nI len), .ref a4_2, .ref a4_3, .ref a4_4, .ref a4_5, .ref a4_6, .ref o5, .ref o3])), (a4_2, .inl (c4_2, 120, .inl (fun j => nI ((mUpd ow len i9) j)))), (a4_3, .inl (c4_3, 120, .inl (upd (fun j => nI (sA j)) len (nI st9)))), (a4_4, .inl (c4_4, 120, .inl f4_4)), (a4_5, .inl (c4_5, 120, .inl f4_5)), (o5, .inr (5, [.ref a5_0, .ref a5_1, .ref a5_2, .ref a5_3, .ref a5_4, .ref a5_5, .ref a5_6])), (a5_1, .inl (c5_1, 120, .inl f5_1)), (a5_2, .inl (c5_2, 120, .inl f5_2)), (a5_3, .inl (c5_3, 120, .inl f5_3)), (a5_4, .inl (c5_4, 120, .inl f5_4))]) E h 2 1 rfl rfl (vp_in_nI (by omega) (by omega)) (nI_clamp (by omega)) rfl dX4_findOrAdd_62 (fun H locs h => ?_)
    have h : KS (dC, dI) A [(o4, .inr (4, [.int v4_0, .int (nI len), .ref a4_2, .ref a4_3, .ref a4_4, .ref a4_5, .ref a4_6, .ref o5, .ref o3])), (a4_2, .inl (c4_2, 120, .inl (fun j => nI ((mUpd ow len i9) j)))), (a4_3, .inl (c4_3, 120, .inl (fun j => nI ((mUpd sA len st9) j)))), (a4_4, .inl (c4_4, 120, .inl f4_4)), (a4_5, .inl (c4_5, 120, .inl f4_5)), (o5, .inr (5, [.ref a5_0, .ref a5_1, .ref a5_2, .ref a5_3, .ref a5_4, .ref a5_5, .ref a5_6])), (a5_1, .inl (c5_1, 120, .inl f5_1)), (a5_2, .inl (c5_2, 120, .inl f5_2)), (a5_3, .inl (c5_3, 120, .inl f5_3)), (a5_4, .inl (c5_4, 120, .inl f5_4))] [(c4_2, .int), (c4_3, .int), (c4_4, .int), (c4_5, .int), (c5_1, .int), (c5_2, .int), (c5_3, .int), (c5_4, .int)] s _ _ := k_cong 2 h rfl (fun j _ => mm_upd (X := sA) (k := len) (v := st9) j) rfl
    refine lv_aload_n hx hb dX4_findOrAdd_63 rfl (lv_at hl 0 rfl) ?_
    refine k_get (v := .ref a4_4) E h (fun w h => List.mem_cons_of_mem _ (List.mem_append_left _ (List.mem_append_right _ h))) 0 rfl rfl 4 (by decide) (List.mem_of_getElem? (i := 2) rfl) rfl dX4_findOrAdd_64 ?_
    refine lv_aload_n hx hb dX4_findOrAdd_67 rfl (lv_at hl 0 rfl) ?_
    refine k_get (v := .int (nI len)) E h (fun w h => List.mem_cons_of_mem _ (List.mem_append_left _ (List.mem_append_right _ h))) 0 rfl rfl 1 (by decide) (List.mem_of_getElem? (i := 1) rfl) rfl dX4_findOrAdd_68 ?_
    refine lv_iload_n hx hb dX4_findOrAdd_71 rfl (lv_at hl 3 rfl) ?_
    refine k_iast (j := len) (ws' := [(o4, .inr (4, [.int v4_0, .int (nI len), .ref a4_2, .ref a4_3, .ref a4_4, .ref a4_5, .ref a4_6, .ref o5, .ref o3])), (a4_2, .inl (c4_2, 120, .inl (fun j => nI ((mUpd ow len i9) j)))), (a4_3, .inl (c4_3, 120, .inl (fun j => nI ((mUpd sA len st9) j)))), (a4_4, .inl (c4_4, 120, .inl (upd f4_4 len p2))), (a4_5, .inl (c4_5, 120, .inl f4_5)), (o5, .inr (5, [.ref a5_0, .ref a5_1, .ref a5_2, .ref a5_3, .ref a5_4, .ref a5_5, .ref a5_6])), (a5_1, .inl (c5_1, 120, .inl f5_1)), (a5_2, .inl (c5_2, 120, .inl f5_2)), (a5_3, .inl (c5_3, 120, .inl f5_3)), (a5_4, .inl (c5_4, 120, .inl f5_4))]) E h 3 2 rfl rfl (vp_in_nI (by omega) (by omega)) (nI_clamp (by omega)) rfl dX4_findOrAdd_72 (fun H locs h => ?_)
    refine lv_aload_n hx hb dX4_findOrAdd_73 rfl (lv_at hl 0 rfl) ?_
    refine k_get (v := .ref a4_5) E h (fun w h => List.mem_cons_of_mem _ (List.mem_append_left _ (List.mem_append_right _ h))) 0 rfl rfl 5 (by decide) (List.mem_of_getElem? (i := 5) rfl) rfl dX4_findOrAdd_74 ?_
    refine lv_aload_n hx hb dX4_findOrAdd_77 rfl (lv_at hl 0 rfl) ?_
    refine k_get (v := .int (nI len)) E h (fun w h => List.mem_cons_of_mem _ (List.mem_append_left _ (List.mem_append_right _ h))) 0 rfl rfl 1 (by decide) (List.mem_of_getElem? (i := 1) rfl) rfl dX4_findOrAdd_78 ?_
    refine lv_iconst (v := 0) hx hb dX4_findOrAdd_81 (by decide) ?_
    refine W.eq (g2 := F0 m 82 ls [.int 0, .int (nI len), .ref a4_5]) rfl ?_
    refine k_iast (j := len) (ws' := [(o4, .inr (4, [.int v4_0, .int (nI len), .ref a4_2, .ref a4_3, .ref a4_4, .ref a4_5, .ref a4_6, .ref o5, .ref o3])), (a4_2, .inl (c4_2, 120, .inl (fun j => nI ((mUpd ow len i9) j)))), (a4_3, .inl (c4_3, 120, .inl (fun j => nI ((mUpd sA len st9) j)))), (a4_4, .inl (c4_4, 120, .inl (upd f4_4 len p2))), (a4_5, .inl (c4_5, 120, .inl (upd f4_5 len 0))), (o5, .inr (5, [.ref a5_0, .ref a5_1, .ref a5_2, .ref a5_3, .ref a5_4, .ref a5_5, .ref a5_6])), (a5_1, .inl (c5_1, 120, .inl f5_1)), (a5_2, .inl (c5_2, 120, .inl f5_2)), (a5_3, .inl (c5_3, 120, .inl f5_3)), (a5_4, .inl (c5_4, 120, .inl f5_4))]) E h 4 3 rfl rfl (vp_in_nI (by omega) (by omega)) (nI_clamp (by omega)) rfl dX4_findOrAdd_82 (fun H locs h => ?_)
    refine lv_aload_n hx hb dX4_findOrAdd_83 rfl (lv_at hl 0 rfl) ?_
    refine lv_dup hx hb dX4_findOrAdd_84 rfl ?_
    refine k_get (v := .int (nI len)) E h (fun w h => List.mem_cons_of_mem _ (List.mem_append_left _ (List.mem_append_right _ h))) 0 rfl rfl 1 (by decide) (List.mem_of_getElem? (i := 1) rfl) rfl dX4_findOrAdd_85 ?_
    refine lv_iconst (v := 1) hx hb dX4_findOrAdd_88 (by decide) ?_
    refine lv_iadd hx hb dX4_findOrAdd_89 ?_
    refine k_topi (y := nI (len + 1)) (nI_add len 1) ?_
    refine k_put (v := .int (nI (len + 1))) (ty := .int) (ws' := [(o4, .inr (4, [.int v4_0, .int (nI (len + 1)), .ref a4_2, .ref a4_3, .ref a4_4, .ref a4_5, .ref a4_6, .ref o5, .ref o3])), (a4_2, .inl (c4_2, 120, .inl (fun j => nI ((mUpd ow len i9) j)))), (a4_3, .inl (c4_3, 120, .inl (fun j => nI ((mUpd sA len st9) j)))), (a4_4, .inl (c4_4, 120, .inl (upd f4_4 len p2))), (a4_5, .inl (c4_5, 120, .inl (upd f4_5 len 0))), (o5, .inr (5, [.ref a5_0, .ref a5_1, .ref a5_2, .ref a5_3, .ref a5_4, .ref a5_5, .ref a5_6])), (a5_1, .inl (c5_1, 120, .inl f5_1)), (a5_2, .inl (c5_2, 120, .inl f5_2)), (a5_3, .inl (c5_3, 120, .inl f5_3)), (a5_4, .inl (c5_4, 120, .inl f5_4))]) E h (fun w h => List.mem_cons_of_mem _ (List.mem_append_left _ (List.mem_append_right _ h))) tyX4_ok nmX4 0 rfl rfl 1 (by decide) (List.mem_of_getElem? (i := 1) rfl) rfl (by decide +kernel) rfl rfl (Nat.le_of_ble_eq_true rfl) rfl dX4_findOrAdd_90 (fun H locs h => ?_)
    refine lv_aload_n hx hb dX4_findOrAdd_93 rfl (lv_at hl 0 rfl) ?_
    refine k_get (v := .int (nI (len + 1))) E h (fun w h => List.mem_cons_of_mem _ (List.mem_append_left _ (List.mem_append_right _ h))) 0 rfl rfl 1 (by decide) (List.mem_of_getElem? (i := 1) rfl) rfl dX4_findOrAdd_94 ?_
    refine lv_iconst (v := 1) hx hb dX4_findOrAdd_97 (by decide) ?_
    refine lv_isub hx hb dX4_findOrAdd_98 ?_
    refine k_topi (y := nI len) (nI_pred len) ?_
    have hP9 := h.2.1.sub [0, 1, 2, 3, 4, 5, 6, 7, 8, 9] rfl
    have hD9 := h.2.2.1.sub (ws' := [(o4, .inr (4, [.int v4_0, .int (nI (len + 1)), .ref a4_2, .ref a4_3, .ref a4_4, .ref a4_5, .ref a4_6, .ref o5, .ref o3])), (a4_2, .inl (c4_2, 120, .inl (fun j => nI ((mUpd ow len i9) j)))), (a4_3, .inl (c4_3, 120, .inl (fun j => nI ((mUpd sA len st9) j)))), (a4_4, .inl (c4_4, 120, .inl (upd f4_4 len p2))), (a4_5, .inl (c4_5, 120, .inl (upd f4_5 len 0))), (o5, .inr (5, [.ref a5_0, .ref a5_1, .ref a5_2, .ref a5_3, .ref a5_4, .ref a5_5, .ref a5_6])), (a5_1, .inl (c5_1, 120, .inl f5_1)), (a5_2, .inl (c5_2, 120, .inl f5_2)), (a5_3, .inl (c5_3, 120, .inl f5_3)), (a5_4, .inl (c5_4, 120, .inl f5_4))]) [0, 1, 2, 3, 4, 5, 6, 7, 8, 9] (by decide) rfl
    exact W.iret (v := nI len) hx hb hr (fun t ht hW => ⟨⟨nI len, (len, (len + 1), (mUpd ow len i9), (mUpd sA len st9), upd f4_4 len p2, upd f4_5 len 0), rfl, ⟨rfl, Nat.lt_succ_self len, Or.inr ⟨rfl, rfl, rfl⟩⟩, (by rw [ht]; exact hP9), hD9⟩, h.2.2.2.1.F ht⟩) h.2.2.2.1.2.2 dX4_findOrAdd_99 hlocks
  · skip
    have i_1 : ¬ len ≤ i := fun h9 => c_1 ((nI_leI (a := len) (b := i) (by omega) (by omega)).mpr h9)
    refine lv_aload_n hx hb dX4_findOrAdd_12 rfl (lv_at hl 0 rfl) ?_
    refine k_get (v := .ref a4_4) E h (fun w h => List.mem_cons_of_mem _ (List.mem_append_left _ (List.mem_append_right _ h))) 0 rfl rfl 4 (by decide) (List.mem_of_getElem? (i := 2) rfl) rfl dX4_findOrAdd_13 ?_
    refine lv_iload hx hb dX4_findOrAdd_16 (lv_at hl 4 rfl) ?_
    refine k_iald (v := f4_4 i) E h 3 2 rfl rfl (vp_in_nI (by omega) (by omega)) (by rw [nI_clamp (by omega)]) dX4_findOrAdd_18 ?_
    refine lv_iload_n hx hb dX4_findOrAdd_19 rfl (lv_at hl 3 rfl) ?_
    refine lv_icmp_ne (tgt := 37) hx hb dX4_findOrAdd_20 (by decide) (fun c_2 => ?_) (fun c_2 => ?_)
    · skip
      have i_2 : ¬ (f4_4 i).toInt = p2.toInt := fun h9 => c_2 ((fa_eq _ _).mpr h9)
      refine lv_iinc (v := nI (i + 1)) (lv' := [(4, .int (nI (i + 1))), (0, .ref o4), (1, .int (nI i9)), (2, .int (nI st9)), (3, .int p2)]) hx hb dX4_findOrAdd_37 hl (k := 4) rfl (nI_1 i) (by decide) rfl (fun ls hl => ?_)
      refine lv_goto (tgt := 3) hx hb dX4_findOrAdd_40 (by decide) ?_
      exact ih3 (len - (i + 1)) (i + 1) _ _ _ (by omega) ⟨by omega, rfl⟩ h (lv_sub hl [1, 2, 3, 4, 0] rfl)
    · skip
      have i_2 : (f4_4 i).toInt = p2.toInt := (fa_eq _ _).mp c_2
      refine lv_aload_n hx hb dX4_findOrAdd_23 rfl (lv_at hl 0 rfl) ?_
      refine lv_iload hx hb dX4_findOrAdd_24 (lv_at hl 4 rfl) ?_
      refine lv_iload_n hx hb dX4_findOrAdd_26 rfl (lv_at hl 1 rfl) ?_
      refine lv_iload_n hx hb dX4_findOrAdd_27 rfl (lv_at hl 2 rfl) ?_
      refine kc_i (wc := [(o4, .inr (4, [.int v4_0, .int (nI len), .ref a4_2, .ref a4_3, .ref a4_4, .ref a4_5, .ref a4_6, .ref o5, .ref o3])), (a4_2, .inl (c4_2, 120, .inl (fun j => nI (ow j)))), (a4_3, .inl (c4_3, 120, .inl (fun j => nI (sA j)))), (o5, .inr (5, [.ref a5_0, .ref a5_1, .ref a5_2, .ref a5_3, .ref a5_4, .ref a5_5, .ref a5_6])), (a5_1, .inl (c5_1, 120, .inl f5_1)), (a5_2, .inl (c5_2, 120, .inl f5_2)), (a5_3, .inl (c5_3, 120, .inl f5_3)), (a5_4, .inl (c5_4, 120, .inl f5_4))]) (wr := [(a4_4, .inl (c4_4, 120, .inl f4_4)), (a4_5, .inl (c4_5, 120, .inl f4_5))]) h (va_runV (As := [.int (nI i), .int (nI i9), .int (nI st9)]) (rest := []) E (c_X4_hasSameActs l dC dI _ (o4 := o4) (v4_0 := v4_0) (v4_1 := (nI len)) (a4_2 := a4_2) (a4_3 := a4_3) (a4_4 := a4_4) (a4_5 := a4_5) (a4_6 := a4_6) (o5 := o5) (o3 := o3) (c4_2 := c4_2) (c4_3 := c4_3) (a5_0 := a5_0) (a5_1 := a5_1) (a5_2 := a5_2) (a5_3 := a5_3) (a5_4 := a5_4) (a5_5 := a5_5) (a5_6 := a5_6) (c5_1 := c5_1) (f5_1 := f5_1) (c5_2 := c5_2) (f5_2 := f5_2) (c5_3 := c5_3) (f5_3 := f5_3) (c5_4 := c5_4) (f5_4 := f5_4) (ow := ow) (sA := sA) (pl := i) (i9 := i9) (st9 := st9) (hp := ⟨⟨by omega, hi9⟩, hst⟩) (hs := (hs1 i (by omega)))) (cwV 3 E.2.2.2.2 gX4_findOrAdd_X4_hasSameActs rfl rfl rfl (by decide +kernel) ⟨Nat.le_of_ble_eq_true rfl, Nat.le_of_ble_eq_true rfl⟩) (kPreV (q0 := 0) (ci := 4) h KAll.blind (KAll.call hX h [0, 1, 2, 5, 6, 7, 8, 9] rfl) [0, 1, 2, 5, 6, 7, 8, 9] [0, 1, 4, 5, 6, 7] (by decide) rfl rfl rfl rfl) rfl rfl hl.1 rfl (lv_room (Nat.le_of_ble_eq_true rfl)) dX4_findOrAdd_28 ⟨Nat.le_of_ble_eq_true rfl, Nat.le_of_ble_eq_true rfl⟩) [0, 1, 2, 5, 6, 7, 8, 9] [3, 4] rfl rfl (by decide) (by decide) (fun r_3 u_3 H locs hw_3 h => ?_)
      have h : KS (dC, dI) A [(a4_4, .inl (c4_4, 120, .inl f4_4)), (a4_5, .inl (c4_5, 120, .inl f4_5)), (o4, .inr (4, [.int v4_0, .int (nI len), .ref a4_2, .ref a4_3, .ref a4_4, .ref a4_5, .ref a4_6, .ref o5, .ref o3])), (a4_2, .inl (c4_2, 120, .inl (fun j => nI (ow j)))), (a4_3, .inl (c4_3, 120, .inl (fun j => nI (sA j)))), (o5, .inr (5, [.ref a5_0, .ref a5_1, .ref a5_2, .ref a5_3, .ref a5_4, .ref a5_5, .ref a5_6])), (a5_1, .inl (c5_1, 120, .inl f5_1)), (a5_2, .inl (c5_2, 120, .inl f5_2)), (a5_3, .inl (c5_3, 120, .inl f5_3)), (a5_4, .inl (c5_4, 120, .inl f5_4))] [(c4_2, .int), (c4_3, .int), (c4_4, .int), (c4_5, .int), (c5_1, .int), (c5_2, .int), (c5_3, .int), (c5_4, .int)] s H locs := h
      refine W.eq (g2 := F0 m 31 ls [.int r_3]) rfl ?_
      refine lv_if_eq (tgt := 37) hx hb dX4_findOrAdd_31 (by decide) (fun c_4 => ?_) (fun c_4 => ?_)
      · skip
        have i_4 : r_3.toInt = 0 := (fa_eq _ _).mp c_4
        refine lv_iinc (v := nI (i + 1)) (lv' := [(4, .int (nI (i + 1))), (0, .ref o4), (1, .int (nI i9)), (2, .int (nI st9)), (3, .int p2)]) hx hb dX4_findOrAdd_37 hl (k := 4) rfl (nI_1 i) (by decide) rfl (fun ls hl => ?_)
        refine lv_goto (tgt := 3) hx hb dX4_findOrAdd_40 (by decide) ?_
        exact ih3 (len - (i + 1)) (i + 1) _ _ _ (by omega) ⟨by omega, rfl⟩ (k_perm h [2, 3, 4, 0, 1, 5, 6, 7, 8, 9] (by decide) rfl rfl) (lv_sub hl [1, 2, 3, 4, 0] rfl)
      · skip
        have i_4 : ¬ r_3.toInt = 0 := fun h9 => c_4 ((fa_eq _ _).mpr h9)
        refine lv_iload hx hb dX4_findOrAdd_34 (lv_at hl 4 rfl) ?_
        have hP9 := h.2.1.sub [2, 3, 4, 0, 1, 5, 6, 7, 8, 9] rfl
        have hD9 := h.2.2.1.sub (ws' := [(o4, .inr (4, [.int v4_0, .int (nI len), .ref a4_2, .ref a4_3, .ref a4_4, .ref a4_5, .ref a4_6, .ref o5, .ref o3])), (a4_2, .inl (c4_2, 120, .inl (fun j => nI (ow j)))), (a4_3, .inl (c4_3, 120, .inl (fun j => nI (sA j)))), (a4_4, .inl (c4_4, 120, .inl f4_4)), (a4_5, .inl (c4_5, 120, .inl f4_5)), (o5, .inr (5, [.ref a5_0, .ref a5_1, .ref a5_2, .ref a5_3, .ref a5_4, .ref a5_5, .ref a5_6])), (a5_1, .inl (c5_1, 120, .inl f5_1)), (a5_2, .inl (c5_2, 120, .inl f5_2)), (a5_3, .inl (c5_3, 120, .inl f5_3)), (a5_4, .inl (c5_4, 120, .inl f5_4))]) [2, 3, 4, 0, 1, 5, 6, 7, 8, 9] (by decide) rfl
        exact W.iret (v := nI i) hx hb hr (fun t ht hW => ⟨⟨nI i, (i, len, ow, sA, f4_4, f4_5), rfl, ⟨rfl, (show i < len by omega), Or.inl ⟨rfl, rfl, rfl⟩⟩, (by rw [ht]; exact hP9), hD9⟩, h.2.2.2.1.F ht⟩) h.2.2.2.1.2.2 dX4_findOrAdd_36 hlocks
set_option maxHeartbeats 4000000 in
set_option maxRecDepth 100000 in
theorem c_X4_make (l : Launch) (dC : Nat → ClassId) (dI : Nat → Nat → Nat) (sz : Nat) (o4 : Nat) (v4_0 : Int32) (v4_1 : Int32) (a4_2 : Nat) (a4_3 : Nat) (a4_4 : Nat) (a4_5 : Nat) (a4_6 : Nat) (o5 : Nat) (o3 : Nat) (c4_2 : ClassId) (c4_3 : ClassId) (c4_4 : ClassId) (f4_4 : Nat → Int32) (c4_5 : ClassId) (f4_5 : Nat → Int32) (c4_6 : ClassId) (f4_6 : Nat → Int32) (a3_0 : Nat) (a3_1 : Nat) (a3_2 : Nat) (a3_3 : Nat) (v3_4 : Int32) (o6 : Nat) (c3_1 : ClassId) (f3_1 : Nat → Int32) (c3_3 : ClassId) (a5_0 : Nat) (a5_1 : Nat) (a5_2 : Nat) (a5_3 : Nat) (a5_4 : Nat) (a5_5 : Nat) (a5_6 : Nat) (c5_1 : ClassId) (f5_1 : Nat → Int32) (c5_2 : ClassId) (f5_2 : Nat → Int32) (c5_3 : ClassId) (f5_3 : Nat → Int32) (c5_4 : ClassId) (f5_4 : Nat → Int32) (ow : Nat → Nat) (sA : Nat → Nat) (aO : Nat → Nat) (hL3 : IL f3_1) (hA : ∀ i w, i < 12 → w < lenN f3_1 i → aO (i * 10 + w) < 1024) : Met l yX4_make wsX4_make ({ frames := 4, cells := 0, slots := 0, locals := 93 } : Room) (va_Pc [.ref o4] (KPre (dC, dI) [(o4, .inr (4, [.int v4_0, .int v4_1, .ref a4_2, .ref a4_3, .ref a4_4, .ref a4_5, .ref a4_6, .ref o5, .ref o3])), (a4_2, .inl (c4_2, 120, .inl (fun j => nI (ow j)))), (a4_3, .inl (c4_3, 120, .inl (fun j => nI (sA j)))), (a4_4, .inl (c4_4, 120, .inl f4_4)), (a4_5, .inl (c4_5, 120, .inl f4_5)), (a4_6, .inl (c4_6, 120, .inl f4_6)), (o3, .inr (3, [.ref a3_0, .ref a3_1, .ref a3_2, .ref a3_3, .int v3_4, .ref o5, .ref o6])), (a3_1, .inl (c3_1, 12, .inl f3_1)), (a3_3, .inl (c3_3, 120, .inl (fun j => nI (aO j)))), (o5, .inr (5, [.ref a5_0, .ref a5_1, .ref a5_2, .ref a5_3, .ref a5_4, .ref a5_5, .ref a5_6])), (a5_1, .inl (c5_1, 120, .inl f5_1)), (a5_2, .inl (c5_2, 120, .inl f5_2)), (a5_3, .inl (c5_3, 120, .inl f5_3)), (a5_4, .inl (c5_4, 120, .inl f5_4))] [(c4_2, .int), (c4_3, .int), (c4_4, .int), (c4_5, .int), (c4_6, .int), (c3_1, .int), (c3_3, .int), (c5_1, .int), (c5_2, .int), (c5_3, .int), (c5_4, .int)] sz (fun U => KAll (va_A [(o4, .inr (4, [.int v4_0, .int v4_1, .ref a4_2, .ref a4_3, .ref a4_4, .ref a4_5, .ref a4_6, .ref o5, .ref o3])), (a4_2, .inl (c4_2, 120, .inl (fun j => nI (ow j)))), (a4_3, .inl (c4_3, 120, .inl (fun j => nI (sA j)))), (a4_4, .inl (c4_4, 120, .inl f4_4)), (a4_5, .inl (c4_5, 120, .inl f4_5)), (a4_6, .inl (c4_6, 120, .inl f4_6)), (o3, .inr (3, [.ref a3_0, .ref a3_1, .ref a3_2, .ref a3_3, .int v3_4, .ref o5, .ref o6])), (a3_1, .inl (c3_1, 12, .inl f3_1)), (a3_3, .inl (c3_3, 120, .inl (fun j => nI (aO j)))), (o5, .inr (5, [.ref a5_0, .ref a5_1, .ref a5_2, .ref a5_3, .ref a5_4, .ref a5_5, .ref a5_6])), (a5_1, .inl (c5_1, 120, .inl f5_1)), (a5_2, .inl (c5_2, 120, .inl f5_2)), (a5_3, .inl (c5_3, 120, .inl f5_3)), (a5_4, .inl (c5_4, 120, .inl f5_4))] sz) U))) (va_Qv (fun (u : Nat × (Nat → Nat) × (Nat → Nat) × (Nat → Nat) × (Nat → Int32) × (Nat → Int32) × (Nat → Int32)) => u.1 ≤ 120 ∧ PLI u.2.1 u.2.2.1 u.2.2.2.1 u.1 aO f3_1 12 0) (KPost (dC, dI) (va_A [(o4, .inr (4, [.int v4_0, .int v4_1, .ref a4_2, .ref a4_3, .ref a4_4, .ref a4_5, .ref a4_6, .ref o5, .ref o3])), (a4_2, .inl (c4_2, 120, .inl (fun j => nI (ow j)))), (a4_3, .inl (c4_3, 120, .inl (fun j => nI (sA j)))), (a4_4, .inl (c4_4, 120, .inl f4_4)), (a4_5, .inl (c4_5, 120, .inl f4_5)), (a4_6, .inl (c4_6, 120, .inl f4_6)), (o3, .inr (3, [.ref a3_0, .ref a3_1, .ref a3_2, .ref a3_3, .int v3_4, .ref o5, .ref o6])), (a3_1, .inl (c3_1, 12, .inl f3_1)), (a3_3, .inl (c3_3, 120, .inl (fun j => nI (aO j)))), (o5, .inr (5, [.ref a5_0, .ref a5_1, .ref a5_2, .ref a5_3, .ref a5_4, .ref a5_5, .ref a5_6])), (a5_1, .inl (c5_1, 120, .inl f5_1)), (a5_2, .inl (c5_2, 120, .inl f5_2)), (a5_3, .inl (c5_3, 120, .inl f5_3)), (a5_4, .inl (c5_4, 120, .inl f5_4))] sz) (fun (u : Nat × (Nat → Nat) × (Nat → Nat) × (Nat → Nat) × (Nat → Int32) × (Nat → Int32) × (Nat → Int32)) => [(o4, .inr (4, [.int 1, .int (nI u.1), .ref a4_2, .ref a4_3, .ref a4_4, .ref a4_5, .ref a4_6, .ref o5, .ref o3])), (a4_2, .inl (c4_2, 120, .inl (fun j => nI (u.2.1 j)))), (a4_3, .inl (c4_3, 120, .inl (fun j => nI (u.2.2.1 j)))), (a4_4, .inl (c4_4, 120, .inl u.2.2.2.2.1)), (a4_5, .inl (c4_5, 120, .inl u.2.2.2.2.2.1)), (a4_6, .inl (c4_6, 120, .inl u.2.2.2.2.2.2)), (o3, .inr (3, [.ref a3_0, .ref a3_1, .ref a3_2, .ref a3_3, .int v3_4, .ref o5, .ref o6])), (a3_1, .inl (c3_1, 12, .inl f3_1)), (a3_3, .inl (c3_3, 120, .inl (fun j => nI (aO j)))), (o5, .inr (5, [.ref a5_0, .ref a5_1, .ref a5_2, .ref a5_3, .ref a5_4, .ref a5_5, .ref a5_6])), (a5_1, .inl (c5_1, 120, .inl f5_1)), (a5_2, .inl (c5_2, 120, .inl f5_2)), (a5_3, .inl (c5_3, 120, .inl f5_3)), (a5_4, .inl (c5_4, 120, .inl f5_4))])) (va_A [(o4, .inr (4, [.int v4_0, .int v4_1, .ref a4_2, .ref a4_3, .ref a4_4, .ref a4_5, .ref a4_6, .ref o5, .ref o3])), (a4_2, .inl (c4_2, 120, .inl (fun j => nI (ow j)))), (a4_3, .inl (c4_3, 120, .inl (fun j => nI (sA j)))), (a4_4, .inl (c4_4, 120, .inl f4_4)), (a4_5, .inl (c4_5, 120, .inl f4_5)), (a4_6, .inl (c4_6, 120, .inl f4_6)), (o3, .inr (3, [.ref a3_0, .ref a3_1, .ref a3_2, .ref a3_3, .int v3_4, .ref o5, .ref o6])), (a3_1, .inl (c3_1, 12, .inl f3_1)), (a3_3, .inl (c3_3, 120, .inl (fun j => nI (aO j)))), (o5, .inr (5, [.ref a5_0, .ref a5_1, .ref a5_2, .ref a5_3, .ref a5_4, .ref a5_5, .ref a5_6])), (a5_1, .inl (c5_1, 120, .inl f5_1)), (a5_2, .inl (c5_2, 120, .inl f5_2)), (a5_3, .inl (c5_3, 120, .inl f5_3)), (a5_4, .inl (c5_4, 120, .inl f5_4))] sz)) 0 0 (va_A [(o4, .inr (4, [.int v4_0, .int v4_1, .ref a4_2, .ref a4_3, .ref a4_4, .ref a4_5, .ref a4_6, .ref o5, .ref o3])), (a4_2, .inl (c4_2, 120, .inl (fun j => nI (ow j)))), (a4_3, .inl (c4_3, 120, .inl (fun j => nI (sA j)))), (a4_4, .inl (c4_4, 120, .inl f4_4)), (a4_5, .inl (c4_5, 120, .inl f4_5)), (a4_6, .inl (c4_6, 120, .inl f4_6)), (o3, .inr (3, [.ref a3_0, .ref a3_1, .ref a3_2, .ref a3_3, .int v3_4, .ref o5, .ref o6])), (a3_1, .inl (c3_1, 12, .inl f3_1)), (a3_3, .inl (c3_3, 120, .inl (fun j => nI (aO j)))), (o5, .inr (5, [.ref a5_0, .ref a5_1, .ref a5_2, .ref a5_3, .ref a5_4, .ref a5_5, .ref a5_6])), (a5_1, .inl (c5_1, 120, .inl f5_1)), (a5_2, .inl (c5_2, 120, .inl f5_2)), (a5_3, .inl (c5_3, 120, .inl f5_3)), (a5_4, .inl (c5_4, 120, .inl f5_4))] sz) := by
  refine kMet (y := yX4_make) (wsM := wsX4_make) (cc := cX4_make) (maxL := 5) (ret := none) (rm := ({ frames := 4, cells := 0, slots := 0, locals := 93 } : Room)) (mc := 0) (ms := 0) (av := [.ref o4]) (D := (dC, dI)) (wc := [(o4, .inr (4, [.int v4_0, .int v4_1, .ref a4_2, .ref a4_3, .ref a4_4, .ref a4_5, .ref a4_6, .ref o5, .ref o3])), (a4_2, .inl (c4_2, 120, .inl (fun j => nI (ow j)))), (a4_3, .inl (c4_3, 120, .inl (fun j => nI (sA j)))), (a4_4, .inl (c4_4, 120, .inl f4_4)), (a4_5, .inl (c4_5, 120, .inl f4_5)), (a4_6, .inl (c4_6, 120, .inl f4_6)), (o3, .inr (3, [.ref a3_0, .ref a3_1, .ref a3_2, .ref a3_3, .int v3_4, .ref o5, .ref o6])), (a3_1, .inl (c3_1, 12, .inl f3_1)), (a3_3, .inl (c3_3, 120, .inl (fun j => nI (aO j)))), (o5, .inr (5, [.ref a5_0, .ref a5_1, .ref a5_2, .ref a5_3, .ref a5_4, .ref a5_5, .ref a5_6])), (a5_1, .inl (c5_1, 120, .inl f5_1)), (a5_2, .inl (c5_2, 120, .inl f5_2)), (a5_3, .inl (c5_3, 120, .inl f5_3)), (a5_4, .inl (c5_4, 120, .inl f5_4))]) (tc := [(c4_2, .int), (c4_3, .int), (c4_4, .int), (c4_5, .int), (c4_6, .int), (c3_1, .int), (c3_3, .int), (c5_1, .int), (c5_2, .int), (c5_3, .int), (c5_4, .int)]) (sz := sz) (X := fun U => KAll (va_A [(o4, .inr (4, [.int v4_0, .int v4_1, .ref a4_2, .ref a4_3, .ref a4_4, .ref a4_5, .ref a4_6, .ref o5, .ref o3])), (a4_2, .inl (c4_2, 120, .inl (fun j => nI (ow j)))), (a4_3, .inl (c4_3, 120, .inl (fun j => nI (sA j)))), (a4_4, .inl (c4_4, 120, .inl f4_4)), (a4_5, .inl (c4_5, 120, .inl f4_5)), (a4_6, .inl (c4_6, 120, .inl f4_6)), (o3, .inr (3, [.ref a3_0, .ref a3_1, .ref a3_2, .ref a3_3, .int v3_4, .ref o5, .ref o6])), (a3_1, .inl (c3_1, 12, .inl f3_1)), (a3_3, .inl (c3_3, 120, .inl (fun j => nI (aO j)))), (o5, .inr (5, [.ref a5_0, .ref a5_1, .ref a5_2, .ref a5_3, .ref a5_4, .ref a5_5, .ref a5_6])), (a5_1, .inl (c5_1, 120, .inl f5_1)), (a5_2, .inl (c5_2, 120, .inl f5_2)), (a5_3, .inl (c5_3, 120, .inl f5_3)), (a5_4, .inl (c5_4, 120, .inl f5_4))] sz) U) (Qc := fun A => va_Qv (fun (u : Nat × (Nat → Nat) × (Nat → Nat) × (Nat → Nat) × (Nat → Int32) × (Nat → Int32) × (Nat → Int32)) => u.1 ≤ 120 ∧ PLI u.2.1 u.2.2.1 u.2.2.2.1 u.1 aO f3_1 12 0) (KPost (dC, dI) A (fun (u : Nat × (Nat → Nat) × (Nat → Nat) × (Nat → Nat) × (Nat → Int32) × (Nat → Int32) × (Nat → Int32)) => [(o4, .inr (4, [.int 1, .int (nI u.1), .ref a4_2, .ref a4_3, .ref a4_4, .ref a4_5, .ref a4_6, .ref o5, .ref o3])), (a4_2, .inl (c4_2, 120, .inl (fun j => nI (u.2.1 j)))), (a4_3, .inl (c4_3, 120, .inl (fun j => nI (u.2.2.1 j)))), (a4_4, .inl (c4_4, 120, .inl u.2.2.2.2.1)), (a4_5, .inl (c4_5, 120, .inl u.2.2.2.2.2.1)), (a4_6, .inl (c4_6, 120, .inl u.2.2.2.2.2.2)), (o3, .inr (3, [.ref a3_0, .ref a3_1, .ref a3_2, .ref a3_3, .int v3_4, .ref o5, .ref o6])), (a3_1, .inl (c3_1, 12, .inl f3_1)), (a3_3, .inl (c3_3, 120, .inl (fun j => nI (aO j)))), (o5, .inr (5, [.ref a5_0, .ref a5_1, .ref a5_2, .ref a5_3, .ref a5_4, .ref a5_5, .ref a5_6])), (a5_1, .inl (c5_1, 120, .inl f5_1)), (a5_2, .inl (c5_2, 120, .inl f5_2)), (a5_3, .inl (c5_3, 120, .inl f5_3)), (a5_4, .inl (c5_4, 120, .inl f5_4))])) A) (by decide) rfl (Nat.le_of_ble_eq_true rfl) ?_
  intro p e s m below meth c A ls E hr hlocks hnm hsz hAe hX h hl
  have hx := E.1
  have hb := E.2.1
  have hl : lv_has ls 5 [(0, .ref o4)] := hl
  have hX : KAll A s := by rw [← hAe]; exact hX
  obtain ⟨⟨tD, hZD, hTD⟩, ⟨tX, hZX, hTX⟩, ⟨tY, hZY, hTY⟩, ⟨tP, hZP, hTP⟩, ⟨tL, hZL, hTL⟩, ⟨tM, hZM, hTM⟩, hN0_134, hN0_60, hN0_96, hN1_83, hN1_87, hN3_49, hN3_52, hN4_44, hN4_69, hN5_33, hN6_102, hN6_67, hF37, hF40, hF50, hF53⟩ := id hX
  refine lv_aload_n hx hb dX4_make_0 rfl (lv_at hl 0 rfl) ?_
  refine lv_iconst (v := 0) hx hb dX4_make_1 (by decide) ?_
  refine k_put (v := .int 0) (ty := .int) (ws' := [(o4, .inr (4, [.int v4_0, .int 0, .ref a4_2, .ref a4_3, .ref a4_4, .ref a4_5, .ref a4_6, .ref o5, .ref o3])), (a4_2, .inl (c4_2, 120, .inl (fun j => nI (ow j)))), (a4_3, .inl (c4_3, 120, .inl (fun j => nI (sA j)))), (a4_4, .inl (c4_4, 120, .inl f4_4)), (a4_5, .inl (c4_5, 120, .inl f4_5)), (a4_6, .inl (c4_6, 120, .inl f4_6)), (o3, .inr (3, [.ref a3_0, .ref a3_1, .ref a3_2, .ref a3_3, .int v3_4, .ref o5, .ref o6])), (a3_1, .inl (c3_1, 12, .inl f3_1)), (a3_3, .inl (c3_3, 120, .inl (fun j => nI (aO j)))), (o5, .inr (5, [.ref a5_0, .ref a5_1, .ref a5_2, .ref a5_3, .ref a5_4, .ref a5_5, .ref a5_6])), (a5_1, .inl (c5_1, 120, .inl f5_1)), (a5_2, .inl (c5_2, 120, .inl f5_2)), (a5_3, .inl (c5_3, 120, .inl f5_3)), (a5_4, .inl (c5_4, 120, .inl f5_4))]) E h (fun w h => List.mem_cons_of_mem _ (List.mem_append_left _ (List.mem_append_left _ (List.mem_append_right _ h)))) tyX4_ok nmX4 0 rfl rfl 1 (by decide) (List.mem_of_getElem? (i := 1) rfl) rfl (by decide +kernel) rfl rfl (Nat.le_of_ble_eq_true rfl) rfl dX4_make_2 (fun H locs h => ?_)
  refine lv_iconst (v := 0) hx hb dX4_make_5 (by decide) ?_
  refine lv_istore_n (lv' := [(1, .int 0), (0, .ref o4)]) hx hb dX4_make_6 rfl hl (by decide) rfl (fun ls hl => ?_)
  refine k_loop (σ := Nat × Nat × (Nat → Nat) × (Nat → Nat) × (Nat → Nat) × (Nat → Int32) × (Nat → Int32) × (Nat → Int32)) (fun x9 => [(o4, .inr (4, [.int v4_0, .int (nI x9.2.1), .ref a4_2, .ref a4_3, .ref a4_4, .ref a4_5, .ref a4_6, .ref o5, .ref o3])), (a4_2, .inl (c4_2, 120, .inl (fun j => nI (x9.2.2.1 j)))), (a4_3, .inl (c4_3, 120, .inl (fun j => nI (x9.2.2.2.1 j)))), (a4_4, .inl (c4_4, 120, .inl x9.2.2.2.2.2.1)), (a4_5, .inl (c4_5, 120, .inl x9.2.2.2.2.2.2.1)), (a4_6, .inl (c4_6, 120, .inl x9.2.2.2.2.2.2.2)), (o3, .inr (3, [.ref a3_0, .ref a3_1, .ref a3_2, .ref a3_3, .int v3_4, .ref o5, .ref o6])), (a3_1, .inl (c3_1, 12, .inl f3_1)), (a3_3, .inl (c3_3, 120, .inl (fun j => nI (aO j)))), (o5, .inr (5, [.ref a5_0, .ref a5_1, .ref a5_2, .ref a5_3, .ref a5_4, .ref a5_5, .ref a5_6])), (a5_1, .inl (c5_1, 120, .inl f5_1)), (a5_2, .inl (c5_2, 120, .inl f5_2)), (a5_3, .inl (c5_3, 120, .inl f5_3)), (a5_4, .inl (c5_4, 120, .inl f5_4))]) (fun x9 => [(0, .ref o4), (1, .int (nI x9.1))]) (fun n9 x9 => x9.1 ≤ 12 ∧ n9 = 12 - x9.1 ∧ x9.2.1 ≤ x9.1 * 10 ∧ PLI x9.2.2.1 x9.2.2.2.1 x9.2.2.2.2.1 x9.2.1 aO f3_1 x9.1 10) ?_ (12 - 0) (0, 0, ow, sA, (fun _ => 0), f4_4, f4_5, f4_6) ⟨Nat.zero_le _, rfl, Nat.zero_le _, PLI_0 _ _ _ _ _ _ _⟩ h (lv_sub hl [1, 0] rfl)
  intro n9 x9 H locs ls hI h hl ih7
  obtain ⟨i, len, ow, sA, pW, n4, us, po⟩ := x9
  have hI : i ≤ 12 ∧ n9 = 12 - i ∧ len ≤ i * 10 ∧ PLI ow sA pW len aO f3_1 i 10 := hI
  have h : KS (dC, dI) A [(o4, .inr (4, [.int v4_0, .int (nI len), .ref a4_2, .ref a4_3, .ref a4_4, .ref a4_5, .ref a4_6, .ref o5, .ref o3])), (a4_2, .inl (c4_2, 120, .inl (fun j => nI (ow j)))), (a4_3, .inl (c4_3, 120, .inl (fun j => nI (sA j)))), (a4_4, .inl (c4_4, 120, .inl n4)), (a4_5, .inl (c4_5, 120, .inl us)), (a4_6, .inl (c4_6, 120, .inl po)), (o3, .inr (3, [.ref a3_0, .ref a3_1, .ref a3_2, .ref a3_3, .int v3_4, .ref o5, .ref o6])), (a3_1, .inl (c3_1, 12, .inl f3_1)), (a3_3, .inl (c3_3, 120, .inl (fun j => nI (aO j)))), (o5, .inr (5, [.ref a5_0, .ref a5_1, .ref a5_2, .ref a5_3, .ref a5_4, .ref a5_5, .ref a5_6])), (a5_1, .inl (c5_1, 120, .inl f5_1)), (a5_2, .inl (c5_2, 120, .inl f5_2)), (a5_3, .inl (c5_3, 120, .inl f5_3)), (a5_4, .inl (c5_4, 120, .inl f5_4))] [(c4_2, .int), (c4_3, .int), (c4_4, .int), (c4_5, .int), (c4_6, .int), (c3_1, .int), (c3_3, .int), (c5_1, .int), (c5_2, .int), (c5_3, .int), (c5_4, .int)] s H locs := h
  have hl : lv_has ls 5 [(0, .ref o4), (1, .int (nI i))] := hl
  obtain ⟨ho1, ho2, ho3, hPL⟩ := hI
  refine lv_iload_n hx hb dX4_make_7 rfl (lv_at hl 1 rfl) ?_
  refine lv_bipush (v := 12) hx hb dX4_make_8 (by decide) ?_
  refine lv_icmp_ge (tgt := 85) hx hb dX4_make_10 (by decide) (fun c_1 => ?_) (fun c_1 => ?_)
  · skip
    have i_1 : 12 ≤ i := (nI_leI (a := 12) (b := i) (by omega) (by omega)).mp c_1
    refine lv_aload_n hx hb dX4_make_85 rfl (lv_at hl 0 rfl) ?_
    refine lv_iconst (v := 1) hx hb dX4_make_86 (by decide) ?_
    refine k_put (v := .int 1) (ty := .boolean) (ws' := [(o4, .inr (4, [.int 1, .int (nI len), .ref a4_2, .ref a4_3, .ref a4_4, .ref a4_5, .ref a4_6, .ref o5, .ref o3])), (a4_2, .inl (c4_2, 120, .inl (fun j => nI (ow j)))), (a4_3, .inl (c4_3, 120, .inl (fun j => nI (sA j)))), (a4_4, .inl (c4_4, 120, .inl n4)), (a4_5, .inl (c4_5, 120, .inl us)), (a4_6, .inl (c4_6, 120, .inl po)), (o3, .inr (3, [.ref a3_0, .ref a3_1, .ref a3_2, .ref a3_3, .int v3_4, .ref o5, .ref o6])), (a3_1, .inl (c3_1, 12, .inl f3_1)), (a3_3, .inl (c3_3, 120, .inl (fun j => nI (aO j)))), (o5, .inr (5, [.ref a5_0, .ref a5_1, .ref a5_2, .ref a5_3, .ref a5_4, .ref a5_5, .ref a5_6])), (a5_1, .inl (c5_1, 120, .inl f5_1)), (a5_2, .inl (c5_2, 120, .inl f5_2)), (a5_3, .inl (c5_3, 120, .inl f5_3)), (a5_4, .inl (c5_4, 120, .inl f5_4))]) E h (fun w h => List.mem_cons_of_mem _ (List.mem_append_left _ (List.mem_append_left _ (List.mem_append_right _ h)))) tyX4_ok nmX4 0 rfl rfl 0 (by decide) (List.mem_of_getElem? (i := 7) rfl) rfl (by decide +kernel) (by decide) rfl (Nat.le_of_ble_eq_true rfl) rfl dX4_make_87 (fun H locs h => ?_)
    have hP9 := h.2.1.sub [0, 1, 2, 3, 4, 5, 6, 7, 8, 9, 10, 11, 12, 13] rfl
    have hD9 := h.2.2.1.sub (ws' := [(o4, .inr (4, [.int 1, .int (nI len), .ref a4_2, .ref a4_3, .ref a4_4, .ref a4_5, .ref a4_6, .ref o5, .ref o3])), (a4_2, .inl (c4_2, 120, .inl (fun j => nI (ow j)))), (a4_3, .inl (c4_3, 120, .inl (fun j => nI (sA j)))), (a4_4, .inl (c4_4, 120, .inl n4)), (a4_5, .inl (c4_5, 120, .inl us)), (a4_6, .inl (c4_6, 120, .inl po)), (o3, .inr (3, [.ref a3_0, .ref a3_1, .ref a3_2, .ref a3_3, .int v3_4, .ref o5, .ref o6])), (a3_1, .inl (c3_1, 12, .inl f3_1)), (a3_3, .inl (c3_3, 120, .inl (fun j => nI (aO j)))), (o5, .inr (5, [.ref a5_0, .ref a5_1, .ref a5_2, .ref a5_3, .ref a5_4, .ref a5_5, .ref a5_6])), (a5_1, .inl (c5_1, 120, .inl f5_1)), (a5_2, .inl (c5_2, 120, .inl f5_2)), (a5_3, .inl (c5_3, 120, .inl f5_3)), (a5_4, .inl (c5_4, 120, .inl f5_4))]) [0, 1, 2, 3, 4, 5, 6, 7, 8, 9, 10, 11, 12, 13] (by decide) rfl
    exact W.vret hx hb hr (fun t ht hW => ⟨⟨(len, ow, sA, pW, n4, us, po), rfl, ⟨by omega, (by have e9 : i = 12 := (by omega); subst e9; exact PLI_in hPL (by omega))⟩, (by rw [ht]; exact hP9), hD9⟩, h.2.2.2.1.F ht⟩) h.2.2.2.1.2.2 dX4_make_90 hlocks
  · skip
    have i_1 : ¬ 12 ≤ i := fun h9 => c_1 ((nI_leI (a := 12) (b := i) (by omega) (by omega)).mpr h9)
    refine lv_iconst (v := -1) hx hb dX4_make_13 (by decide) ?_
    refine lv_istore_n (lv' := [(2, .int (-1)), (0, .ref o4), (1, .int (nI i))]) hx hb dX4_make_14 rfl hl (by decide) rfl (fun ls hl => ?_)
    refine lv_aload_n hx hb dX4_make_15 rfl (lv_at hl 1 rfl) ?_
    refine k_get (v := .ref o3) E h (fun w h => List.mem_cons_of_mem _ (List.mem_append_left _ (List.mem_append_left _ (List.mem_append_right _ h)))) 0 rfl rfl 8 (by decide) (List.mem_of_getElem? (i := 2) rfl) rfl dX4_make_16 ?_
    refine k_get (v := .ref a3_1) E h (fun w h => List.mem_cons_of_mem _ (List.mem_append_left _ (List.mem_append_right _ h))) 6 rfl rfl 1 (by decide) (List.mem_of_getElem? (i := 3) rfl) rfl dX4_make_19 ?_
    refine lv_iload_n hx hb dX4_make_22 rfl (lv_at hl 2 rfl) ?_
    refine k_iald (v := f3_1 i) E h 7 5 rfl rfl (vp_in_nI (by omega) (by omega)) (by rw [nI_clamp (by omega)]) dX4_make_23 ?_
    have hn9 := IL_n hL3 (i := i) (by omega)
    refine k_topi (y := nI (lenN f3_1 i)) (hn9.1) ?_
    refine lv_iconst (v := 1) hx hb dX4_make_24 (by decide) ?_
    refine lv_isub hx hb dX4_make_25 ?_
    refine lv_istore_n (lv' := [(3, .int ((nI (lenN f3_1 i)) - 1)), (2, .int (-1)), (0, .ref o4), (1, .int (nI i))]) hx hb dX4_make_26 rfl hl (by decide) rfl (fun ls hl => ?_)
    refine k_loop (σ := Nat × Int32 × Nat × (Nat → Nat) × (Nat → Nat) × (Nat → Nat) × (Nat → Int32) × (Nat → Int32) × (Nat → Int32)) (fun x9 => [(o4, .inr (4, [.int v4_0, .int (nI x9.2.2.1), .ref a4_2, .ref a4_3, .ref a4_4, .ref a4_5, .ref a4_6, .ref o5, .ref o3])), (a4_2, .inl (c4_2, 120, .inl (fun j => nI (x9.2.2.2.1 j)))), (a4_3, .inl (c4_3, 120, .inl (fun j => nI (x9.2.2.2.2.1 j)))), (a4_4, .inl (c4_4, 120, .inl x9.2.2.2.2.2.2.1)), (a4_5, .inl (c4_5, 120, .inl x9.2.2.2.2.2.2.2.1)), (a4_6, .inl (c4_6, 120, .inl x9.2.2.2.2.2.2.2.2)), (o3, .inr (3, [.ref a3_0, .ref a3_1, .ref a3_2, .ref a3_3, .int v3_4, .ref o5, .ref o6])), (a3_1, .inl (c3_1, 12, .inl f3_1)), (a3_3, .inl (c3_3, 120, .inl (fun j => nI (aO j)))), (o5, .inr (5, [.ref a5_0, .ref a5_1, .ref a5_2, .ref a5_3, .ref a5_4, .ref a5_5, .ref a5_6])), (a5_1, .inl (c5_1, 120, .inl f5_1)), (a5_2, .inl (c5_2, 120, .inl f5_2)), (a5_3, .inl (c5_3, 120, .inl f5_3)), (a5_4, .inl (c5_4, 120, .inl f5_4))]) (fun x9 => [(0, .ref o4), (1, .int (nI i)), (2, .int x9.2.1), (3, .int ((nI x9.1) - 1))]) (fun n9 x9 => x9.1 ≤ lenN f3_1 i ∧ n9 = x9.1 ∧ x9.2.2.1 + x9.1 ≤ i * 10 + lenN f3_1 i ∧ PLI x9.2.2.2.1 x9.2.2.2.2.1 x9.2.2.2.2.2.1 x9.2.2.1 aO f3_1 i x9.1) ?_ (lenN f3_1 i) ((lenN f3_1 i), (-1), len, ow, sA, pW, n4, us, po) ⟨Nat.le_refl _, rfl, (by show len + lenN f3_1 i ≤ i * 10 + lenN f3_1 i; omega), PLI_in hPL (by show lenN f3_1 i ≤ 10; omega)⟩ h (lv_sub hl [2, 3, 1, 0] rfl)
    intro n9 x9 H locs ls hI h hl ih27
    obtain ⟨w1, nx, len, ow, sA, pW, n4, us, po⟩ := x9
    have hI : w1 ≤ lenN f3_1 i ∧ n9 = w1 ∧ len + w1 ≤ i * 10 + lenN f3_1 i ∧ PLI ow sA pW len aO f3_1 i w1 := hI
    have h : KS (dC, dI) A [(o4, .inr (4, [.int v4_0, .int (nI len), .ref a4_2, .ref a4_3, .ref a4_4, .ref a4_5, .ref a4_6, .ref o5, .ref o3])), (a4_2, .inl (c4_2, 120, .inl (fun j => nI (ow j)))), (a4_3, .inl (c4_3, 120, .inl (fun j => nI (sA j)))), (a4_4, .inl (c4_4, 120, .inl n4)), (a4_5, .inl (c4_5, 120, .inl us)), (a4_6, .inl (c4_6, 120, .inl po)), (o3, .inr (3, [.ref a3_0, .ref a3_1, .ref a3_2, .ref a3_3, .int v3_4, .ref o5, .ref o6])), (a3_1, .inl (c3_1, 12, .inl f3_1)), (a3_3, .inl (c3_3, 120, .inl (fun j => nI (aO j)))), (o5, .inr (5, [.ref a5_0, .ref a5_1, .ref a5_2, .ref a5_3, .ref a5_4, .ref a5_5, .ref a5_6])), (a5_1, .inl (c5_1, 120, .inl f5_1)), (a5_2, .inl (c5_2, 120, .inl f5_2)), (a5_3, .inl (c5_3, 120, .inl f5_3)), (a5_4, .inl (c5_4, 120, .inl f5_4))] [(c4_2, .int), (c4_3, .int), (c4_4, .int), (c4_5, .int), (c4_6, .int), (c3_1, .int), (c3_3, .int), (c5_1, .int), (c5_2, .int), (c5_3, .int), (c5_4, .int)] s H locs := h
    have hl : lv_has ls 5 [(0, .ref o4), (1, .int (nI i)), (2, .int nx), (3, .int ((nI w1) - 1))] := hl
    obtain ⟨hw1, hw2, hw3, hPL⟩ := hI
    have ed := mm_dn (a := w1) (by omega)
    refine lv_iload_n hx hb dX4_make_27 rfl (lv_at hl 3 rfl) ?_
    refine lv_if_lt (tgt := 79) hx hb dX4_make_28 (by decide) (fun c_2 => ?_) (fun c_2 => ?_)
    · skip
      have i_2 : ((nI w1) - 1).toInt < 0 := (fa_lt _ _).mp c_2
      refine lv_iinc (v := nI (i + 1)) (lv' := [(1, .int (nI (i + 1))), (0, .ref o4), (2, .int nx), (3, .int ((nI w1) - 1))]) hx hb dX4_make_79 hl (k := 1) rfl (nI_1 i) (by decide) rfl (fun ls hl => ?_)
      refine lv_goto (tgt := 7) hx hb dX4_make_82 (by decide) ?_
      exact ih7 (12 - (i + 1)) (i + 1, len, ow, sA, pW, n4, us, po) _ _ _ (by omega) ⟨(by show i + 1 ≤ 12; omega), rfl, (by show len ≤ (i + 1) * 10; omega), PLI_out hPL⟩ h (lv_sub hl [1, 0] rfl)
    · skip
      have i_2 : ¬ ((nI w1) - 1).toInt < 0 := fun h9 => c_2 ((fa_lt _ _).mpr h9)
      obtain ⟨w, rfl⟩ : ∃ w, w1 = w + 1 := ⟨w1 - 1, by omega⟩
      have hl : lv_has ls 5 [(0, .ref o4), (1, .int (nI i)), (2, .int nx), (3, .int (nI w))] := by rw [nI_pred] at hl; exact hl
      refine lv_iload_n hx hb dX4_make_31 rfl (lv_at hl 1 rfl) ?_
      refine lv_iload_n hx hb dX4_make_32 rfl (lv_at hl 3 rfl) ?_
      refine kc_i (wc := []) (wr := [(o4, .inr (4, [.int v4_0, .int (nI len), .ref a4_2, .ref a4_3, .ref a4_4, .ref a4_5, .ref a4_6, .ref o5, .ref o3])), (a4_2, .inl (c4_2, 120, .inl (fun j => nI (ow j)))), (a4_3, .inl (c4_3, 120, .inl (fun j => nI (sA j)))), (a4_4, .inl (c4_4, 120, .inl n4)), (a4_5, .inl (c4_5, 120, .inl us)), (a4_6, .inl (c4_6, 120, .inl po)), (o3, .inr (3, [.ref a3_0, .ref a3_1, .ref a3_2, .ref a3_3, .int v3_4, .ref o5, .ref o6])), (a3_1, .inl (c3_1, 12, .inl f3_1)), (a3_3, .inl (c3_3, 120, .inl (fun j => nI (aO j)))), (o5, .inr (5, [.ref a5_0, .ref a5_1, .ref a5_2, .ref a5_3, .ref a5_4, .ref a5_5, .ref a5_6])), (a5_1, .inl (c5_1, 120, .inl f5_1)), (a5_2, .inl (c5_2, 120, .inl f5_2)), (a5_3, .inl (c5_3, 120, .inl f5_3)), (a5_4, .inl (c5_4, 120, .inl f5_4))]) h (va_runSN (As := [.int (nI i), .int (nI w)]) (rest := []) E (c_slotN l dC dI _  (m9 := i) (i9 := w) ) ⟨va_cnB 2 E.2.2.2.2 gX4_make_X7_slot_n44 rfl rfl rfl hN4_44 (E.2.2.2.2 _ (List.mem_of_getElem? (i := 9) rfl)) (by decide +kernel) ⟨Nat.le_of_ble_eq_true rfl, Nat.le_of_ble_eq_true rfl⟩, E.2.2.2.2 _ (List.mem_of_getElem? (i := 8) rfl), trivial⟩ (kPreS h KX_true (fun _ _ _ => trivial) [] [] (by decide) rfl rfl) rfl rfl hl.1 rfl (lv_room (Nat.le_of_ble_eq_true rfl)) dX4_make_33 ⟨Nat.le_of_ble_eq_true rfl, Nat.le_of_ble_eq_true rfl⟩) [] [0, 1, 2, 3, 4, 5, 6, 7, 8, 9, 10, 11, 12, 13] rfl rfl (by decide) (by decide) (fun r_3 u_3 H locs hw_3 h => ?_)
      have h : KS (dC, dI) A [(o4, .inr (4, [.int v4_0, .int (nI len), .ref a4_2, .ref a4_3, .ref a4_4, .ref a4_5, .ref a4_6, .ref o5, .ref o3])), (a4_2, .inl (c4_2, 120, .inl (fun j => nI (ow j)))), (a4_3, .inl (c4_3, 120, .inl (fun j => nI (sA j)))), (a4_4, .inl (c4_4, 120, .inl n4)), (a4_5, .inl (c4_5, 120, .inl us)), (a4_6, .inl (c4_6, 120, .inl po)), (o3, .inr (3, [.ref a3_0, .ref a3_1, .ref a3_2, .ref a3_3, .int v3_4, .ref o5, .ref o6])), (a3_1, .inl (c3_1, 12, .inl f3_1)), (a3_3, .inl (c3_3, 120, .inl (fun j => nI (aO j)))), (o5, .inr (5, [.ref a5_0, .ref a5_1, .ref a5_2, .ref a5_3, .ref a5_4, .ref a5_5, .ref a5_6])), (a5_1, .inl (c5_1, 120, .inl f5_1)), (a5_2, .inl (c5_2, 120, .inl f5_2)), (a5_3, .inl (c5_3, 120, .inl f5_3)), (a5_4, .inl (c5_4, 120, .inl f5_4))] [(c4_2, .int), (c4_3, .int), (c4_4, .int), (c4_5, .int), (c4_6, .int), (c3_1, .int), (c3_3, .int), (c5_1, .int), (c5_2, .int), (c5_3, .int), (c5_4, .int)] s H locs := h
      have hw_3 : r_3 = nI (i * 10 + w) := by first | exact hw_3 | (simp only [Int32.toInt_toInt64] at hw_3; exact hw_3)
      refine k_topi (y := nI (i * 10 + w)) (hw_3) ?_
      refine W.eq (g2 := F0 m 36 ls [.int (nI (i * 10 + w))]) rfl ?_
      refine lv_istore (lv' := [(4, .int (nI (i * 10 + w))), (0, .ref o4), (1, .int (nI i)), (2, .int nx), (3, .int (nI w))]) hx hb dX4_make_36 hl (by decide) rfl (fun ls hl => ?_)
      refine lv_aload_n hx hb dX4_make_38 rfl (lv_at hl 1 rfl) ?_
      refine lv_iload_n hx hb dX4_make_39 rfl (lv_at hl 2 rfl) ?_
      refine lv_aload_n hx hb dX4_make_40 rfl (lv_at hl 1 rfl) ?_
      refine k_get (v := .ref o3) E h (fun w h => List.mem_cons_of_mem _ (List.mem_append_left _ (List.mem_append_left _ (List.mem_append_right _ h)))) 0 rfl rfl 8 (by decide) (List.mem_of_getElem? (i := 2) rfl) rfl dX4_make_41 ?_
      refine k_get (v := .ref a3_3) E h (fun w h => List.mem_cons_of_mem _ (List.mem_append_left _ (List.mem_append_right _ h))) 6 rfl rfl 3 (by decide) (List.mem_of_getElem? (i := 4) rfl) rfl dX4_make_44 ?_
      refine lv_iload hx hb dX4_make_47 (lv_at hl 0 rfl) ?_
      refine k_iald (v := nI (aO (i * 10 + w))) E h 8 6 rfl rfl (vp_in_nI (by omega) (by omega)) (by rw [nI_clamp (by omega)]) dX4_make_49 ?_
      have hac := hA i w (by omega) (by omega)
      refine lv_iload_n hx hb dX4_make_50 rfl (lv_at hl 3 rfl) ?_
      refine kc_i (wc := [(o4, .inr (4, [.int v4_0, .int (nI len), .ref a4_2, .ref a4_3, .ref a4_4, .ref a4_5, .ref a4_6, .ref o5, .ref o3])), (a4_2, .inl (c4_2, 120, .inl (fun j => nI (ow j)))), (a4_3, .inl (c4_3, 120, .inl (fun j => nI (sA j)))), (a4_4, .inl (c4_4, 120, .inl n4)), (a4_5, .inl (c4_5, 120, .inl us)), (o5, .inr (5, [.ref a5_0, .ref a5_1, .ref a5_2, .ref a5_3, .ref a5_4, .ref a5_5, .ref a5_6])), (a5_1, .inl (c5_1, 120, .inl f5_1)), (a5_2, .inl (c5_2, 120, .inl f5_2)), (a5_3, .inl (c5_3, 120, .inl f5_3)), (a5_4, .inl (c5_4, 120, .inl f5_4))]) (wr := [(a4_6, .inl (c4_6, 120, .inl po)), (o3, .inr (3, [.ref a3_0, .ref a3_1, .ref a3_2, .ref a3_3, .int v3_4, .ref o5, .ref o6])), (a3_1, .inl (c3_1, 12, .inl f3_1)), (a3_3, .inl (c3_3, 120, .inl (fun j => nI (aO j))))]) h (va_runV (As := [.int (nI i), .int (nI (aO (i * 10 + w))), .int nx]) (rest := []) E (c_X4_findOrAdd l dC dI _ (o4 := o4) (v4_0 := v4_0) (a4_2 := a4_2) (a4_3 := a4_3) (a4_4 := a4_4) (a4_5 := a4_5) (a4_6 := a4_6) (o5 := o5) (o3 := o3) (c4_2 := c4_2) (c4_3 := c4_3) (c4_4 := c4_4) (f4_4 := n4) (c4_5 := c4_5) (f4_5 := us) (a5_0 := a5_0) (a5_1 := a5_1) (a5_2 := a5_2) (a5_3 := a5_3) (a5_4 := a5_4) (a5_5 := a5_5) (a5_6 := a5_6) (c5_1 := c5_1) (f5_1 := f5_1) (c5_2 := c5_2) (f5_2 := f5_2) (c5_3 := c5_3) (f5_3 := f5_3) (c5_4 := c5_4) (f5_4 := f5_4) (p2 := nx) (len := len) (ow := ow) (sA := sA) (i9 := i) (st9 := (aO (i * 10 + w))) (hlen := (by omega)) (hi9 := (by omega)) (hst := hac) (hs1 := (fun p hp => by obtain ⟨a1, a2, a3, a4⟩ := hPL.1 p hp; exact ⟨a1, by rw [a3]; exact hA _ _ a1 a2⟩))) (cwV 3 E.2.2.2.2 gX4_make_X4_findOrAdd rfl rfl rfl (by decide +kernel) ⟨Nat.le_of_ble_eq_true rfl, Nat.le_of_ble_eq_true rfl⟩) (kPreV (q0 := 0) (ci := 4) h KAll.blind (KAll.call hX h [0, 1, 2, 3, 4, 9, 10, 11, 12, 13] rfl) [0, 1, 2, 3, 4, 9, 10, 11, 12, 13] [0, 1, 2, 3, 7, 8, 9, 10] (by decide) rfl rfl rfl rfl) rfl rfl hl.1 rfl (lv_room (Nat.le_of_ble_eq_true rfl)) dX4_make_51 ⟨Nat.le_of_ble_eq_true rfl, Nat.le_of_ble_eq_true rfl⟩) [0, 1, 2, 3, 4, 9, 10, 11, 12, 13] [5, 6, 7, 8] rfl rfl (by decide) (by decide) (fun r_4 u_4 H locs hw_4 h => ?_)
      obtain ⟨g9, lenx, z_5, z_6, z_7, z_8⟩ := u_4
      have h : KS (dC, dI) A [(a4_6, .inl (c4_6, 120, .inl po)), (o3, .inr (3, [.ref a3_0, .ref a3_1, .ref a3_2, .ref a3_3, .int v3_4, .ref o5, .ref o6])), (a3_1, .inl (c3_1, 12, .inl f3_1)), (a3_3, .inl (c3_3, 120, .inl (fun j => nI (aO j)))), (o4, .inr (4, [.int v4_0, .int (nI lenx), .ref a4_2, .ref a4_3, .ref a4_4, .ref a4_5, .ref a4_6, .ref o5, .ref o3])), (a4_2, .inl (c4_2, 120, .inl (fun j => nI (z_5 j)))), (a4_3, .inl (c4_3, 120, .inl (fun j => nI (z_6 j)))), (a4_4, .inl (c4_4, 120, .inl z_7)), (a4_5, .inl (c4_5, 120, .inl z_8)), (o5, .inr (5, [.ref a5_0, .ref a5_1, .ref a5_2, .ref a5_3, .ref a5_4, .ref a5_5, .ref a5_6])), (a5_1, .inl (c5_1, 120, .inl f5_1)), (a5_2, .inl (c5_2, 120, .inl f5_2)), (a5_3, .inl (c5_3, 120, .inl f5_3)), (a5_4, .inl (c5_4, 120, .inl f5_4))] [(c4_2, .int), (c4_3, .int), (c4_4, .int), (c4_5, .int), (c4_6, .int), (c3_1, .int), (c3_3, .int), (c5_1, .int), (c5_2, .int), (c5_3, .int), (c5_4, .int)] s H locs := h
      have hw_4 : r_4 = nI g9 ∧ g9 < lenx ∧ ((lenx = len ∧ z_5 = ow ∧ z_6 = sA) ∨ (lenx = len + 1 ∧ z_5 = mUpd ow len i ∧ z_6 = mUpd sA len (aO (i * 10 + w)))) := by first | exact hw_4 | (simp only [Int32.toInt_toInt64] at hw_4; exact hw_4)
      refine k_topi (y := nI g9) (hw_4.1) ?_
      have hg9 := hw_4.2.1
      have hFR := hw_4.2.2
      have hlx : lenx ≤ len + 1 := by rcases hFR with z | z <;> omega
      refine W.eq (g2 := F0 m 54 ls [.int (nI g9)]) rfl ?_
      refine lv_istore_n (lv' := [(2, .int (nI g9)), (4, .int (nI (i * 10 + w))), (0, .ref o4), (1, .int (nI i)), (3, .int (nI w))]) hx hb dX4_make_54 rfl hl (by decide) rfl (fun ls hl => ?_)
      refine lv_aload_n hx hb dX4_make_55 rfl (lv_at hl 2 rfl) ?_
      refine k_get (v := .ref a4_5) E h (fun w h => List.mem_cons_of_mem _ (List.mem_append_left _ (List.mem_append_left _ (List.mem_append_right _ h)))) 4 rfl rfl 5 (by decide) (List.mem_of_getElem? (i := 5) rfl) rfl dX4_make_56 ?_
      refine lv_iload_n hx hb dX4_make_59 rfl (lv_at hl 0 rfl) ?_
      refine lv_dup2_11 hx hb dX4_make_60 rfl rfl ?_
      refine k_iald (v := z_8 g9) E h 8 3 rfl rfl (vp_in_nI (by omega) (by omega)) (by rw [nI_clamp (by omega)]) dX4_make_61 ?_
      refine lv_iconst (v := 1) hx hb dX4_make_62 (by decide) ?_
      refine lv_iadd hx hb dX4_make_63 ?_
      refine k_iast (j := g9) (ws' := [(a4_6, .inl (c4_6, 120, .inl po)), (o3, .inr (3, [.ref a3_0, .ref a3_1, .ref a3_2, .ref a3_3, .int v3_4, .ref o5, .ref o6])), (a3_1, .inl (c3_1, 12, .inl f3_1)), (a3_3, .inl (c3_3, 120, .inl (fun j => nI (aO j)))), (o4, .inr (4, [.int v4_0, .int (nI lenx), .ref a4_2, .ref a4_3, .ref a4_4, .ref a4_5, .ref a4_6, .ref o5, .ref o3])), (a4_2, .inl (c4_2, 120, .inl (fun j => nI (z_5 j)))), (a4_3, .inl (c4_3, 120, .inl (fun j => nI (z_6 j)))), (a4_4, .inl (c4_4, 120, .inl z_7)), (a4_5, .inl (c4_5, 120, .inl (upd z_8 g9 ((z_8 g9) + 1)))), (o5, .inr (5, [.ref a5_0, .ref a5_1, .ref a5_2, .ref a5_3, .ref a5_4, .ref a5_5, .ref a5_6])), (a5_1, .inl (c5_1, 120, .inl f5_1)), (a5_2, .inl (c5_2, 120, .inl f5_2)), (a5_3, .inl (c5_3, 120, .inl f5_3)), (a5_4, .inl (c5_4, 120, .inl f5_4))]) E h 8 3 rfl rfl (vp_in_nI (by omega) (by omega)) (nI_clamp (by omega)) rfl dX4_make_64 (fun H locs h => ?_)
      refine lv_aload_n hx hb dX4_make_65 rfl (lv_at hl 2 rfl) ?_
      refine k_get (v := .ref a4_6) E h (fun w h => List.mem_cons_of_mem _ (List.mem_append_left _ (List.mem_append_left _ (List.mem_append_right _ h)))) 4 rfl rfl 6 (by decide) (List.mem_of_getElem? (i := 6) rfl) rfl dX4_make_66 ?_
      refine W.eq (g2 := F0 m 69 ls [.ref a4_6]) rfl ?_
      refine lv_iload hx hb dX4_make_69 (lv_at hl 1 rfl) ?_
      refine lv_iload_n hx hb dX4_make_71 rfl (lv_at hl 0 rfl) ?_
      refine k_iast (j := (i * 10 + w)) (ws' := [(a4_6, .inl (c4_6, 120, .inl (upd po (i * 10 + w) (nI g9)))), (o3, .inr (3, [.ref a3_0, .ref a3_1, .ref a3_2, .ref a3_3, .int v3_4, .ref o5, .ref o6])), (a3_1, .inl (c3_1, 12, .inl f3_1)), (a3_3, .inl (c3_3, 120, .inl (fun j => nI (aO j)))), (o4, .inr (4, [.int v4_0, .int (nI lenx), .ref a4_2, .ref a4_3, .ref a4_4, .ref a4_5, .ref a4_6, .ref o5, .ref o3])), (a4_2, .inl (c4_2, 120, .inl (fun j => nI (z_5 j)))), (a4_3, .inl (c4_3, 120, .inl (fun j => nI (z_6 j)))), (a4_4, .inl (c4_4, 120, .inl z_7)), (a4_5, .inl (c4_5, 120, .inl (upd z_8 g9 ((z_8 g9) + 1)))), (o5, .inr (5, [.ref a5_0, .ref a5_1, .ref a5_2, .ref a5_3, .ref a5_4, .ref a5_5, .ref a5_6])), (a5_1, .inl (c5_1, 120, .inl f5_1)), (a5_2, .inl (c5_2, 120, .inl f5_2)), (a5_3, .inl (c5_3, 120, .inl f5_3)), (a5_4, .inl (c5_4, 120, .inl f5_4))]) E h 0 4 rfl rfl (vp_in_nI (by omega) (by omega)) (nI_clamp (by omega)) rfl dX4_make_72 (fun H locs h => ?_)
      refine lv_iinc (v := (nI w) - 1) (lv' := [(3, .int ((nI w) - 1)), (2, .int (nI g9)), (4, .int (nI (i * 10 + w))), (0, .ref o4), (1, .int (nI i))]) hx hb dX4_make_73 hl (k := 4) rfl (mm_m1 _) (by decide) rfl (fun ls hl => ?_)
      refine lv_goto (tgt := 27) hx hb dX4_make_76 (by decide) ?_
      exact ih27 w (w, (nI g9), lenx, z_5, z_6, (if lenx = len then pW else mUpd pW len w), z_7, upd z_8 g9 ((z_8 g9) + 1), upd po (i * 10 + w) (nI g9)) _ _ _ (by omega) ⟨by omega, rfl, (by show lenx + w ≤ _; omega), PLI_step hPL (by omega) (by omega) hFR⟩ (k_perm h [4, 5, 6, 7, 8, 0, 1, 2, 3, 9, 10, 11, 12, 13] (by decide) rfl rfl) (lv_sub hl [3, 4, 1, 0] rfl)
