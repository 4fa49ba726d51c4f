/-- how many of the first k acts have word w; how many of these are on a bus -/
def cI (f : Nat → Int32) (base : Nat) (w : Int32) : Nat → Nat
  | 0 => 0
  | k + 1 => cI f base w k + (if (f (base + k)).toInt = w.toInt then 1 else 0)
def cB (K f : Nat → Int32) (base : Nat) (w : Int32) : Nat → Nat
  | 0 => 0
  | k + 1 => cB K f base w k + (if (f (base + k)).toInt = w.toInt ∧ pN (K (base + k)) = 0 then 1 else 0)
theorem cI_in {f : Nat → Int32} {base k : Nat} {w : Int32} (h : (f (base + k)).toInt = w.toInt) : cI f base w (k + 1) = cI f base w k + 1 := by
  show _ + _ = _
  rw [if_pos h]
theorem cI_no {f : Nat → Int32} {base k : Nat} {w : Int32} (h : ¬ (f (base + k)).toInt = w.toInt) : cI f base w (k + 1) = cI f base w k := by
  show _ + _ = _
  rw [if_neg h]
  rfl
theorem cB_in {K f : Nat → Int32} {base k : Nat} {w : Int32} (h : (f (base + k)).toInt = w.toInt) (h2 : pN (K (base + k)) = 0) : cB K f base w (k + 1) = cB K f base w k + 1 := by
  show _ + _ = _
  rw [if_pos ⟨h, h2⟩]
theorem cB_no {K f : Nat → Int32} {base k : Nat} {w : Int32} (h : ¬ ((f (base + k)).toInt = w.toInt ∧ pN (K (base + k)) = 0)) : cB K f base w (k + 1) = cB K f base w k := by
  show _ + _ = _
  rw [if_neg h]
  rfl
theorem cI_le (f : Nat → Int32) (base : Nat) (w : Int32) : ∀ k, cI f base w k ≤ k
  | 0 => Nat.le_refl 0
  | k + 1 => by
    have := cI_le f base w k
    show _ + _ ≤ _
    split <;> omega
theorem cI_mono (f : Nat → Int32) (base : Nat) (w : Int32) {i : Nat} : ∀ n, i ≤ n → cI f base w i ≤ cI f base w n
  | 0, h => by
    rw [show i = 0 by omega]
    exact Nat.le_refl _
  | n + 1, h => by
    by_cases c : i = n + 1
    · rw [c]
      exact Nat.le_refl _
    · have := cI_mono f base w (i := i) n (by omega)
      show _ ≤ cI f base w n + _
      omega
theorem cB_mono (K f : Nat → Int32) (base : Nat) (w : Int32) {i : Nat} : ∀ n, i ≤ n → cB K f base w i ≤ cB K f base w n
  | 0, h => by
    rw [show i = 0 by omega]
    exact Nat.le_refl _
  | n + 1, h => by
    by_cases c : i = n + 1
    · rw [c]
      exact Nat.le_refl _
    · have := cB_mono K f base w (i := i) n (by omega)
      show _ ≤ cB K f base w n + _
      omega
/-- nothing lies between two places with the same count -/
theorem cB_same (K f : Nat → Int32) (base : Nat) (w : Int32) {i : Nat} : ∀ n, i ≤ n → cI f base w i = cI f base w n → cB K f base w i = cB K f base w n
  | 0, h, _ => by rw [show i = 0 by omega]
  | n + 1, h, e => by
    by_cases c : i = n + 1
    · rw [c]
    · have h1 := cI_mono f base w (i := i) n (by omega)
      by_cases d : (f (base + n)).toInt = w.toInt
      · rw [cI_in d] at e
        omega
      · rw [cI_no d] at e
        rw [cB_no (fun z => d z.1)]
        exact cB_same K f base w n (by omega) e
/-- what actOf() answers -/
def AOf (f : Nat → Int32) (base : Nat) (w : Int32) (len k : Nat) (r : Int32) : Prop := (∃ b, b < len ∧ r = nI (base + b) ∧ (f (base + b)).toInt = w.toInt ∧ cI f base w b = k) ∨ (r = -1 ∧ cI f base w len ≤ k)
theorem AOf_rng {f : Nat → Int32} {base len k : Nat} {w r : Int32} (h : AOf f base w len k r) (hb : base ≤ 110) (hl : len ≤ 10) : -1 ≤ r.toInt ∧ r.toInt < 120 := by
  rcases h with ⟨b, h1, h2, _⟩ | ⟨h1, _⟩
  · rw [h2, nI_toInt (by omega)]
    omega
  · rw [h1]
    decide
theorem AOf_neg {f : Nat → Int32} {base len k : Nat} {w r : Int32} (h : AOf f base w len k r) (hb : base ≤ 110) (hl : len ≤ 10) (hr : r.toInt < 0) : cI f base w len ≤ k := by
  rcases h with ⟨b, h1, h2, _⟩ | ⟨_, h2⟩
  · rw [h2, nI_toInt (by omega)] at hr
    omega
  · exact h2
theorem AOf_pos {f : Nat → Int32} {base len k : Nat} {w r : Int32} (h : AOf f base w len k r) (hr : ¬ r.toInt < 0) : ∃ b, b < len ∧ r = nI (base + b) ∧ (f (base + b)).toInt = w.toInt ∧ cI f base w b = k := by
  rcases h with h | ⟨h1, _⟩
  · exact h
  · rw [h1] at hr
    exact absurd (by decide) hr
theorem AOf_lt {f : Nat → Int32} {base len k : Nat} {w r : Int32} (h : AOf f base w len k r) (hk : ¬ cI f base w len ≤ k) : ∃ b, b < len ∧ r = nI (base + b) ∧ (f (base + b)).toInt = w.toInt ∧ cI f base w b = k := by
  rcases h with h | ⟨_, h⟩
  · exact h
  · exact absurd h hk
theorem cI_next {f : Nat → Int32} {base len k b : Nat} {w : Int32} (h1 : b < len) (h2 : (f (base + b)).toInt = w.toInt) (h3 : cI f base w b = k) : k + 1 ≤ cI f base w len := by
  have := cI_mono f base w (i := b + 1) len h1
  rw [cI_in h2] at this
  omega
theorem mm_dec {a : Nat} (h : 0 < a) : nI a + Int32.ofInt (-1) = nI (a - 1) := by
  rw [mm_m1]
  exact pk_sub (b := 1) h
def FAx (fa : Nat → Int32) (N : Nat) : Prop := ∀ x, x < N → -1 ≤ (fa x).toInt ∧ (fa x).toInt < 120
theorem FAx_upd {fa : Nat → Int32} {N k : Nat} {v : Int32} (h : FAx fa N) (hv : -1 ≤ v.toInt ∧ v.toInt < 120) : FAx (upd fa k v) N := by
  intro x hx
  unfold upd
  split
  · exact hv
  · exact h x hx
theorem FAx_add {fa : Nat → Int32} {N : Nat} {v : Int32} (h : FAx fa N) (hv : -1 ≤ v.toInt ∧ v.toInt < 120) : FAx (upd fa N v) (N + 1) := by
  intro x hx
  unfold upd
  split
  · exact hv
  · exact h x (by omega)
theorem kbits {n m : Nat} (h : 2 ^ n ≤ m) (hm : m ≤ 1000) : n < 10 := by
  apply Decidable.byContradiction
  intro hn
  have : 2 ^ 10 ≤ 2 ^ n := Nat.pow_le_pow_right (by decide) (by omega)
  have e : (2 : Nat) ^ 10 = 1024 := rfl
  omega
def pRok (pR : Nat → Nat) : Prop := ∀ p, p < 120 → pR p < 12
theorem pRok_upd {pR : Nat → Nat} {k v : Nat} (h : pRok pR) (hv : v < 12) : pRok (mUpd pR k v) := by
  intro p hp
  unfold mUpd
  split
  · exact hv
  · exact h p hp
set_option maxHeartbeats 4000000 in
set_option maxRecDepth 100000 in
theorem c_actOfN (l : Launch) (dC : Nat → ClassId) (dI : Nat → Nat → Nat) (sz : Nat) (o8 : Nat) (a8_0 : Nat) (a8_1 : Nat) (a8_2 : Nat) (a8_3 : Nat) (a8_4 : Nat) (a8_5 : Nat) (v8_6 : Int32) (a8_7 : Nat) (a8_8 : Nat) (a8_9 : Nat) (a8_10 : Nat) (a8_11 : Nat) (v8_12 : Int32) (a8_13 : Nat) (a8_14 : Nat) (a8_15 : Nat) (a8_16 : Nat) (a8_17 : Nat) (a8_18 : Nat) (a8_19 : Nat) (a8_20 : Nat) (a8_21 : Nat) (a8_22 : Nat) (a8_23 : Nat) (a8_24 : Nat) (v8_25 : Int32) (v8_26 : Int32) (a8_27 : Nat) (a8_28 : Nat) (a8_29 : Nat) (a8_30 : Nat) (a8_31 : Nat) (v8_32 : Int32) (v8_33 : Int32) (v8_34 : Int32) (v8_35 : Int32) (a8_36 : Nat) (a8_37 : Nat) (v8_38 : Int32) (v8_39 : Int32) (v8_40 : Int32) (a8_41 : Nat) (a8_42 : Nat) (v8_43 : Int32) (c8_11 : ClassId) (f8_11 : Nat → Int32) (c8_15 : ClassId) (f8_15 : Nat → Int32) (p1 : Int32) (i9 : Nat) (k9 : Nat) (hL8 : IL f8_11) (hp : i9 < 12) (hk9 : k9 ≤ 1000) : Met l yX8_actOf wsX8_actOf ({ frames := 0, cells := 0, slots := 0, locals := 0 } : Room) (va_Pc [.ref o8, .int (nI i9), .int p1, .int (nI k9)] (KPre (dC, dI) [(o8, .inr (8, [.ref a8_0, .ref a8_1, .ref a8_2, .ref a8_3, .ref a8_4, .ref a8_5, .int v8_6, .ref a8_7, .ref a8_8, .ref a8_9, .ref a8_10, .ref a8_11, .int v8_12, .ref a8_13, .ref a8_14, .ref a8_15, .ref a8_16, .ref a8_17, .ref a8_18, .ref a8_19, .ref a8_20, .ref a8_21, .ref a8_22, .ref a8_23, .ref a8_24, .int v8_25, .int v8_26, .ref a8_27, .ref a8_28, .ref a8_29, .ref a8_30, .ref a8_31, .int v8_32, .int v8_33, .int v8_34, .int v8_35, .ref a8_36, .ref a8_37, .int v8_38, .int v8_39, .int v8_40, .ref a8_41, .ref a8_42, .int v8_43])), (a8_11, .inl (c8_11, 12, .inl f8_11)), (a8_15, .inl (c8_15, 120, .inl f8_15))] [(c8_11, .int), (c8_15, .int)] sz (fun _ => True))) (va_Qi (fun (r : Int32) (u : Unit) => AOf f8_15 (i9 * 10) p1 (lenN f8_11 i9) k9 r) (KPost (dC, dI) (va_A [(o8, .inr (8, [.ref a8_0, .ref a8_1, .ref a8_2, .ref a8_3, .ref a8_4, .ref a8_5, .int v8_6, .ref a8_7, .ref a8_8, .ref a8_9, .ref a8_10, .ref a8_11, .int v8_12, .ref a8_13, .ref a8_14, .ref a8_15, .ref a8_16, .ref a8_17, .ref a8_18, .ref a8_19, .ref a8_20, .ref a8_21, .ref a8_22, .ref a8_23, .ref a8_24, .int v8_25, .int v8_26, .ref a8_27, .ref a8_28, .ref a8_29, .ref a8_30, .ref a8_31, .int v8_32, .int v8_33, .int v8_34, .int v8_35, .ref a8_36, .ref a8_37, .int v8_38, .int v8_39, .int v8_40, .ref a8_41, .ref a8_42, .int v8_43])), (a8_11, .inl (c8_11, 12, .inl f8_11)), (a8_15, .inl (c8_15, 120, .inl f8_15))] sz) (fun (u : Unit) => [(o8, .inr (8, [.ref a8_0, .ref a8_1, .ref a8_2, .ref a8_3, .ref a8_4, .ref a8_5, .int v8_6, .ref a8_7, .ref a8_8, .ref a8_9, .ref a8_10, .ref a8_11, .int v8_12, .ref a8_13, .ref a8_14, .ref a8_15, .ref a8_16, .ref a8_17, .ref a8_18, .ref a8_19, .ref a8_20, .ref a8_21, .ref a8_22, .ref a8_23, .ref a8_24, .int v8_25, .int v8_26, .ref a8_27, .ref a8_28, .ref a8_29, .ref a8_30, .ref a8_31, .int v8_32, .int v8_33, .int v8_34, .int v8_35, .ref a8_36, .ref a8_37, .int v8_38, .int v8_39, .int v8_40, .ref a8_41, .ref a8_42, .int v8_43])), (a8_11, .inl (c8_11, 12, .inl f8_11)), (a8_15, .inl (c8_15, 120, .inl f8_15))])) (va_A [(o8, .inr (8, [.ref a8_0, .ref a8_1, .ref a8_2, .ref a8_3, .ref a8_4, .ref a8_5, .int v8_6, .ref a8_7, .ref a8_8, .ref a8_9, .ref a8_10, .ref a8_11, .int v8_12, .ref a8_13, .ref a8_14, .ref a8_15, .ref a8_16, .ref a8_17, .ref a8_18, .ref a8_19, .ref a8_20, .ref a8_21, .ref a8_22, .ref a8_23, .ref a8_24, .int v8_25, .int v8_26, .ref a8_27, .ref a8_28, .ref a8_29, .ref a8_30, .ref a8_31, .int v8_32, .int v8_33, .int v8_34, .int v8_35, .ref a8_36, .ref a8_37, .int v8_38, .int v8_39, .int v8_40, .ref a8_41, .ref a8_42, .int v8_43])), (a8_11, .inl (c8_11, 12, .inl f8_11)), (a8_15, .inl (c8_15, 120, .inl f8_15))] sz)) 0 0 (va_A [(o8, .inr (8, [.ref a8_0, .ref a8_1, .ref a8_2, .ref a8_3, .ref a8_4, .ref a8_5, .int v8_6, .ref a8_7, .ref a8_8, .ref a8_9, .ref a8_10, .ref a8_11, .int v8_12, .ref a8_13, .ref a8_14, .ref a8_15, .ref a8_16, .ref a8_17, .ref a8_18, .ref a8_19, .ref a8_20, .ref a8_21, .ref a8_22, .ref a8_23, .ref a8_24, .int v8_25, .int v8_26, .ref a8_27, .ref a8_28, .ref a8_29, .ref a8_30, .ref a8_31, .int v8_32, .int v8_33, .int v8_34, .int v8_35, .ref a8_36, .ref a8_37, .int v8_38, .int v8_39, .int v8_40, .ref a8_41, .ref a8_42, .int v8_43])), (a8_11, .inl (c8_11, 12, .inl f8_11)), (a8_15, .inl (c8_15, 120, .inl f8_15))] sz) := by
  refine kMet (y := yX8_actOf) (wsM := wsX8_actOf) (cc := cX8_actOf) (maxL := 6) (ret := (some .int)) (rm := ({ frames := 0, cells := 0, slots := 0, locals := 0 } : Room)) (mc := 0) (ms := 0) (av := [.ref o8, .int (nI i9), .int p1, .int (nI k9)]) (D := (dC, dI)) (wc := [(o8, .inr (8, [.ref a8_0, .ref a8_1, .ref a8_2, .ref a8_3, .ref a8_4, .ref a8_5, .int v8_6, .ref a8_7, .ref a8_8, .ref a8_9, .ref a8_10, .ref a8_11, .int v8_12, .ref a8_13, .ref a8_14, .ref a8_15, .ref a8_16, .ref a8_17, .ref a8_18, .ref a8_19, .ref a8_20, .ref a8_21, .ref a8_22, .ref a8_23, .ref a8_24, .int v8_25, .int v8_26, .ref a8_27, .ref a8_28, .ref a8_29, .ref a8_30, .ref a8_31, .int v8_32, .int v8_33, .int v8_34, .int v8_35, .ref a8_36, .ref a8_37, .int v8_38, .int v8_39, .int v8_40, .ref a8_41, .ref a8_42, .int v8_43])), (a8_11, .inl (c8_11, 12, .inl f8_11)), (a8_15, .inl (c8_15, 120, .inl f8_15))]) (tc := [(c8_11, .int), (c8_15, .int)]) (sz := sz) (X := fun _ => True) (Qc := fun A => va_Qi (fun (r : Int32) (u : Unit) => AOf f8_15 (i9 * 10) p1 (lenN f8_11 i9) k9 r) (KPost (dC, dI) A (fun (u : Unit) => [(o8, .inr (8, [.ref a8_0, .ref a8_1, .ref a8_2, .ref a8_3, .ref a8_4, .ref a8_5, .int v8_6, .ref a8_7, .ref a8_8, .ref a8_9, .ref a8_10, .ref a8_11, .int v8_12, .ref a8_13, .ref a8_14, .ref a8_15, .ref a8_16, .ref a8_17, .ref a8_18, .ref a8_19, .ref a8_20, .ref a8_21, .ref a8_22, .ref a8_23, .ref a8_24, .int v8_25, .int v8_26, .ref a8_27, .ref a8_28, .ref a8_29, .ref a8_30, .ref a8_31, .int v8_32, .int v8_33, .int v8_34, .int v8_35, .ref a8_36, .ref a8_37, .int v8_38, .int v8_39, .int v8_40, .ref a8_41, .ref a8_42, .int v8_43])), (a8_11, .inl (c8_11, 12, .inl f8_11)), (a8_15, .inl (c8_15, 120, .inl f8_15))])) A) (by decide) rfl (Nat.le_of_ble_eq_true rfl) ?_
  intro p e s m below meth c A ls E hr hlocks hnm hsz hAe hX h hl
  have hx := E.1
  have hb := E.2.1
  have hl : lv_has ls 6 [(0, .ref o8), (1, .int (nI i9)), (2, .int p1), (3, .int (nI k9))] := hl
  have hn9 := IL_n hL8 hp
  refine lv_iload_n hx hb dX8_actOf_0 rfl (lv_at hl 3 rfl) ?_
  refine lv_istore (lv' := [(4, .int (nI k9)), (0, .ref o8), (1, .int (nI i9)), (2, .int p1), (3, .int (nI k9))]) hx hb dX8_actOf_1 hl (Nat.le_of_ble_eq_true rfl) rfl (fun ls hl => ?_)
  refine lv_iconst (v := 0) hx hb dX8_actOf_3 kic_0 ?_
  refine lv_istore (lv' := [(5, .int 0), (4, .int (nI k9)), (0, .ref o8), (1, .int (nI i9)), (2, .int p1), (3, .int (nI k9))]) hx hb dX8_actOf_4 hl (Nat.le_of_ble_eq_true rfl) rfl (fun ls hl => ?_)
  refine k_loop (σ := Nat × Nat) (fun x9 => [(o8, .inr (8, [.ref a8_0, .ref a8_1, .ref a8_2, .ref a8_3, .ref a8_4, .ref a8_5, .int v8_6, .ref a8_7, .ref a8_8, .ref a8_9, .ref a8_10, .ref a8_11, .int v8_12, .ref a8_13, .ref a8_14, .ref a8_15, .ref a8_16, .ref a8_17, .ref a8_18, .ref a8_19, .ref a8_20, .ref a8_21, .ref a8_22, .ref a8_23, .ref a8_24, .int v8_25, .int v8_26, .ref a8_27, .ref a8_28, .ref a8_29, .ref a8_30, .ref a8_31, .int v8_32, .int v8_33, .int v8_34, .int v8_35, .ref a8_36, .ref a8_37, .int v8_38, .int v8_39, .int v8_40, .ref a8_41, .ref a8_42, .int v8_43])), (a8_11, .inl (c8_11, 12, .inl f8_11)), (a8_15, .inl (c8_15, 120, .inl f8_15))]) (fun x9 => [(0, .ref o8), (1, .int (nI i9)), (2, .int p1), (3, .int (nI k9)), (4, .int (nI x9.2)), (5, .int (nI x9.1))]) (fun n9 x9 => x9.1 ≤ (lenN f8_11 i9) ∧ n9 = (lenN f8_11 i9) - x9.1 ∧ x9.2 + cI f8_15 (i9 * 10) p1 x9.1 = k9) ?_ ((lenN f8_11 i9) - 0) (0, k9) ⟨Nat.zero_le _, rfl, rfl⟩ h (lv_sub hl [2, 3, 4, 5, 1, 0] rfl)
  intro n9 x9 H locs ls hI h hl ih6
  obtain ⟨i, lf⟩ := x9
  have hI : i ≤ (lenN f8_11 i9) ∧ n9 = (lenN f8_11 i9) - i ∧ lf + cI f8_15 (i9 * 10) p1 i = k9 := hI
  have h : KS (dC, dI) A [(o8, .inr (8, [.ref a8_0, .ref a8_1, .ref a8_2, .ref a8_3, .ref a8_4, .ref a8_5, .int v8_6, .ref a8_7, .ref a8_8, .ref a8_9, .ref a8_10, .ref a8_11, .int v8_12, .ref a8_13, .ref a8_14, .ref a8_15, .ref a8_16, .ref a8_17, .ref a8_18, .ref a8_19, .ref a8_20, .ref a8_21, .ref a8_22, .ref a8_23, .ref a8_24, .int v8_25, .int v8_26, .ref a8_27, .ref a8_28, .ref a8_29, .ref a8_30, .ref a8_31, .int v8_32, .int v8_33, .int v8_34, .int v8_35, .ref a8_36, .ref a8_37, .int v8_38, .int v8_39, .int v8_40, .ref a8_41, .ref a8_42, .int v8_43])), (a8_11, .inl (c8_11, 12, .inl f8_11)), (a8_15, .inl (c8_15, 120, .inl f8_15))] [(c8_11, .int), (c8_15, .int)] s H locs := h
  have hl : lv_has ls 6 [(0, .ref o8), (1, .int (nI i9)), (2, .int p1), (3, .int (nI k9)), (4, .int (nI lf)), (5, .int (nI i))] := hl
  obtain ⟨hi1, hi2, hi3⟩ := hI
  refine lv_iload hx hb dX8_actOf_6 (lv_at hl 5 rfl) ?_
  refine lv_aload_n hx hb dX8_actOf_8 rfl (lv_at hl 0 rfl) ?_
  refine k_get (v := .ref a8_11) E h (fun w h => List.mem_cons_of_mem _ (List.mem_append_right _ h)) 0 rfl rfl 11 (Nat.le_of_ble_eq_true rfl) (List.mem_of_getElem? (i := 1) rfl) rfl dX8_actOf_9 ?_
  refine lv_iload_n hx hb dX8_actOf_12 rfl (lv_at hl 1 rfl) ?_
  refine k_iald (v := f8_11 i9) E h 1 0 rfl rfl (vp_in_nI (by omega) (by omega)) (by rw [nI_clamp (by omega)]) dX8_actOf_13 ?_
  refine k_topi (y := nI (lenN f8_11 i9)) (hn9.1) ?_
  refine lv_icmp_ge (tgt := 58) hx hb dX8_actOf_14 rfl (fun c_1 => ?_) (fun c_1 => ?_)
  · skip
    have i_1 : (lenN f8_11 i9) ≤ i := (nI_leI (a := (lenN f8_11 i9)) (b := i) (by omega) (by omega)).mp c_1
    refine lv_iconst (v := -1) hx hb dX8_actOf_58 kic_m1 ?_
    have hP9 := h.2.1.sub [0, 1, 2] rfl
    have hD9 := h.2.2.1.sub (ws' := [(o8, .inr (8, [.ref a8_0, .ref a8_1, .ref a8_2, .ref a8_3, .ref a8_4, .ref a8_5, .int v8_6, .ref a8_7, .ref a8_8, .ref a8_9, .ref a8_10, .ref a8_11, .int v8_12, .ref a8_13, .ref a8_14, .ref a8_15, .ref a8_16, .ref a8_17, .ref a8_18, .ref a8_19, .ref a8_20, .ref a8_21, .ref a8_22, .ref a8_23, .ref a8_24, .int v8_25, .int v8_26, .ref a8_27, .ref a8_28, .ref a8_29, .ref a8_30, .ref a8_31, .int v8_32, .int v8_33, .int v8_34, .int v8_35, .ref a8_36, .ref a8_37, .int v8_38, .int v8_39, .int v8_40, .ref a8_41, .ref a8_42, .int v8_43])), (a8_11, .inl (c8_11, 12, .inl f8_11)), (a8_15, .inl (c8_15, 120, .inl f8_15))]) [0, 1, 2] (by decide) rfl
    exact W.iret (v := (-1)) hx hb hr (fun t ht hW => ⟨⟨(-1), (), rfl, Or.inr ⟨rfl, by have e9 : i = (lenN f8_11 i9) := (by omega); rw [← e9]; omega⟩, (by rw [ht]; exact hP9), hD9⟩, h.2.2.2.1.F ht⟩) h.2.2.2.1.2.2 dX8_actOf_59 hlocks
  · skip
    have i_1 : ¬ (lenN f8_11 i9) ≤ i := fun h9 => c_1 ((nI_leI (a := (lenN f8_11 i9)) (b := i) (by omega) (by omega)).mpr h9)
    refine lv_aload_n hx hb dX8_actOf_17 rfl (lv_at hl 0 rfl) ?_
    refine k_get (v := .ref a8_15) E h (fun w h => List.mem_cons_of_mem _ (List.mem_append_right _ h)) 0 rfl rfl 15 (Nat.le_of_ble_eq_true rfl) (List.mem_of_getElem? (i := 2) rfl) rfl dX8_actOf_18 ?_
    refine lv_bipush (v := 10) hx hb dX8_actOf_21 kbi_10 ?_
    refine lv_iload_n hx hb dX8_actOf_23 rfl (lv_at hl 1 rfl) ?_
    refine lv_imul hx hb dX8_actOf_24 ?_
    refine k_topi (y := nI (10 * i9)) (pk_mul 10 i9) ?_
    refine lv_iload hx hb dX8_actOf_25 (lv_at hl 5 rfl) ?_
    refine lv_iadd hx hb dX8_actOf_27 ?_
    refine k_topi (y := nI ((10 * i9) + i)) (nI_add (10 * i9) i) ?_
    refine k_topi (y := nI (i9 * 10 + i)) (by rw [Nat.mul_comm]) ?_
    refine k_iald (v := f8_15 (i9 * 10 + i)) E h 2 1 rfl rfl (vp_in_nI (by omega) (by omega)) (by rw [nI_clamp (by omega)]) dX8_actOf_28 ?_
    refine lv_iload_n hx hb dX8_actOf_29 rfl (lv_at hl 2 rfl) ?_
    refine lv_icmp_eq (tgt := 36) hx hb dX8_actOf_30 rfl (fun c_2 => ?_) (fun c_2 => ?_)
    · skip
      have i_2 : (f8_15 (i9 * 10 + i)).toInt = p1.toInt := (fa_eq _ _).mp c_2
      refine lv_iload hx hb dX8_actOf_36 (lv_at hl 4 rfl) ?_
      refine lv_if_ne (tgt := 49) hx hb dX8_actOf_38 rfl (fun c_3 => ?_) (fun c_3 => ?_)
      · skip
        have i_3 : ¬ lf = 0 := fun h9 => c_3 ((nI_eq (a := lf) (b := 0) (by omega) (by omega)).mpr h9)
        refine lv_iinc (v := nI (lf - 1)) (lv' := [(4, .int (nI (lf - 1))), (0, .ref o8), (1, .int (nI i9)), (2, .int p1), (3, .int (nI k9)), (5, .int (nI i))]) hx hb dX8_actOf_49 hl (k := 4) rfl (mm_dec (by omega)) (by decide) rfl (fun ls hl => ?_)
        refine lv_iinc (v := nI (i + 1)) (lv' := [(5, .int (nI (i + 1))), (4, .int (nI (lf - 1))), (0, .ref o8), (1, .int (nI i9)), (2, .int p1), (3, .int (nI k9))]) hx hb dX8_actOf_52 hl (k := 5) rfl (nI_1 i) (by decide) rfl (fun ls hl => ?_)
        refine lv_goto (tgt := 6) hx hb dX8_actOf_55 rfl ?_
        exact ih6 ((lenN f8_11 i9) - (i + 1)) (i + 1, (lf - 1)) _ _ _ (by omega) ⟨by omega, rfl, (by first | (rw [cI_no (by assumption)]; exact hi3) | (show lf - 1 + _ = _; rw [cI_in (by assumption)]; omega))⟩ h (lv_sub hl [2, 3, 4, 5, 1, 0] rfl)
      · skip
        have i_3 : lf = 0 := (nI_eq (a := lf) (b := 0) (by omega) (by omega)).mp c_3
        refine lv_bipush (v := 10) hx hb dX8_actOf_41 kbi_10 ?_
        refine lv_iload_n hx hb dX8_actOf_43 rfl (lv_at hl 1 rfl) ?_
        refine lv_imul hx hb dX8_actOf_44 ?_
        refine k_topi (y := nI (10 * i9)) (pk_mul 10 i9) ?_
        refine lv_iload hx hb dX8_actOf_45 (lv_at hl 5 rfl) ?_
        refine lv_iadd hx hb dX8_actOf_47 ?_
        refine k_topi (y := nI ((10 * i9) + i)) (nI_add (10 * i9) i) ?_
        refine k_topi (y := nI (i9 * 10 + i)) (by rw [Nat.mul_comm]) ?_
        have hP9 := h.2.1.sub [0, 1, 2] rfl
        have hD9 := h.2.2.1.sub (ws' := [(o8, .inr (8, [.ref a8_0, .ref a8_1, .ref a8_2, .ref a8_3, .ref a8_4, .ref a8_5, .int v8_6, .ref a8_7, .ref a8_8, .ref a8_9, .ref a8_10, .ref a8_11, .int v8_12, .ref a8_13, .ref a8_14, .ref a8_15, .ref a8_16, .ref a8_17, .ref a8_18, .ref a8_19, .ref a8_20, .ref a8_21, .ref a8_22, .ref a8_23, .ref a8_24, .int v8_25, .int v8_26, .ref a8_27, .ref a8_28, .ref a8_29, .ref a8_30, .ref a8_31, .int v8_32, .int v8_33, .int v8_34, .int v8_35, .ref a8_36, .ref a8_37, .int v8_38, .int v8_39, .int v8_40, .ref a8_41, .ref a8_42, .int v8_43])), (a8_11, .inl (c8_11, 12, .inl f8_11)), (a8_15, .inl (c8_15, 120, .inl f8_15))]) [0, 1, 2] (by decide) rfl
        exact W.iret (v := nI (i9 * 10 + i)) hx hb hr (fun t ht hW => ⟨⟨nI (i9 * 10 + i), (), rfl, Or.inl ⟨i, by omega, rfl, by assumption, by omega⟩, (by rw [ht]; exact hP9), hD9⟩, h.2.2.2.1.F ht⟩) h.2.2.2.1.2.2 dX8_actOf_48 hlocks
    · skip
      have i_2 : ¬ (f8_15 (i9 * 10 + i)).toInt = p1.toInt := fun h9 => c_2 ((fa_eq _ _).mpr h9)
      refine lv_goto (tgt := 52) hx hb dX8_actOf_33 rfl ?_
      refine lv_iinc (v := nI (i + 1)) (lv' := [(5, .int (nI (i + 1))), (0, .ref o8), (1, .int (nI i9)), (2, .int p1), (3, .int (nI k9)), (4, .int (nI lf))]) hx hb dX8_actOf_52 hl (k := 5) rfl (nI_1 i) (by decide) rfl (fun ls hl => ?_)
      refine lv_goto (tgt := 6) hx hb dX8_actOf_55 rfl ?_
      exact ih6 ((lenN f8_11 i9) - (i + 1)) (i + 1, lf) _ _ _ (by omega) ⟨by omega, rfl, (by first | (rw [cI_no (by assumption)]; exact hi3) | (show lf - 1 + _ = _; rw [cI_in (by assumption)]; omega))⟩ h (lv_sub hl [1, 2, 3, 4, 5, 0] rfl)
set_option maxHeartbeats 4000000 in
set_option maxRecDepth 100000 in
theorem c_X8_actsAt (l : Launch) (dC : Nat → ClassId) (dI : Nat → Nat → Nat) (sz : Nat) (o8 : Nat) (a8_0 : Nat) (a8_1 : Nat) (a8_2 : Nat) (a8_3 : Nat) (a8_4 : Nat) (a8_5 : Nat) (v8_6 : Int32) (a8_7 : Nat) (a8_8 : Nat) (a8_9 : Nat) (a8_10 : Nat) (a8_11 : Nat) (v8_12 : Int32) (a8_13 : Nat) (a8_14 : Nat) (a8_15 : Nat) (a8_16 : Nat) (a8_17 : Nat) (a8_18 : Nat) (a8_19 : Nat) (a8_20 : Nat) (a8_21 : Nat) (a8_22 : Nat) (a8_23 : Nat) (a8_24 : Nat) (v8_25 : Int32) (v8_26 : Int32) (a8_27 : Nat) (a8_28 : Nat) (a8_29 : Nat) (a8_30 : Nat) (a8_31 : Nat) (v8_32 : Int32) (v8_33 : Int32) (v8_34 : Int32) (v8_35 : Int32) (a8_36 : Nat) (a8_37 : Nat) (v8_38 : Int32) (v8_39 : Int32) (v8_40 : Int32) (a8_41 : Nat) (a8_42 : Nat) (v8_43 : Int32) (c8_11 : ClassId) (f8_11 : Nat → Int32) (c8_15 : ClassId) (f8_15 : Nat → Int32) (c8_20 : ClassId) (c8_21 : ClassId) (f8_21 : Nat → Int32) (pR : Nat → Nat) (pl : Nat) (hL8 : IL f8_11) (hp : pl < 120) (hpR : pRok pR) : Met l yX8_actsAt wsX8_actsAt ({ frames := 1, cells := 0, slots := 0, locals := 25 } : Room) (va_Pc [.ref o8, .int (nI pl)] (KPre (dC, dI) [(o8, .inr (8, [.ref a8_0, .ref a8_1, .ref a8_2, .ref a8_3, .ref a8_4, .ref a8_5, .int v8_6, .ref a8_7, .ref a8_8, .ref a8_9, .ref a8_10, .ref a8_11, .int v8_12, .ref a8_13, .ref a8_14, .ref a8_15, .ref a8_16, .ref a8_17, .ref a8_18, .ref a8_19, .ref a8_20, .ref a8_21, .ref a8_22, .ref a8_23, .ref a8_24, .int v8_25, .int v8_26, .ref a8_27, .ref a8_28, .ref a8_29, .ref a8_30, .ref a8_31, .int v8_32, .int v8_33, .int v8_34, .int v8_35, .ref a8_36, .ref a8_37, .int v8_38, .int v8_39, .int v8_40, .ref a8_41, .ref a8_42, .int v8_43])), (a8_11, .inl (c8_11, 12, .inl f8_11)), (a8_15, .inl (c8_15, 120, .inl f8_15)), (a8_20, .inl (c8_20, 120, .inl (fun j => nI (pR j)))), (a8_21, .inl (c8_21, 120, .inl f8_21))] [(c8_11, .int), (c8_15, .int), (c8_20, .int), (c8_21, .int)] sz (fun _ => True))) (va_Qi (fun (r : Int32) (u : Unit) => r = nI (cI f8_15 (pR pl * 10) (f8_21 pl) (lenN f8_11 (pR pl)))) (KPost (dC, dI) (va_A [(o8, .inr (8, [.ref a8_0, .ref a8_1, .ref a8_2, .ref a8_3, .ref a8_4, .ref a8_5, .int v8_6, .ref a8_7, .ref a8_8, .ref a8_9, .ref a8_10, .ref a8_11, .int v8_12, .ref a8_13, .ref a8_14, .ref a8_15, .ref a8_16, .ref a8_17, .ref a8_18, .ref a8_19, .ref a8_20, .ref a8_21, .ref a8_22, .ref a8_23, .ref a8_24, .int v8_25, .int v8_26, .ref a8_27, .ref a8_28, .ref a8_29, .ref a8_30, .ref a8_31, .int v8_32, .int v8_33, .int v8_34, .int v8_35, .ref a8_36, .ref a8_37, .int v8_38, .int v8_39, .int v8_40, .ref a8_41, .ref a8_42, .int v8_43])), (a8_11, .inl (c8_11, 12, .inl f8_11)), (a8_15, .inl (c8_15, 120, .inl f8_15)), (a8_20, .inl (c8_20, 120, .inl (fun j => nI (pR j)))), (a8_21, .inl (c8_21, 120, .inl f8_21))] sz) (fun (u : Unit) => [(o8, .inr (8, [.ref a8_0, .ref a8_1, .ref a8_2, .ref a8_3, .ref a8_4, .ref a8_5, .int v8_6, .ref a8_7, .ref a8_8, .ref a8_9, .ref a8_10, .ref a8_11, .int v8_12, .ref a8_13, .ref a8_14, .ref a8_15, .ref a8_16, .ref a8_17, .ref a8_18, .ref a8_19, .ref a8_20, .ref a8_21, .ref a8_22, .ref a8_23, .ref a8_24, .int v8_25, .int v8_26, .ref a8_27, .ref a8_28, .ref a8_29, .ref a8_30, .ref a8_31, .int v8_32, .int v8_33, .int v8_34, .int v8_35, .ref a8_36, .ref a8_37, .int v8_38, .int v8_39, .int v8_40, .ref a8_41, .ref a8_42, .int v8_43])), (a8_11, .inl (c8_11, 12, .inl f8_11)), (a8_15, .inl (c8_15, 120, .inl f8_15)), (a8_20, .inl (c8_20, 120, .inl (fun j => nI (pR j)))), (a8_21, .inl (c8_21, 120, .inl f8_21))])) (va_A [(o8, .inr (8, [.ref a8_0, .ref a8_1, .ref a8_2, .ref a8_3, .ref a8_4, .ref a8_5, .int v8_6, .ref a8_7, .ref a8_8, .ref a8_9, .ref a8_10, .ref a8_11, .int v8_12, .ref a8_13, .ref a8_14, .ref a8_15, .ref a8_16, .ref a8_17, .ref a8_18, .ref a8_19, .ref a8_20, .ref a8_21, .ref a8_22, .ref a8_23, .ref a8_24, .int v8_25, .int v8_26, .ref a8_27, .ref a8_28, .ref a8_29, .ref a8_30, .ref a8_31, .int v8_32, .int v8_33, .int v8_34, .int v8_35, .ref a8_36, .ref a8_37, .int v8_38, .int v8_39, .int v8_40, .ref a8_41, .ref a8_42, .int v8_43])), (a8_11, .inl (c8_11, 12, .inl f8_11)), (a8_15, .inl (c8_15, 120, .inl f8_15)), (a8_20, .inl (c8_20, 120, .inl (fun j => nI (pR j)))), (a8_21, .inl (c8_21, 120, .inl f8_21))] sz)) 0 0 (va_A [(o8, .inr (8, [.ref a8_0, .ref a8_1, .ref a8_2, .ref a8_3, .ref a8_4, .ref a8_5, .int v8_6, .ref a8_7, .ref a8_8, .ref a8_9, .ref a8_10, .ref a8_11, .int v8_12, .ref a8_13, .ref a8_14, .ref a8_15, .ref a8_16, .ref a8_17, .ref a8_18, .ref a8_19, .ref a8_20, .ref a8_21, .ref a8_22, .ref a8_23, .ref a8_24, .int v8_25, .int v8_26, .ref a8_27, .ref a8_28, .ref a8_29, .ref a8_30, .ref a8_31, .int v8_32, .int v8_33, .int v8_34, .int v8_35, .ref a8_36, .ref a8_37, .int v8_38, .int v8_39, .int v8_40, .ref a8_41, .ref a8_42, .int v8_43])), (a8_11, .inl (c8_11, 12, .inl f8_11)), (a8_15, .inl (c8_15, 120, .inl f8_15)), (a8_20, .inl (c8_20, 120, .inl (fun j => nI (pR j)))), (a8_21, .inl (c8_21, 120, .inl f8_21))] sz) := by
  refine kMet (y := yX8_actsAt) (wsM := wsX8_actsAt) (cc := cX8_actsAt) (maxL := 3) (ret := (some .int)) (rm := ({ frames := 1, cells := 0, slots := 0, locals := 25 } : Room)) (mc := 0) (ms := 0) (av := [.ref o8, .int (nI pl)]) (D := (dC, dI)) (wc := [(o8, .inr (8, [.ref a8_0, .ref a8_1, .ref a8_2, .ref a8_3, .ref a8_4, .ref a8_5, .int v8_6, .ref a8_7, .ref a8_8, .ref a8_9, .ref a8_10, .ref a8_11, .int v8_12, .ref a8_13, .ref a8_14, .ref a8_15, .ref a8_16, .ref a8_17, .ref a8_18, .ref a8_19, .ref a8_20, .ref a8_21, .ref a8_22, .ref a8_23, .ref a8_24, .int v8_25, .int v8_26, .ref a8_27, .ref a8_28, .ref a8_29, .ref a8_30, .ref a8_31, .int v8_32, .int v8_33, .int v8_34, .int v8_35, .ref a8_36, .ref a8_37, .int v8_38, .int v8_39, .int v8_40, .ref a8_41, .ref a8_42, .int v8_43])), (a8_11, .inl (c8_11, 12, .inl f8_11)), (a8_15, .inl (c8_15, 120, .inl f8_15)), (a8_20, .inl (c8_20, 120, .inl (fun j => nI (pR j)))), (a8_21, .inl (c8_21, 120, .inl f8_21))]) (tc := [(c8_11, .int), (c8_15, .int), (c8_20, .int), (c8_21, .int)]) (sz := sz) (X := fun _ => True) (Qc := fun A => va_Qi (fun (r : Int32) (u : Unit) => r = nI (cI f8_15 (pR pl * 10) (f8_21 pl) (lenN f8_11 (pR pl)))) (KPost (dC, dI) A (fun (u : Unit) => [(o8, .inr (8, [.ref a8_0, .ref a8_1, .ref a8_2, .ref a8_3, .ref a8_4, .ref a8_5, .int v8_6, .ref a8_7, .ref a8_8, .ref a8_9, .ref a8_10, .ref a8_11, .int v8_12, .ref a8_13, .ref a8_14, .ref a8_15, .ref a8_16, .ref a8_17, .ref a8_18, .ref a8_19, .ref a8_20, .ref a8_21, .ref a8_22, .ref a8_23, .ref a8_24, .int v8_25, .int v8_26, .ref a8_27, .ref a8_28, .ref a8_29, .ref a8_30, .ref a8_31, .int v8_32, .int v8_33, .int v8_34, .int v8_35, .ref a8_36, .ref a8_37, .int v8_38, .int v8_39, .int v8_40, .ref a8_41, .ref a8_42, .int v8_43])), (a8_11, .inl (c8_11, 12, .inl f8_11)), (a8_15, .inl (c8_15, 120, .inl f8_15)), (a8_20, .inl (c8_20, 120, .inl (fun j => nI (pR j)))), (a8_21, .inl (c8_21, 120, .inl f8_21))])) A) (by decide) rfl (Nat.le_of_ble_eq_true rfl) ?_
  intro p e s m below meth c A ls E hr hlocks hnm hsz hAe hX h hl
  have hx := E.1
  have hb := E.2.1
  have hl : lv_has ls 3 [(0, .ref o8), (1, .int (nI pl))] := hl
  have hq9 := hpR pl hp
  have hn9 := IL_n hL8 hq9
  have hc9 := cI_le f8_15 (pR pl * 10) (f8_21 pl) (lenN f8_11 (pR pl))
  refine lv_iconst (v := 0) hx hb dX8_actsAt_0 kic_0 ?_
  refine lv_istore_n (lv' := [(2, .int 0), (0, .ref o8), (1, .int (nI pl))]) hx hb dX8_actsAt_1 rfl hl (Nat.le_of_ble_eq_true rfl) rfl (fun ls hl => ?_)
  refine k_loop (σ := Nat) (fun x9 => [(o8, .inr (8, [.ref a8_0, .ref a8_1, .ref a8_2, .ref a8_3, .ref a8_4, .ref a8_5, .int v8_6, .ref a8_7, .ref a8_8, .ref a8_9, .ref a8_10, .ref a8_11, .int v8_12, .ref a8_13, .ref a8_14, .ref a8_15, .ref a8_16, .ref a8_17, .ref a8_18, .ref a8_19, .ref a8_20, .ref a8_21, .ref a8_22, .ref a8_23, .ref a8_24, .int v8_25, .int v8_26, .ref a8_27, .ref a8_28, .ref a8_29, .ref a8_30, .ref a8_31, .int v8_32, .int v8_33, .int v8_34, .int v8_35, .ref a8_36, .ref a8_37, .int v8_38, .int v8_39, .int v8_40, .ref a8_41, .ref a8_42, .int v8_43])), (a8_11, .inl (c8_11, 12, .inl f8_11)), (a8_15, .inl (c8_15, 120, .inl f8_15)), (a8_20, .inl (c8_20, 120, .inl (fun j => nI (pR j)))), (a8_21, .inl (c8_21, 120, .inl f8_21))]) (fun x9 => [(0, .ref o8), (1, .int (nI pl)), (2, .int (nI x9))]) (fun n9 x9 => x9 ≤ (cI f8_15 (pR pl * 10) (f8_21 pl) (lenN f8_11 (pR pl))) ∧ n9 = (cI f8_15 (pR pl * 10) (f8_21 pl) (lenN f8_11 (pR pl))) - x9) ?_ ((cI f8_15 (pR pl * 10) (f8_21 pl) (lenN f8_11 (pR pl))) - 0) 0 ⟨Nat.zero_le _, rfl⟩ h (lv_sub hl [1, 2, 0] rfl)
  intro n9 x9 H locs ls hI h hl ih2
  obtain ⟨n, rfl⟩ : ∃ z, z = x9 := ⟨_, rfl⟩
  have hI : n ≤ (cI f8_15 (pR pl * 10) (f8_21 pl) (lenN f8_11 (pR pl))) ∧ n9 = (cI f8_15 (pR pl * 10) (f8_21 pl) (lenN f8_11 (pR pl))) - n := hI
  have h : KS (dC, dI) A [(o8, .inr (8, [.ref a8_0, .ref a8_1, .ref a8_2, .ref a8_3, .ref a8_4, .ref a8_5, .int v8_6, .ref a8_7, .ref a8_8, .ref a8_9, .ref a8_10, .ref a8_11, .int v8_12, .ref a8_13, .ref a8_14, .ref a8_15, .ref a8_16, .ref a8_17, .ref a8_18, .ref a8_19, .ref a8_20, .ref a8_21, .ref a8_22, .ref a8_23, .ref a8_24, .int v8_25, .int v8_26, .ref a8_27, .ref a8_28, .ref a8_29, .ref a8_30, .ref a8_31, .int v8_32, .int v8_33, .int v8_34, .int v8_35, .ref a8_36, .ref a8_37, .int v8_38, .int v8_39, .int v8_40, .ref a8_41, .ref a8_42, .int v8_43])), (a8_11, .inl (c8_11, 12, .inl f8_11)), (a8_15, .inl (c8_15, 120, .inl f8_15)), (a8_20, .inl (c8_20, 120, .inl (fun j => nI (pR j)))), (a8_21, .inl (c8_21, 120, .inl f8_21))] [(c8_11, .int), (c8_15, .int), (c8_20, .int), (c8_21, .int)] s H locs := h
  have hl : lv_has ls 3 [(0, .ref o8), (1, .int (nI pl)), (2, .int (nI n))] := hl
  obtain ⟨hc1, hc2⟩ := hI
  refine lv_aload_n hx hb dX8_actsAt_2 rfl (lv_at hl 0 rfl) ?_
  refine lv_aload_n hx hb dX8_actsAt_3 rfl (lv_at hl 0 rfl) ?_
  refine k_get (v := .ref a8_20) E h (fun w h => List.mem_cons_of_mem _ (List.mem_append_right _ h)) 0 rfl rfl 20 (Nat.le_of_ble_eq_true rfl) (List.mem_of_getElem? (i := 1) rfl) rfl dX8_actsAt_4 ?_
  refine lv_iload_n hx hb dX8_actsAt_7 rfl (lv_at hl 1 rfl) ?_
  refine k_iald (v := nI (pR pl)) E h 3 2 rfl rfl (vp_in_nI (by omega) (by omega)) (by rw [nI_clamp (by omega)]) dX8_actsAt_8 ?_
  refine lv_aload_n hx hb dX8_actsAt_9 rfl (lv_at hl 0 rfl) ?_
  refine k_get (v := .ref a8_21) E h (fun w h => List.mem_cons_of_mem _ (List.mem_append_right _ h)) 0 rfl rfl 21 (Nat.le_of_ble_eq_true rfl) (List.mem_of_getElem? (i := 2) rfl) rfl dX8_actsAt_10 ?_
  refine lv_iload_n hx hb dX8_actsAt_13 rfl (lv_at hl 1 rfl) ?_
  refine k_iald (v := f8_21 pl) E h 4 3 rfl rfl (vp_in_nI (by omega) (by omega)) (by rw [nI_clamp (by omega)]) dX8_actsAt_14 ?_
  refine lv_iload_n hx hb dX8_actsAt_15 rfl (lv_at hl 2 rfl) ?_
  refine kc_i (wc := [(o8, .inr (8, [.ref a8_0, .ref a8_1, .ref a8_2, .ref a8_3, .ref a8_4, .ref a8_5, .int v8_6, .ref a8_7, .ref a8_8, .ref a8_9, .ref a8_10, .ref a8_11, .int v8_12, .ref a8_13, .ref a8_14, .ref a8_15, .ref a8_16, .ref a8_17, .ref a8_18, .ref a8_19, .ref a8_20, .ref a8_21, .ref a8_22, .ref a8_23, .ref a8_24, .int v8_25, .int v8_26, .ref a8_27, .ref a8_28, .ref a8_29, .ref a8_30, .ref a8_31, .int v8_32, .int v8_33, .int v8_34, .int v8_35, .ref a8_36, .ref a8_37, .int v8_38, .int v8_39, .int v8_40, .ref a8_41, .ref a8_42, .int v8_43])), (a8_11, .inl (c8_11, 12, .inl f8_11)), (a8_15, .inl (c8_15, 120, .inl f8_15))]) (wr := [(a8_20, .inl (c8_20, 120, .inl (fun j => nI (pR j)))), (a8_21, .inl (c8_21, 120, .inl f8_21))]) h (va_runV (As := [.int (nI (pR pl)), .int (f8_21 pl), .int (nI n)]) (rest := []) E (c_actOfN l dC dI _ (o8 := o8) (a8_0 := a8_0) (a8_1 := a8_1) (a8_2 := a8_2) (a8_3 := a8_3) (a8_4 := a8_4) (a8_5 := a8_5) (v8_6 := v8_6) (a8_7 := a8_7) (a8_8 := a8_8) (a8_9 := a8_9) (a8_10 := a8_10) (a8_11 := a8_11) (v8_12 := v8_12) (a8_13 := a8_13) (a8_14 := a8_14) (a8_15 := a8_15) (a8_16 := a8_16) (a8_17 := a8_17) (a8_18 := a8_18) (a8_19 := a8_19) (a8_20 := a8_20) (a8_21 := a8_21) (a8_22 := a8_22) (a8_23 := a8_23) (a8_24 := a8_24) (v8_25 := v8_25) (v8_26 := v8_26) (a8_27 := a8_27) (a8_28 := a8_28) (a8_29 := a8_29) (a8_30 := a8_30) (a8_31 := a8_31) (v8_32 := v8_32) (v8_33 := v8_33) (v8_34 := v8_34) (v8_35 := v8_35) (a8_36 := a8_36) (a8_37 := a8_37) (v8_38 := v8_38) (v8_39 := v8_39) (v8_40 := v8_40) (a8_41 := a8_41) (a8_42 := a8_42) (v8_43 := v8_43) (c8_11 := c8_11) (f8_11 := f8_11) (c8_15 := c8_15) (f8_15 := f8_15) (p1 := f8_21 pl) (i9 := (pR pl)) (k9 := n) (hL8 := hL8) (hp := hq9) (hk9 := (by omega))) (cwV 3 E.2.2.2.2 gX8_actsAt_X8_actOf rfl rfl rfl hdV_X8_actOf ⟨Nat.le_of_ble_eq_true rfl, Nat.le_of_ble_eq_true rfl⟩) (kPreV (q0 := 0) (ci := 8) (q := (RX8, TX8, 44)) h KX_true (fun _ _ _ => trivial) [0, 1, 2] [0, 1] (by decide) rfl rfl rfl rfl) rfl rfl hl.1 rfl (lv_room (Nat.le_of_ble_eq_true rfl)) dX8_actsAt_16 ⟨Nat.le_of_ble_eq_true rfl, Nat.le_of_ble_eq_true rfl⟩) [0, 1, 2] [3, 4] rfl rfl (by decide) (by decide) (fun r_1 u_1 H locs hw_1 h => ?_)
  have h : KS (dC, dI) A [(a8_20, .inl (c8_20, 120, .inl (fun j => nI (pR j)))), (a8_21, .inl (c8_21, 120, .inl f8_21)), (o8, .inr (8, [.ref a8_0, .ref a8_1, .ref a8_2, .ref a8_3, .ref a8_4, .ref a8_5, .int v8_6, .ref a8_7, .ref a8_8, .ref a8_9, .ref a8_10, .ref a8_11, .int v8_12, .ref a8_13, .ref a8_14, .ref a8_15, .ref a8_16, .ref a8_17, .ref a8_18, .ref a8_19, .ref a8_20, .ref a8_21, .ref a8_22, .ref a8_23, .ref a8_24, .int v8_25, .int v8_26, .ref a8_27, .ref a8_28, .ref a8_29, .ref a8_30, .ref a8_31, .int v8_32, .int v8_33, .int v8_34, .int v8_35, .ref a8_36, .ref a8_37, .int v8_38, .int v8_39, .int v8_40, .ref a8_41, .ref a8_42, .int v8_43])), (a8_11, .inl (c8_11, 12, .inl f8_11)), (a8_15, .inl (c8_15, 120, .inl f8_15))] [(c8_11, .int), (c8_15, .int), (c8_20, .int), (c8_21, .int)] s H locs := h
  have hw_1 : AOf f8_15 ((pR pl) * 10) (f8_21 pl) (lenN f8_11 (pR pl)) n r_1 := by first | exact hw_1 | (simp only [Int32.toInt_toInt64] at hw_1; exact hw_1)
  have hAO := hw_1
  refine W.eq (g2 := F0 m 19 ls [.int r_1]) rfl ?_
  refine lv_if_lt (tgt := 28) hx hb dX8_actsAt_19 rfl (fun c_2 => ?_) (fun c_2 => ?_)
  · skip
    have i_2 : r_1.toInt < 0 := (fa_lt _ _).mp c_2
    have hge := AOf_neg hAO (by omega) (by omega) i_2
    refine lv_iload_n hx hb dX8_actsAt_28 rfl (lv_at hl 2 rfl) ?_
    have hP9 := h.2.1.sub [2, 3, 4, 0, 1] rfl
    have hD9 := h.2.2.1.sub (ws' := [(o8, .inr (8, [.ref a8_0, .ref a8_1, .ref a8_2, .ref a8_3, .ref a8_4, .ref a8_5, .int v8_6, .ref a8_7, .ref a8_8, .ref a8_9, .ref a8_10, .ref a8_11, .int v8_12, .ref a8_13, .ref a8_14, .ref a8_15, .ref a8_16, .ref a8_17, .ref a8_18, .ref a8_19, .ref a8_20, .ref a8_21, .ref a8_22, .ref a8_23, .ref a8_24, .int v8_25, .int v8_26, .ref a8_27, .ref a8_28, .ref a8_29, .ref a8_30, .ref a8_31, .int v8_32, .int v8_33, .int v8_34, .int v8_35, .ref a8_36, .ref a8_37, .int v8_38, .int v8_39, .int v8_40, .ref a8_41, .ref a8_42, .int v8_43])), (a8_11, .inl (c8_11, 12, .inl f8_11)), (a8_15, .inl (c8_15, 120, .inl f8_15)), (a8_20, .inl (c8_20, 120, .inl (fun j => nI (pR j)))), (a8_21, .inl (c8_21, 120, .inl f8_21))]) [2, 3, 4, 0, 1] (by decide) rfl
    exact W.iret (v := nI n) hx hb hr (fun t ht hW => ⟨⟨nI n, (), rfl, (by have e9 : n = (cI f8_15 (pR pl * 10) (f8_21 pl) (lenN f8_11 (pR pl))) := (by omega); rw [e9]), (by rw [ht]; exact hP9), hD9⟩, h.2.2.2.1.F ht⟩) h.2.2.2.1.2.2 dX8_actsAt_29 hlocks
  · skip
    have i_2 : ¬ r_1.toInt < 0 := fun h9 => c_2 ((fa_lt _ _).mpr h9)
    obtain ⟨b, q1, q2, q3, q4⟩ := AOf_pos hAO i_2
    have hnx := cI_next q1 q3 q4
    refine lv_iinc (v := nI (n + 1)) (lv' := [(2, .int (nI (n + 1))), (0, .ref o8), (1, .int (nI pl))]) hx hb dX8_actsAt_22 hl (k := 2) rfl (nI_1 n) (by decide) rfl (fun ls hl => ?_)
    refine lv_goto (tgt := 2) hx hb dX8_actsAt_25 rfl ?_
    exact ih2 ((cI f8_15 (pR pl * 10) (f8_21 pl) (lenN f8_11 (pR pl))) - (n + 1)) (n + 1) _ _ _ (by omega) ⟨hnx, rfl⟩ (k_perm h [2, 3, 4, 0, 1] (by decide) rfl rfl) (lv_sub hl [1, 2, 0] rfl)