theorem mPW_cov {q : mPI} {A : Nat → Nat} : ∀ (L d w : Nat), mPW q A L d w → ∀ b, b < q.1 → d.testBit b = false → ∃ j, w ≤ j ∧ j < w + L ∧ (A j).testBit b = true
  | 0, d, w, h, b, hb, hd => by
    have h : d = 2 ^ q.1 - 1 := h
    rw [h, (mFull_t q.1 b).mpr hb] at hd
    exact absurd hd (by decide)
  | L + 1, d, w, h, b, hb, hd => by
    by_cases c : (A w).testBit b = true
    · exact ⟨w, Nat.le_refl _, by omega, c⟩
    · obtain ⟨j, h1, h2, h3⟩ := mPW_cov L (d ||| A w) (w + 1) h.2 b hb ((mOr_f _ _ _).mpr ⟨hd, mBF.mp c⟩)
      exact ⟨j, by omega, by omega, h3⟩
theorem cB_zero {K f : Nat → Int32} {base : Nat} {w : Int32} : ∀ k, (∀ b, b < k → ¬ (f (base + b)).toInt = w.toInt) → cB K f base w k = 0
  | 0, _ => rfl
  | k + 1, h => by
    rw [cB_no (fun z => h k (by omega) z.1)]
    exact cB_zero k (fun b hb => h b (by omega))
theorem cB_pcn {K f : Nat → Int32} {i a : Nat} {w : Int32} : ∀ k, k ≤ 10 → (∀ b, b < k → (f (i * 10 + b)).toInt = w.toInt → a.testBit b = true) → cB K f (i * 10) w k ≤ pcn (iP K i) a 0 k
  | 0, _, _ => Nat.le_refl 0
  | k + 1, hk, h => by
    have ih := cB_pcn (K := K) (f := f) (i := i) (a := a) (w := w) k (by omega) (fun b hb => h b (by omega))
    by_cases c : (f (i * 10 + k)).toInt = w.toInt ∧ pN (K (i * 10 + k)) = 0
    · rw [cB_in c.1 c.2, pcn_in (h k (by omega) c.1) (by rw [iP_at (by omega)]; exact c.2)]
      omega
    · rw [cB_no c]
      have := pcn_up (iP K i) a 0 (i := k) (k + 1) (by omega)
      omega
theorem PK8_bus {K D X Y L8 WC : Nat → Int32} {wd : Nat → Nat} {bs i : Nat} (hL : IL L8) (hi : i < 12) (hb : bs ≤ 3) (h : PK8 K D X Y L8 WC wd bs i) (w : Int32) : cB K (fun j => nI (wd j)) (i * 10) w (lenN L8 i) ≤ 3 := by
  obtain ⟨L, A, e1, e2, e3, e4, e5⟩ := h
  have hn := (IL_n hL hi).2
  have cov : ∀ b, b < lenN L8 i → ∃ j, j < L ∧ (A j).testBit b = true ∧ wd (i * 10 + b) = j := by
    intro b hb2
    obtain ⟨j, h1, h2, h3⟩ := mPW_cov L 0 0 e4 b hb2 (Nat.zero_testBit b)
    exact ⟨j, by omega, h3, e5 j (by omega) b h3⟩
  by_cases hex : ∃ b0, b0 < lenN L8 i ∧ (nI (wd (i * 10 + b0))).toInt = w.toInt
  · obtain ⟨b0, hb0, hm⟩ := hex
    obtain ⟨j0, g1, g2, g3⟩ := cov b0 hb0
    rw [g3, nI_toInt (by omega)] at hm
    have z := cB_pcn (K := K) (f := fun j => nI (wd j)) (i := i) (a := A j0) (w := w) (lenN L8 i) hn (fun b hb2 hmb => by
      obtain ⟨j, k1, k2, k3⟩ := cov b hb2
      have hmb : (nI (wd (i * 10 + b))).toInt = w.toInt := hmb
      rw [k3, nI_toInt (by omega)] at hmb
      have : j = j0 := by omega
      rw [← this]
      exact k2)
    have z2 : ∃ d', mLW (iQ K (rR K X Y) (rW K D) (lenN L8 i) i bs) d' (A j0) := by
      rcases mPW_room _ _ _ e4 j0 (Nat.zero_le _) (by omega) with y | y
      · exact ⟨_, y⟩
      · exact y
    obtain ⟨d', z2⟩ := z2
    have z3 : pcn (iP K i) (A j0) 0 (lenN L8 i) ≤ bs := z2.2.2.2.1 0 (by decide)
    omega
  · rw [cB_zero _ (fun b hb2 z => hex ⟨b, hb2, z⟩)]
    omega
theorem z_stepI {f : Nat → Nat} {i : Nat} (h : ∀ j, j < i → f j = 0) : ∀ j, j < i + 1 → mUpd f i 0 j = 0 := z_step h
theorem dF_up {dF : Nat → Nat} {p f v : Nat} (h : ∀ g, g < 7 → dF g ≤ p + (if g < f then 1 else 0)) (hf : f < 7) (hv : v ≤ 1) : ∀ g, g < 7 → mUpd dF f (dF f + v) g ≤ p + (if g < f + 1 then 1 else 0) := by
  intro g hg
  by_cases c : g = f
  · subst c
    rw [mUpd_s, if_pos (by omega)]
    have := h g hg
    rw [if_neg (by omega)] at this
    omega
  · rw [mUpd_n c]
    have := h g hg
    by_cases d : g < f
    · rw [if_pos d] at this
      rw [if_pos (by omega)]
      exact this
    · rw [if_neg d] at this
      rw [if_neg (by omega)]
      exact this
theorem dF_no {dF : Nat → Nat} {p f : Nat} (h : ∀ g, g < 7 → dF g ≤ p + (if g < f then 1 else 0)) : ∀ g, g < 7 → dF g ≤ p + (if g < f + 1 then 1 else 0) := by
  intro g hg
  have := h g hg
  by_cases d : g < f
  · rw [if_pos d] at this
    rw [if_pos (by omega)]
    exact this
  · rw [if_neg d] at this
    omega
theorem sumN_bd {f : Nat → Nat} {c : Nat} : ∀ n, (∀ g, g < n → f g ≤ c) → sumN f n ≤ n * c
  | 0, _ => Nat.zero_le _
  | n + 1, h => by
    have ih := sumN_bd (f := f) (c := c) n (fun g hg => h g (by omega))
    have h1 := h n (by omega)
    show sumN f n + f n ≤ (n + 1) * c
    rw [Nat.succ_mul]
    omega
theorem sumN_z {f : Nat → Nat} {k : Nat} : ∀ n, n ≤ k → sumN (mUpd f k 0) n = sumN f n
  | 0, _ => rfl
  | n + 1, h => by
    show sumN (mUpd f k 0) n + mUpd f k 0 n = sumN f n + f n
    rw [sumN_z n (by omega), mUpd_n (by omega)]
set_option maxHeartbeats 4000000 in
set_option maxRecDepth 100000 in
theorem c_X8_bits (l : Launch) (dC : Nat → ClassId) (dI : Nat → Nat → Nat) (sz : Nat) (m9 : Nat) (hm : m9 ≤ 1000) : Met l yX8_bits wsX8_bits ({ frames := 0, cells := 0, slots := 0, locals := 0 } : Room) (va_Pc [.int (nI m9)] (KPre (dC, dI) [] [] sz (fun _ => True))) (va_Qi (fun (r : Int32) (u : Unit) => True) (KPost (dC, dI) (va_A [] sz) (fun (u : Unit) => [])) (va_A [] sz)) 0 0 (va_A [] sz) := by
  refine kMet (y := yX8_bits) (wsM := wsX8_bits) (cc := cX8_bits) (maxL := 2) (ret := (some .int)) (rm := ({ frames := 0, cells := 0, slots := 0, locals := 0 } : Room)) (mc := 0) (ms := 0) (av := [.int (nI m9)]) (D := (dC, dI)) (wc := []) (tc := []) (sz := sz) (X := fun _ => True) (Qc := fun A => va_Qi (fun (r : Int32) (u : Unit) => True) (KPost (dC, dI) A (fun (u : Unit) => [])) A) (by decide) rfl (Nat.le_of_ble_eq_true rfl) ?_
  intro p e s m below meth c A ls E hr hlocks hnm hsz hAe hX h hl
  have hx := E.1
  have hb := E.2.1
  have hl : lv_has ls 2 [(0, .int (nI m9))] := hl
  refine lv_iconst (v := 0) hx hb dX8_bits_0 kic_0 ?_
  refine lv_istore_n (lv' := [(1, .int 0), (0, .int (nI m9))]) hx hb dX8_bits_1 rfl hl (Nat.le_of_ble_eq_true rfl) rfl (fun ls hl => ?_)
  refine k_loop (σ := Nat) (fun x9 => []) (fun x9 => [(0, .int (nI m9)), (1, .int (nI x9))]) (fun n9 x9 => x9 ≤ 10 ∧ n9 = 10 - x9) ?_ (10 - 0) 0 ⟨Nat.zero_le _, rfl⟩ h (lv_sub hl [1, 0] rfl)
  intro n9 x9 H locs ls hI h hl ih2
  obtain ⟨n, rfl⟩ : ∃ z, z = x9 := ⟨_, rfl⟩
  have hI : n ≤ 10 ∧ n9 = 10 - n := hI
  have h : KS (dC, dI) A [] [] s H locs := h
  have hl : lv_has ls 2 [(0, .int (nI m9)), (1, .int (nI n))] := hl
  obtain ⟨hn1, hn2⟩ := hI
  have ht9 := mm_two (i := n) hn1
  refine lv_iconst (v := 1) hx hb dX8_bits_2 kic_1 ?_
  refine lv_iload_n hx hb dX8_bits_3 rfl (lv_at hl 1 rfl) ?_
  refine lv_ishl hx hb dX8_bits_4 ?_
  refine k_topi (y := nI (2 ^ n)) (mm_shl (by omega)) ?_
  refine lv_iload_n hx hb dX8_bits_5 rfl (lv_at hl 0 rfl) ?_
  refine lv_icmp_gt (tgt := 15) hx hb dX8_bits_6 rfl (fun c_1 => ?_) (fun c_1 => ?_)
  · skip
    have i_1 : m9 < (2 ^ n) := (nI_ltI (a := m9) (b := (2 ^ n)) (by omega) (by omega)).mp c_1
    refine lv_iload_n hx hb dX8_bits_15 rfl (lv_at hl 1 rfl) ?_
    have hP9 := h.2.1.sub [] rfl
    have hD9 := h.2.2.1.sub (ws' := []) [] (by decide) rfl
    exact W.iret (v := nI n) hx hb hr (fun t ht hW => ⟨⟨nI n, (), rfl, trivial, (by rw [ht]; exact hP9), hD9⟩, h.2.2.2.1.F ht⟩) h.2.2.2.1.2.2 dX8_bits_16 hlocks
  · skip
    have i_1 : ¬ m9 < (2 ^ n) := fun h9 => c_1 ((nI_ltI (a := m9) (b := (2 ^ n)) (by omega) (by omega)).mpr h9)
    have hb9 : n < 10 := kbits (by omega) hm
    refine lv_iinc (v := nI (n + 1)) (lv' := [(1, .int (nI (n + 1))), (0, .int (nI m9))]) hx hb dX8_bits_9 hl (k := 1) rfl (nI_1 n) (by decide) rfl (fun ls hl => ?_)
    refine lv_goto (tgt := 2) hx hb dX8_bits_12 rfl ?_
    exact ih2 (10 - (n + 1)) (n + 1) _ _ _ (by omega) ⟨by omega, rfl⟩ h (lv_sub hl [1, 0] rfl)