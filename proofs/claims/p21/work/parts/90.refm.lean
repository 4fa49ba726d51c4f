-- the reference's packing: plain facts
def mBt (m i : Nat) : Nat := if m.testBit i = true then 1 else 0
theorem mBt_1 {m i : Nat} : mBt m i = 1 ↔ m.testBit i = true := by
  unfold mBt
  split
  · exact ⟨fun _ => by assumption, fun _ => rfl⟩
  · exact ⟨fun h => absurd h (by decide), fun h => absurd h (by assumption)⟩
theorem mBt_0 {m i : Nat} : ¬ mBt m i = 0 ↔ m.testBit i = true := by
  rw [← mBt_1]
  unfold mBt
  split <;> omega
theorem mBt_le (m i : Nat) : mBt m i ≤ 1 := by
  unfold mBt
  split <;> omega
theorem mm_bt {m i : Nat} (hm : m < 2147483648) (hi : i < 31) : (nI m >>> (nI i &&& 31)) &&& 1 = nI (mBt m i) := by
  have e1 := pk_shrN hm (nI i &&& 31) i (mm_sl1 ⟨i, by omega⟩)
  have e2 : (1 : Int32) = nI 1 := rfl
  rw [e1, e2, mm_and, Nat.and_one_is_mod]
  congr 1
  unfold mBt
  rw [Nat.testBit_eq_decide_div_mod_eq]
  by_cases c : m / 2 ^ i % 2 = 1
  · rw [if_pos (decide_eq_true c)]
    exact c
  · rw [if_neg (by rw [decide_eq_false c]; decide)]
    omega
theorem pN_eq {k : Int32} (h : 0 ≤ k.toInt ∧ k.toInt ≤ 10) : pN k = if k.toInt ≤ 1 then 0 else if k.toInt ≤ 5 then 1 else if k.toInt = 6 then 2 else if k.toInt ≤ 8 then 3 else 4 := by
  have main : ∀ i : Fin 11, ([0, 0, 1, 1, 1, 1, 2, 3, 3, 4, 4] : List Nat).getD i.val 0 = if i.val ≤ 1 then 0 else if i.val ≤ 5 then 1 else if i.val = 6 then 2 else if i.val ≤ 8 then 3 else 4 := by decide
  have hk : k.toNatClampNeg < 11 := by unfold Int32.toNatClampNeg; omega
  have e : (k.toNatClampNeg : Int) = k.toInt := by unfold Int32.toNatClampNeg; omega
  have z := main ⟨_, hk⟩
  simp only at z
  unfold pN
  rw [z]
  (repeat' split) <;> omega
def NF (nd : Nat → Nat → Nat) (b v : Nat) (e : Nat → Nat) : Prop := ∀ b', b' < b → ∀ a', (e b').testBit a' = true ↔ a' < b' ∧ nd a' b' = v
def NFr (nd : Nat → Nat → Nat) (b a v : Nat) (e : Nat → Nat) : Prop := ∀ a', (e b).testBit a' = true ↔ a' < a ∧ nd a' b = v
theorem NF_0 (nd : Nat → Nat → Nat) (v : Nat) (e : Nat → Nat) : NF nd 0 v e := fun b' h => absurd h (Nat.not_lt_zero b')
theorem NF_clr {nd : Nat → Nat → Nat} {b v : Nat} {e : Nat → Nat} (h : NF nd b v e) : NF nd b v (mUpd e b 0) ∧ NFr nd b 0 v (mUpd e b 0) := by
  refine ⟨fun b' hb' a' => ?_, fun a' => ?_⟩
  · rw [mUpd_n (by omega)]
    exact h b' hb' a'
  · rw [mUpd_s, Nat.zero_testBit]
    exact ⟨fun z => absurd z (by decide), fun z => absurd z.1 (Nat.not_lt_zero a')⟩
theorem NF_set {nd : Nat → Nat → Nat} {b a v : Nat} {e : Nat → Nat} (h : NF nd b v e) (hr : NFr nd b a v e) (hx : nd a b = v) : NF nd b v (mUpd e b (e b ||| 2 ^ a)) ∧ NFr nd b (a + 1) v (mUpd e b (e b ||| 2 ^ a)) := by
  refine ⟨fun b' hb' a' => ?_, fun a' => ?_⟩
  · rw [mUpd_n (by omega)]
    exact h b' hb' a'
  · rw [mUpd_s, mOr_t, hr a', mPow_t]
    constructor
    · rintro (⟨p1, p2⟩ | p)
      · exact ⟨by omega, p2⟩
      · subst p
        exact ⟨by omega, hx⟩
    · rintro ⟨p1, p2⟩
      by_cases q : a = a'
      · exact Or.inr q
      · exact Or.inl ⟨by omega, p2⟩
theorem NF_skip {nd : Nat → Nat → Nat} {b a v : Nat} {e : Nat → Nat} (h : NF nd b v e) (hr : NFr nd b a v e) (hx : ¬ nd a b = v) : NF nd b v e ∧ NFr nd b (a + 1) v e := by
  refine ⟨h, fun a' => ?_⟩
  rw [hr a']
  constructor
  · rintro ⟨p1, p2⟩
    exact ⟨by omega, p2⟩
  · rintro ⟨p1, p2⟩
    by_cases q : a' = a
    · subst q
      exact absurd p2 hx
    · exact ⟨by omega, p2⟩
theorem NF_next {nd : Nat → Nat → Nat} {b a v : Nat} {e : Nat → Nat} (h : NF nd b v e) (hr : NFr nd b a v e) (ha : a = b) : NF nd (b + 1) v e := by
  subst ha
  intro b' hb' a'
  by_cases q : b' = a
  · subst q
    exact hr a'
  · exact h b' (by omega) a'
theorem NF_NE {nd : Nat → Nat → Nat} {n v : Nat} {e : Nat → Nat} (h : NF nd n v e) : NE nd n 0 0 v e := by
  intro b' hb' a'
  rw [h b' hb' a']
  constructor
  · rintro ⟨p1, p2⟩
    exact ⟨p1, Or.inl (Nat.zero_le _), p2⟩
  · rintro ⟨p1, p2, p3⟩
    exact ⟨p1, p3⟩
-- a word, looked at act by act
def WIq (q : mPI) (d st i pl ot : Nat) : Prop := pl = pcn q.2.2.1 st 0 i ∧ ot < 32 ∧ (∀ p, p < 5 → p ≠ 0 → pcn q.2.2.1 st p i ≤ 1) ∧ (∀ p, p < 5 → (ot.testBit p = true ↔ p ≠ 0 ∧ pcn q.2.2.1 st p i = 1)) ∧ ∀ j, j < i → st.testBit j = true → ∀ a, a < j → (q.2.1 a j = 2 → d.testBit a = true) ∧ (q.2.1 a j = 1 → d.testBit a = true ∨ st.testBit a = true)
theorem WI_0 (q : mPI) (d st : Nat) : WIq q d st 0 0 0 := by
  refine ⟨rfl, by decide, fun p _ _ => Nat.zero_le _, fun p _ => ?_, fun j h => absurd h (Nat.not_lt_zero j)⟩
  rw [Nat.zero_testBit]
  exact ⟨fun z => absurd z (by decide), fun z => absurd z.2 (by show ¬ (0 : Nat) = 1; decide)⟩
theorem WI_skip {q : mPI} {d st i pl ot : Nat} (h : WIq q d st i pl ot) (hs : ¬ st.testBit i = true) : WIq q d st (i + 1) pl ot := by
  obtain ⟨h1, h2, h3, h4, h5⟩ := h
  have e : ∀ p, pcn q.2.2.1 st p (i + 1) = pcn q.2.2.1 st p i := fun p => pcn_no (fun z => hs z.1)
  refine ⟨by rw [e]; exact h1, h2, fun p hp h0 => by rw [e]; exact h3 p hp h0, fun p hp => by rw [e]; exact h4 p hp, fun j hj hsj => ?_⟩
  by_cases c : j = i
  · subst c
    exact absurd hsj hs
  · exact h5 j (by omega) hsj
theorem WI_bus {q : mPI} {d st i pl ot : Nat} (h : WIq q d st i pl ot) (hs : st.testBit i = true) (hp0 : q.2.2.1 i = 0) (hc : ∀ a, a < i → (q.2.1 a i = 2 → d.testBit a = true) ∧ (q.2.1 a i = 1 → d.testBit a = true ∨ st.testBit a = true)) : WIq q d st (i + 1) (pl + 1) ot := by
  obtain ⟨h1, h2, h3, h4, h5⟩ := h
  have e : ∀ p, p ≠ 0 → pcn q.2.2.1 st p (i + 1) = pcn q.2.2.1 st p i := fun p hp => pcn_no (fun z => hp (z.2.symm.trans hp0))
  refine ⟨by rw [pcn_in hs hp0, h1], h2, fun p hp h0 => by rw [e p h0]; exact h3 p hp h0, fun p hp => ?_, fun j hj hsj => ?_⟩
  · rw [h4 p hp]
    constructor
    · rintro ⟨a1, a2⟩
      exact ⟨a1, by rw [e p a1]; exact a2⟩
    · rintro ⟨a1, a2⟩
      exact ⟨a1, by rw [e p a1] at a2; exact a2⟩
  · by_cases c : j = i
    · subst c
      exact hc
    · exact h5 j (by omega) hsj
theorem WI_part {q : mPI} {d st i pl ot x : Nat} (h : WIq q d st i pl ot) (hs : st.testBit i = true) (hx : q.2.2.1 i = x) (hx5 : x < 5) (hx0 : ¬ x = 0) (hno : ¬ ot.testBit x = true) (hc : ∀ a, a < i → (q.2.1 a i = 2 → d.testBit a = true) ∧ (q.2.1 a i = 1 → d.testBit a = true ∨ st.testBit a = true)) : WIq q d st (i + 1) pl (ot ||| 2 ^ x) := by
  obtain ⟨h1, h2, h3, h4, h5⟩ := h
  have e : ∀ p, p ≠ x → pcn q.2.2.1 st p (i + 1) = pcn q.2.2.1 st p i := fun p hp => pcn_no (fun z => hp (z.2.symm.trans hx))
  have ex : pcn q.2.2.1 st x (i + 1) = pcn q.2.2.1 st x i + 1 := pcn_in hs hx
  have e0 : pcn q.2.2.1 st x i = 0 := by
    have a := h3 x hx5 hx0
    have b : ¬ pcn q.2.2.1 st x i = 1 := fun z => hno ((h4 x hx5).mpr ⟨hx0, z⟩)
    omega
  refine ⟨by rw [e 0 (fun z => hx0 z.symm)]; exact h1, ?_, fun p hp h0 => ?_, fun p hp => ?_, fun j hj hsj => ?_⟩
  · have : 2 ^ x < 2 ^ 5 := Nat.pow_lt_pow_right (by decide) hx5
    exact Nat.or_lt_two_pow (n := 5) h2 this
  · by_cases c : p = x
    · rw [c, ex]
      omega
    · rw [e p c]
      exact h3 p hp h0
  · rw [mOr_t, mPow_t]
    by_cases c : p = x
    · subst c
      exact ⟨fun _ => ⟨hx0, by omega⟩, fun _ => Or.inr rfl⟩
    · rw [e p c, h4 p hp]
      constructor
      · rintro (z | z)
        · exact z
        · exact absurd z.symm c
      · intro z
        exact Or.inl z
  · by_cases c : j = i
    · subst c
      exact hc
    · exact h5 j (by omega) hsj
theorem WI_bad1 {q : mPI} {d st i pl ot x : Nat} (h : WIq q d st i pl ot) (hi : i < q.1) (hs : st.testBit i = true) (hx : q.2.2.1 i = x) (hx5 : x < 5) (hx0 : ¬ x = 0) (hot : ot.testBit x = true) : ¬ mLW q d st := by
  intro z
  have e1 := ((h.2.2.2.1 x hx5).mp hot).2
  have e2 : pcn q.2.2.1 st x (i + 1) = pcn q.2.2.1 st x i + 1 := pcn_in hs hx
  have e3 := pcn_up q.2.2.1 st x (i := i + 1) q.1 hi
  have e4 := z.2.2.2.1 x hx5
  unfold pRoom at e4
  rw [if_neg hx0] at e4
  omega
theorem WI_hc {q : mPI} {d st i n : Nat} {eE eB : Nat → Nat} (hE : NE q.2.1 n 0 0 2 eE) (hB : NE q.2.1 n 0 0 1 eB) (hi : i < n) (h1 : mDif (eE i) d = 0) (h2 : mDif (eB i) (d ||| st) = 0) : ∀ a, a < i → (q.2.1 a i = 2 → d.testBit a = true) ∧ (q.2.1 a i = 1 → d.testBit a = true ∨ st.testBit a = true) := by
  intro a ha
  refine ⟨fun hn => (mDif_0.mp h1) a ((NE_t hE hi).mpr ⟨ha, hn⟩), (CM_B hB hi).mp h2 a ha⟩
theorem WI_bad2 {q : mPI} {d st i n : Nat} {eE : Nat → Nat} (hE : NE q.2.1 n 0 0 2 eE) (hi : i < n) (hs : st.testBit i = true) (h1 : ¬ mDif (eE i) d = 0) : ¬ mLW q d st := by
  intro z
  refine h1 (mDif_0.mpr (fun a ha => ?_))
  have z2 := (NE_t hE hi).mp ha
  exact (z.2.2.2.2 i hs a z2.1).1 z2.2
theorem WI_bad3 {q : mPI} {d st i n : Nat} {eB : Nat → Nat} (hB : NE q.2.1 n 0 0 1 eB) (hi : i < n) (hs : st.testBit i = true) (h1 : ¬ mDif (eB i) (d ||| st) = 0) : ¬ mLW q d st := by
  intro z
  exact h1 ((CM_B hB hi).mpr (fun a ha hn => (z.2.2.2.2 i hs a ha).2 hn))
theorem WI_end {q : mPI} {d st pl ot : Nat} (h : WIq q d st q.1 pl ot) (h0 : ¬ st = 0) (hst : st < 2 ^ q.1) (hdj : ∀ i, st.testBit i = true → d.testBit i = false) : mLW q d st ↔ pl ≤ q.2.2.2 := by
  obtain ⟨h1, h2, h3, h4, h5⟩ := h
  constructor
  · intro z
    rw [h1]
    exact z.2.2.2.1 0 (by decide)
  · intro z
    refine ⟨h0, hst, hdj, fun p hp => ?_, fun b hb a ha => h5 b (mBit_lt hst hb) hb a ha⟩
    unfold pRoom
    by_cases c : p = 0
    · rw [if_pos c, c, ← h1]
      exact z
    · rw [if_neg c]
      exact h3 p hp c
-- the least numbers of words
theorem MW_le {q : mPI} {e L : Nat} (h : mMW q e L) (he : e < 2 ^ q.1) (hb : 1 ≤ q.2.2.2) : L ≤ q.1 := by
  apply Decidable.byContradiction
  intro z
  exact h.2 q.1 (by omega) (mCF_all q hb he)
theorem MW_full (q : mPI) : mMW q (2 ^ q.1 - 1) 0 := ⟨rfl, fun j h => absurd h (Nat.not_lt_zero j)⟩
def FW (q : mPI) (fw : Nat → Nat) (d : Nat) : Prop := ∀ e, e < 2 ^ q.1 → d ≤ e → mMW q e (fw e)
theorem FW_full {q : mPI} {fw : Nat → Nat} (h : fw (2 ^ q.1 - 1) = 0) : FW q fw (2 ^ q.1 - 1) := by
  intro e he hd
  have c : e = 2 ^ q.1 - 1 := by omega
  subst c
  rw [h]
  exact MW_full q
theorem LW_or {q : mPI} {d s : Nat} (h : mLW q d s) : d < d ||| s := by
  have e := mOr_add s s d Nat.lt_two_pow_self h.2.2.1
  rw [Nat.or_comm, e]
  have := h.1
  omega
theorem dis_or {d s : Nat} (h0 : 0 < s) (h : ∀ i, s.testBit i = true → d.testBit i = false) : d < d ||| s := by
  have e := mOr_add s s d Nat.lt_two_pow_self h
  rw [Nat.or_comm, e]
  omega
def DI (q : mPI) (fw : Nat → Nat) (d s : Nat) : Prop := fw d ≤ 1000 ∧ (fw d = 1000 ∨ ∃ t, mLW q d t ∧ fw d = fw (d ||| t) + 1) ∧ ∀ t, mLW q d t → s < t → fw d ≤ fw (d ||| t) + 1
theorem DI_0 {q : mPI} {fw : Nat → Nat} {d s : Nat} (hs : ∀ t, mLW q d t → t ≤ s) : DI q (mUpd fw d 1000) d s := by
  refine ⟨by rw [mUpd_s]; exact Nat.le_refl _, Or.inl mUpd_s, fun t ht hlt => ?_⟩
  have := hs t ht
  omega
theorem LW_rest {q : mPI} {d t : Nat} (h : mLW q d t) : mSub t (mDif (2 ^ q.1 - 1) d) := fun i hi => (mDif_t _ _ _).mpr ⟨(mFull_t _ _).mpr (mBit_lt h.2.1 hi), h.2.2.1 i hi⟩
theorem DI_skip {q : mPI} {fw : Nat → Nat} {d s : Nat} (h : DI q fw d s) (hs : mSub s (mDif (2 ^ q.1 - 1) d)) (hn : ¬ mLW q d s ∨ ¬ fw (d ||| s) + 1 < fw d) : DI q fw d ((s - 1) &&& mDif (2 ^ q.1 - 1) d) := by
  refine ⟨h.1, h.2.1, fun t ht hlt => ?_⟩
  rcases Nat.lt_trichotomy t s with c | c | c
  · have := mDown s s t _ Nat.lt_two_pow_self hs (LW_rest ht) c
    omega
  · subst c
    rcases hn with z | z
    · exact absurd ht z
    · omega
  · exact h.2.2 t ht c
theorem DI_set {q : mPI} {fw : Nat → Nat} {d s : Nat} (h : DI q fw d s) (hs : mSub s (mDif (2 ^ q.1 - 1) d)) (h1 : mLW q d s) (h2 : fw (d ||| s) + 1 < fw d) : DI q (mUpd fw d (fw (d ||| s) + 1)) d ((s - 1) &&& mDif (2 ^ q.1 - 1) d) := by
  have hu : ∀ t, mLW q d t → mUpd fw d (fw (d ||| s) + 1) (d ||| t) = fw (d ||| t) := fun t ht => mUpd_n (by have := LW_or ht; omega)
  refine ⟨by rw [mUpd_s]; have := h.1; omega, Or.inr ⟨s, h1, by rw [mUpd_s, hu s h1]⟩, fun t ht hlt => ?_⟩
  rw [mUpd_s, hu t ht]
  rcases Nat.lt_trichotomy t s with c | c | c
  · have := mDown s s t _ Nat.lt_two_pow_self hs (LW_rest ht) c
    omega
  · rw [c]
    exact Nat.le_refl _
  · have := h.2.2 t ht c
    omega
theorem FW_upd {q : mPI} {fw : Nat → Nat} {d v : Nat} (h : FW q fw (d + 1)) : FW q (mUpd fw d v) (d + 1) := by
  intro e he hd
  rw [mUpd_n (by omega)]
  exact h e he hd
theorem FW_next {q : mPI} {fw : Nat → Nat} {d : Nat} (hb : 1 ≤ q.2.2.2) (hn : q.1 ≤ 10) (h : FW q fw (d + 1)) (hd : d < 2 ^ q.1 - 1) (hi : DI q fw d 0) : FW q fw d := by
  intro e he hde
  by_cases c : e = d
  · subst c
    obtain ⟨h1, h2, h3⟩ := hi
    have hall : ∀ t, mLW q e t → fw e ≤ fw (e ||| t) + 1 := fun t ht => h3 t ht (by have := ht.1; omega)
    have hMW : ∀ t, mLW q e t → mMW q (e ||| t) (fw (e ||| t)) := fun t ht => h _ (mm_or_lt he ht.2.1) (LW_or ht)
    have hc : mCF q q.1 e := mCF_all q hb he
    have hex : ∃ t, mLW q e t := by
      obtain ⟨m, hm⟩ : ∃ m, q.1 = m + 1 := by
        refine ⟨q.1 - 1, ?_⟩
        have : ¬ q.1 = 0 := fun z => by
          rw [z] at hd
          have : (2 : Nat) ^ 0 = 1 := rfl
          omega
        omega
      rw [hm] at hc
      rcases hc with z | ⟨s, z1, z2⟩
      · omega
      · exact ⟨s, z1⟩
    obtain ⟨t0, ht0⟩ := hex
    have h5 := hall t0 ht0
    have h6 := MW_le (hMW t0 ht0) (mm_or_lt he ht0.2.1) hb
    rcases h2 with z | ⟨t, ht, z⟩
    · omega
    · refine ⟨?_, fun j hj hcf => ?_⟩
      · rw [z]
        exact Or.inr ⟨t, ht, (hMW t ht).1⟩
      · cases j with
        | zero =>
          have hcf : e = 2 ^ q.1 - 1 := hcf
          omega
        | succ k =>
          rcases hcf with y | ⟨s, y1, y2⟩
          · omega
          · have h7 := hall s y1
            exact (hMW s y1).2 k (by omega) y2
  · exact h e he (by omega)
-- the words, one behind the other
def dnA (A : Nat → Nat) : Nat → Nat
  | 0 => 0
  | j + 1 => dnA A j ||| A j
theorem dnA_congr {A B : Nat → Nat} : ∀ w, (∀ j, j < w → A j = B j) → dnA A w = dnA B w
  | 0, _ => rfl
  | w + 1, h => by
    show dnA A w ||| A w = dnA B w ||| B w
    rw [dnA_congr w (fun j hj => h j (by omega)), h w (by omega)]
def GR (q : mPI) (A : Nat → Nat) (L w d : Nat) : Prop := d = dnA A w ∧ ∀ j, j < w → mLS q (L - 1 - j) (dnA A j) (A j)
theorem GR_0 (q : mPI) (A : Nat → Nat) (L : Nat) : GR q A L 0 0 := ⟨rfl, fun j h => absurd h (Nat.not_lt_zero j)⟩
theorem GR_step {q : mPI} {A : Nat → Nat} {L w d s : Nat} (h : GR q A L w d) (hs : mLS q (L - 1 - w) d s) : GR q (mUpd A w s) L (w + 1) (d ||| s) := by
  have e : ∀ j, j ≤ w → dnA (mUpd A w s) j = dnA A j := fun j hj => dnA_congr j (fun i hi => mUpd_n (by omega))
  refine ⟨?_, fun j hj => ?_⟩
  · show d ||| s = dnA (mUpd A w s) w ||| mUpd A w s w
    rw [e w (Nat.le_refl _), mUpd_s, ← h.1]
  · rw [e j (by omega)]
    by_cases c : j = w
    · subst c
      rw [mUpd_s, ← h.1]
      exact hs
    · rw [mUpd_n c]
      exact h.2 j (by omega)
theorem GR_PW {q : mPI} {A : Nat → Nat} {L : Nat} (h : ∀ j, j < L → mLS q (L - 1 - j) (dnA A j) (A j)) (hf : dnA A L = 2 ^ q.1 - 1) : ∀ k w, w + k = L → mPW q A k (dnA A w) w
  | 0, w, e => by
    rw [show w = L by omega]
    exact hf
  | k + 1, w, e => by
    refine ⟨?_, GR_PW h hf k (w + 1) (by omega)⟩
    have z := h w (by omega)
    rw [show L - 1 - w = k by omega] at z
    exact z
theorem GR_end {q : mPI} {A : Nat → Nat} {L d : Nat} (h : GR q A L L d) (hf : d = 2 ^ q.1 - 1) : mPW q A L 0 0 := GR_PW h.2 (by rw [← h.1]; exact hf) L 0 (by omega)
def VS (q : mPI) (fw : Nat → Nat) (d t : Nat) : Prop := mLW q d t ∧ fw (d ||| t) + 1 = fw d
theorem VS_ex {q : mPI} {fw : Nat → Nat} {d : Nat} (h : FW q fw 0) (hd : d < 2 ^ q.1) (hf : ¬ d = 2 ^ q.1 - 1) : ∃ t, VS q fw d t := by
  have hm := h d hd (Nat.zero_le _)
  have hc := hm.1
  obtain ⟨k, hk⟩ : ∃ k, fw d = k + 1 := by
    refine ⟨fw d - 1, ?_⟩
    have : ¬ fw d = 0 := fun z => by
      rw [z] at hc
      exact hf hc
    omega
  rw [hk] at hc
  rcases hc with z | ⟨s, z1, z2⟩
  · exact absurd z hf
  · refine ⟨s, z1, ?_⟩
    have hs := h (d ||| s) (mm_or_lt hd z1.2.1) (Nat.zero_le _)
    have a1 : ¬ k < fw (d ||| s) := fun z => hs.2 k z z2
    have a2 : ¬ fw (d ||| s) + 1 < fw d := fun z => hm.2 _ z (Or.inr ⟨s, z1, hs.1⟩)
    omega
theorem VS_LS {q : mPI} {fw : Nat → Nat} {d s k : Nat} (h : FW q fw 0) (hd : d < 2 ^ q.1) (hv : VS q fw d s) (hk : k + 1 = fw d) (hl : ∀ t, t < s → ¬ VS q fw d t) : mLS q k d s := by
  have hm := h d hd (Nat.zero_le _)
  refine ⟨hv.1, ?_, fun t ht hz => hl t ht ⟨hz.1, ?_⟩⟩
  · have e := (h (d ||| s) (mm_or_lt hd hv.1.2.1) (Nat.zero_le _)).1
    have e2 := hv.2
    rw [show fw (d ||| s) = k by omega] at e
    exact e
  · have hs := h (d ||| t) (mm_or_lt hd hz.1.2.1) (Nat.zero_le _)
    have a1 : ¬ k < fw (d ||| t) := fun z => hs.2 k z hz.2
    have a2 : ¬ fw (d ||| t) + 1 < fw d := fun z => hm.2 _ z (Or.inr ⟨t, hz.1, hs.1⟩)
    omega
/-- writing w at the places of s -/
def WRI (wd wd0 : Nat → Nat) (s w base b : Nat) : Prop := (∀ b', b' < b → s.testBit b' = true → wd (base + b') = w) ∧ ∀ x, (∀ b', b' < b → s.testBit b' = true → x ≠ base + b') → wd x = wd0 x
theorem WRI_0 (wd : Nat → Nat) (s w base : Nat) : WRI wd wd s w base 0 := ⟨fun b' h => absurd h (Nat.not_lt_zero b'), fun _ _ => rfl⟩
theorem WRI_set {wd wd0 : Nat → Nat} {s w base b : Nat} (h : WRI wd wd0 s w base b) (hs : s.testBit b = true) : WRI (mUpd wd (base + b) w) wd0 s w base (b + 1) := by
  refine ⟨fun b' hb' hs' => ?_, fun x hx => ?_⟩
  · by_cases c : b' = b
    · rw [c, mUpd_s]
    · rw [mUpd_n (by omega)]
      exact h.1 b' (by omega) hs'
  · rw [mUpd_n (hx b (by omega) hs)]
    exact h.2 x (fun b' hb' hs' => hx b' (by omega) hs')
theorem WRI_skip {wd wd0 : Nat → Nat} {s w base b : Nat} (h : WRI wd wd0 s w base b) (hs : ¬ s.testBit b = true) : WRI wd wd0 s w base (b + 1) := by
  refine ⟨fun b' hb' hs' => ?_, fun x hx => h.2 x (fun b' hb' hs' => hx b' (by omega) hs')⟩
  by_cases c : b' = b
  · subst c
    exact absurd hs' hs
  · exact h.1 b' (by omega) hs'
/-- each act below word w has its word -/
def WD (A wd : Nat → Nat) (base w : Nat) : Prop := ∀ j, j < w → ∀ b, (A j).testBit b = true → wd (base + b) = j
theorem dnA_t {A : Nat → Nat} {b : Nat} : ∀ w, (dnA A w).testBit b = true ↔ ∃ j, j < w ∧ (A j).testBit b = true
  | 0 => by
    show (0 : Nat).testBit b = true ↔ _
    rw [Nat.zero_testBit]
    exact ⟨fun h => absurd h (by decide), fun ⟨j, h, _⟩ => absurd h (Nat.not_lt_zero j)⟩
  | w + 1 => by
    show (dnA A w ||| A w).testBit b = true ↔ _
    rw [mOr_t, dnA_t w]
    constructor
    · rintro (⟨j, h1, h2⟩ | h)
      · exact ⟨j, by omega, h2⟩
      · exact ⟨w, by omega, h⟩
    · rintro ⟨j, h1, h2⟩
      by_cases c : j = w
      · subst c
        exact Or.inr h2
      · exact Or.inl ⟨j, by omega, h2⟩
theorem WD_step {A wd wd0 : Nat → Nat} {base w s n d : Nat} (h : WD A wd0 base w) (hd : d = dnA A w) (hdj : ∀ i, s.testBit i = true → d.testBit i = false) (hsn : s < 2 ^ n) (hr : WRI wd wd0 s w base n) : WD (mUpd A w s) wd base (w + 1) := by
  intro j hj b hb
  by_cases c : j = w
  · subst c
    rw [mUpd_s] at hb
    exact hr.1 b (mBit_lt hsn hb) hb
  · rw [mUpd_n c] at hb
    rw [hr.2 (base + b) (fun b' hb' hs' e => ?_)]
    · exact h j (by omega) b hb
    · have e1 : b = b' := by omega
      subst e1
      have z := hdj b hs'
      rw [hd] at z
      rw [(dnA_t w).mpr ⟨j, by omega, hb⟩] at z
      exact absurd z (by decide)
