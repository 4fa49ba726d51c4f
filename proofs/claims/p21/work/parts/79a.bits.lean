-- sets of acts as numbers, and what a packing is (plain facts, no machine)
def mDif (a b : Nat) : Nat := a &&& (a ^^^ b)
theorem mDif_bit (a b i : Nat) : (mDif a b).testBit i = (a.testBit i && !b.testBit i) := by
  unfold mDif
  rw [Nat.testBit_and, Nat.testBit_xor]
  cases a.testBit i <;> cases b.testBit i <;> rfl
def mSub (a b : Nat) : Prop := ∀ i, a.testBit i = true → b.testBit i = true
theorem mm_and (a b : Nat) : nI a &&& nI b = nI (a &&& b) := by
  apply Int32.toBitVec_inj.1
  show BitVec.ofNat 32 a &&& BitVec.ofNat 32 b = BitVec.ofNat 32 (a &&& b)
  apply BitVec.eq_of_getLsbD_eq
  intro i hi
  simp [hi]
theorem mm_or (a b : Nat) : nI a ||| nI b = nI (a ||| b) := by
  apply Int32.toBitVec_inj.1
  show BitVec.ofNat 32 a ||| BitVec.ofNat 32 b = BitVec.ofNat 32 (a ||| b)
  apply BitVec.eq_of_getLsbD_eq
  intro i hi
  simp [hi]
theorem mm_andn (a b : Nat) : nI a &&& (nI b ^^^ (-1)) = nI (mDif a b) := by
  have e : (-1 : Int32).toBitVec = BitVec.allOnes 32 := by decide
  apply Int32.toBitVec_inj.1
  show BitVec.ofNat 32 a &&& (BitVec.ofNat 32 b ^^^ (-1 : Int32).toBitVec) = BitVec.ofNat 32 (mDif a b)
  rw [e]
  apply BitVec.eq_of_getLsbD_eq
  intro i hi
  simp only [BitVec.getLsbD_and, BitVec.getLsbD_xor, BitVec.getLsbD_ofNat, BitVec.getLsbD_allOnes, mDif_bit, hi, decide_true, Bool.true_and, Bool.xor_true]
theorem mm_shl1 : ∀ i : Fin 31, (1 : Int32) <<< (nI i.val &&& 31) = nI (2 ^ i.val) := by decide +kernel
theorem mm_shl {i : Nat} (h : i < 31) : (1 : Int32) <<< (nI i &&& 31) = nI (2 ^ i) := mm_shl1 ⟨i, h⟩
theorem mm_sl1 : ∀ n : Fin 32, ((nI n.val &&& 31).toBitVec.smod 32).toNat = n.val := by decide +kernel
theorem mm_0 {a : Nat} (h : a < 2 ^ 31) : nI a = 0 ↔ a = 0 := nI_eq (b := 0) h (by decide)
theorem mm_isin {m i : Nat} (hm : m < 2 ^ 31) (hi : i < 31) : (nI m >>> (nI i &&& 31)) &&& 1 = 0 ↔ m.testBit i = false := by
  have e1 := pk_shrN hm (nI i &&& 31) i (mm_sl1 ⟨i, by omega⟩)
  have e2 : (1 : Int32) = nI 1 := rfl
  have h1 : m / 2 ^ i &&& 1 ≤ 1 := Nat.and_le_right
  rw [e1, e2, mm_and, mm_0 (by omega), Nat.and_one_is_mod, Nat.testBit_eq_decide_div_mod_eq]
  constructor
  · intro h
    exact decide_eq_false (by omega)
  · intro h
    have := of_decide_eq_false h
    omega
theorem mm_two {i : Nat} (h : i ≤ 10) : 2 ^ i ≤ 1024 := Nat.pow_le_pow_right (n := 2) (by decide) h
theorem mm_pos (i : Nat) : 0 < 2 ^ i := Nat.two_pow_pos i
theorem mm_or_lt {a b n : Nat} (ha : a < 2 ^ n) (hb : b < 2 ^ n) : a ||| b < 2 ^ n := Nat.or_lt_two_pow ha hb
theorem mSub_le {a b : Nat} (h : mSub a b) : a ≤ b := Nat.le_of_testBit h
theorem mDif_0 {a b : Nat} : mDif a b = 0 ↔ mSub a b := by
  constructor
  · intro h i hi
    have z := mDif_bit a b i
    rw [h, Nat.zero_testBit, hi] at z
    cases hb : b.testBit i
    · rw [hb] at z
      exact absurd z (by decide)
    · rfl
  · intro h
    apply Nat.eq_of_testBit_eq
    intro i
    rw [mDif_bit, Nat.zero_testBit]
    cases ha : a.testBit i
    · rfl
    · rw [h i ha]
      rfl
theorem mDif_sub (a b : Nat) : mSub (mDif a b) a := by
  intro i h
  rw [mDif_bit] at h
  cases ha : a.testBit i
  · rw [ha] at h
    simp at h
  · rfl
theorem mDif_le (a b : Nat) : mDif a b ≤ a := mSub_le (mDif_sub a b)
theorem mOr_t (a b i : Nat) : (a ||| b).testBit i = true ↔ a.testBit i = true ∨ b.testBit i = true := by
  rw [Nat.testBit_or]
  cases a.testBit i <;> cases b.testBit i <;> simp
theorem mOr_f (a b i : Nat) : (a ||| b).testBit i = false ↔ a.testBit i = false ∧ b.testBit i = false := by
  rw [Nat.testBit_or]
  cases a.testBit i <;> cases b.testBit i <;> simp
theorem mAnd_t (a b i : Nat) : (a &&& b).testBit i = true ↔ a.testBit i = true ∧ b.testBit i = true := by
  rw [Nat.testBit_and]
  cases a.testBit i <;> cases b.testBit i <;> simp
theorem mDif_t (a b i : Nat) : (mDif a b).testBit i = true ↔ a.testBit i = true ∧ b.testBit i = false := by
  rw [mDif_bit]
  cases a.testBit i <;> cases b.testBit i <;> simp
theorem mPow_t (k i : Nat) : (2 ^ k).testBit i = true ↔ k = i := by
  rw [Nat.testBit_two_pow]
  exact decide_eq_true_iff
theorem mFull_t (n i : Nat) : (2 ^ n - 1).testBit i = true ↔ i < n := by
  rw [Nat.testBit_two_pow_sub_one]
  exact decide_eq_true_iff
theorem mBit_lt {a n i : Nat} (h : a < 2 ^ n) (hi : a.testBit i = true) : i < n := by
  apply Decidable.byContradiction
  intro hn
  have h1 := Nat.ge_two_pow_of_testBit hi
  have h2 : 2 ^ n ≤ 2 ^ i := Nat.pow_le_pow_right (by decide) (by omega)
  omega
theorem mLt_of {a n : Nat} (h : ∀ i, a.testBit i = true → i < n) : a < 2 ^ n := by
  apply Nat.lt_pow_two_of_testBit
  intro i hi
  cases ha : a.testBit i
  · rfl
  · have := h i ha
    omega
theorem mBF {b : Bool} : ¬ b = true ↔ b = false := by cases b <;> simp
theorem mFull_eq {a n : Nat} (h : a < 2 ^ n) : a = 2 ^ n - 1 ↔ ∀ i, i < n → a.testBit i = true := by
  constructor
  · intro e i hi
    rw [e]
    exact (mFull_t n i).mpr hi
  · intro e
    apply Nat.eq_of_testBit_eq
    intro i
    by_cases hi : i < n
    · rw [e i hi, (mFull_t n i).mpr hi]
    · have h1 : ¬ a.testBit i = true := fun z => hi (mBit_lt h z)
      have h2 : ¬ (2 ^ n - 1).testBit i = true := fun z => hi ((mFull_t n i).mp z)
      rw [mBF.mp h1, mBF.mp h2]
theorem mRest_0 {d n : Nat} (h : d < 2 ^ n) : mDif (2 ^ n - 1) d = 0 ↔ d = 2 ^ n - 1 := by
  rw [mDif_0, mFull_eq h]
  constructor
  · intro z i hi
    exact z i ((mFull_t n i).mpr hi)
  · intro z i hi
    exact z i ((mFull_t n i).mp hi)
theorem mSub_and {a b : Nat} (h : mSub a b) : a &&& b = a := by
  apply Nat.eq_of_testBit_eq
  intro i
  rw [Nat.testBit_and]
  cases ha : a.testBit i
  · rfl
  · rw [h i ha]
    rfl
theorem mAnd_sub (a b : Nat) : mSub (a &&& b) b := fun i h => ((mAnd_t a b i).mp h).2
theorem mSub_half {s f : Nat} (h : mSub s f) : mSub (s / 2) (f / 2) := by
  intro i hi
  rw [Nat.testBit_div_two] at hi ⊢
  exact h (i + 1) hi
theorem mSub_low {s f : Nat} (h : mSub s f) : s % 2 = 1 → f % 2 = 1 := by
  rw [Nat.mod_two_eq_one_iff_testBit_zero, Nat.mod_two_eq_one_iff_testBit_zero]
  exact h 0
theorem mSub_0 {s : Nat} (h : mSub s 0) : s = 0 := Nat.le_zero.mp (mSub_le h)
/-- going down through the subsets of r -/
theorem mDown : ∀ (K s t r : Nat), s < 2 ^ K → mSub s r → mSub t r → t < s → t ≤ (s - 1) &&& r := by
  intro K
  induction K with
  | zero => intro s t r h0 _ _ h; exact absurd h (by omega)
  | succ K ih =>
    intro s t r h0 hs ht h
    have hp : 2 ^ (K + 1) = 2 * 2 ^ K := by rw [Nat.pow_succ]; omega
    have e1 : ((s - 1) &&& r) / 2 = (s - 1) / 2 &&& r / 2 := Nat.and_div_two
    have e2 : ((s - 1) &&& r) % 2 = 1 ↔ (s - 1) % 2 = 1 ∧ r % 2 = 1 := Nat.and_mod_two_eq_one
    have hl := mSub_low ht
    by_cases c : s % 2 = 1
    · have e3 : (s - 1) / 2 = s / 2 := by omega
      rw [e3, mSub_and (mSub_half hs)] at e1
      omega
    · have e3 : (s - 1) / 2 = s / 2 - 1 := by omega
      have z := ih (s / 2) (t / 2) (r / 2) (by omega) (mSub_half hs) (mSub_half ht) (by omega)
      rw [e3] at e1
      rw [← e1] at z
      by_cases d : t % 2 = 1
      · have z2 := e2.mpr ⟨by omega, hl d⟩
        omega
      · omega
theorem mUpC : ∀ (K s f : Nat), mSub s f → f < 2 ^ K → (2 ^ K - 1 - f + s) &&& f = s := by
  intro K
  induction K with
  | zero =>
    intro s f hs hf
    have e : f = 0 := by omega
    subst e
    rw [mSub_0 hs]
    rfl
  | succ K ih =>
    intro s f hs hf
    have hp : 2 ^ (K + 1) = 2 * 2 ^ K := by rw [Nat.pow_succ]; omega
    obtain ⟨X, eX⟩ : ∃ X, X = 2 ^ (K + 1) - 1 - f + s := ⟨_, rfl⟩
    rw [← eX]
    have e1 : (X &&& f) / 2 = X / 2 &&& f / 2 := Nat.and_div_two
    have e2 : (X &&& f) % 2 = 1 ↔ X % 2 = 1 ∧ f % 2 = 1 := Nat.and_mod_two_eq_one
    have hl := mSub_low hs
    have hle := mSub_le hs
    have e3 : X / 2 = 2 ^ K - 1 - f / 2 + s / 2 := by
      by_cases c : s % 2 = 1
      · have := hl c
        omega
      · omega
    rw [e3, ih _ _ (mSub_half hs) (by omega)] at e1
    by_cases c : s % 2 = 1
    · have h1 := hl c
      have h2 := e2.mpr ⟨by omega, h1⟩
      omega
    · by_cases d : f % 2 = 1
      · have h2 : ¬ (X &&& f) % 2 = 1 := fun z => by
          have := (e2.mp z).1
          omega
        omega
      · have h2 : ¬ (X &&& f) % 2 = 1 := fun z => d (e2.mp z).2
        omega
/-- going up through the subsets of f: the next one, 0 behind the last -/
theorem mUp : ∀ (K s f : Nat), mSub s f → f < 2 ^ K → ((2 ^ K - f + s) &&& f = 0 ∧ s = f) ∨ (s < (2 ^ K - f + s) &&& f ∧ ∀ t, mSub t f → s < t → (2 ^ K - f + s) &&& f ≤ t) := by
  intro K
  induction K with
  | zero =>
    intro s f hs hf
    have e : f = 0 := by omega
    subst e
    exact Or.inl ⟨Nat.and_zero _, mSub_0 hs⟩
  | succ K ih =>
    intro s f hs hf
    have hp : 2 ^ (K + 1) = 2 * 2 ^ K := by rw [Nat.pow_succ]; omega
    obtain ⟨X, eX⟩ : ∃ X, X = 2 ^ (K + 1) - f + s := ⟨_, rfl⟩
    rw [← eX]
    have e1 : (X &&& f) / 2 = X / 2 &&& f / 2 := Nat.and_div_two
    have e2 : (X &&& f) % 2 = 1 ↔ X % 2 = 1 ∧ f % 2 = 1 := Nat.and_mod_two_eq_one
    have hl := mSub_low hs
    have hle := mSub_le hs
    have hh := ih (s / 2) (f / 2) (mSub_half hs) (by omega)
    obtain ⟨v, ev⟩ : ∃ v, v = X &&& f := ⟨_, rfl⟩
    rw [← ev] at e1 e2 ⊢
    obtain ⟨v', ev'⟩ : ∃ v', v' = (2 ^ K - f / 2 + s / 2) &&& f / 2 := ⟨_, rfl⟩
    rw [← ev'] at hh
    by_cases d : f % 2 = 1
    · by_cases c : s % 2 = 1
      · have e3 : X / 2 = 2 ^ K - f / 2 + s / 2 := by omega
        rw [e3, ← ev'] at e1
        have h2 : ¬ v % 2 = 1 := fun z => by
          have := (e2.mp z).1
          omega
        rcases hh with ⟨h3, h4⟩ | ⟨h3, h4⟩
        · exact Or.inl ⟨by omega, by omega⟩
        · refine Or.inr ⟨by omega, fun t ht hst => ?_⟩
          have h5 := h4 (t / 2) (mSub_half ht) (by omega)
          omega
      · have e3 : X / 2 = 2 ^ K - 1 - f / 2 + s / 2 := by omega
        rw [e3, mUpC K _ _ (mSub_half hs) (by omega)] at e1
        have h2 := e2.mpr ⟨by omega, d⟩
        exact Or.inr ⟨by omega, fun t ht hst => by omega⟩
    · have c : ¬ s % 2 = 1 := fun z => d (hl z)
      have e3 : X / 2 = 2 ^ K - f / 2 + s / 2 := by omega
      rw [e3, ← ev'] at e1
      have h2 : ¬ v % 2 = 1 := fun z => d (e2.mp z).2
      rcases hh with ⟨h3, h4⟩ | ⟨h3, h4⟩
      · exact Or.inl ⟨by omega, by omega⟩
      · refine Or.inr ⟨by omega, fun t ht hst => ?_⟩
        have h6 := mSub_low ht
        have h5 := h4 (t / 2) (mSub_half ht) (by omega)
        omega
def mNx (s f : Nat) : Nat := (2 ^ 32 - f + s) &&& f
theorem mm_nx {s f : Nat} (hs : s < 2 ^ 31) (hf : f < 2 ^ 31) : (nI s - nI f) &&& nI f = nI (mNx s f) := by
  have e : nI s - nI f = nI (2 ^ 32 - f + s) := by
    apply Int32.toBitVec_inj.1
    show BitVec.ofNat 32 s - BitVec.ofNat 32 f = BitVec.ofNat 32 (2 ^ 32 - f + s)
    apply BitVec.eq_of_toNat_eq
    rw [BitVec.toNat_sub, BitVec.toNat_ofNat, BitVec.toNat_ofNat, BitVec.toNat_ofNat, Nat.mod_eq_of_lt (a := f) (by omega), Nat.mod_eq_of_lt (a := s) (by omega)]
  rw [e, mm_and]
  rfl
theorem mNx_up {s f : Nat} (hs : mSub s f) (hf : f < 2 ^ 31) : (mNx s f = 0 ∧ s = f) ∨ (s < mNx s f ∧ ∀ t, mSub t f → s < t → mNx s f ≤ t) := mUp 32 s f hs (by omega)
