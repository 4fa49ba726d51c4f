-- sets of acts as numbers, and what a packing is (plain facts, no machine)
def mDif (a b : Nat) : Nat := a &&& (a ^^^ b)
theorem mDif_bit (a b i : Nat) : (mDif a b).testBit i = (a.testBit i && !b.testBit i) := by
  unfold mDif
  rw [Nat.testBit_and, Nat.testBit_xor]
  cases a.testBit i <;> cases b.testBit i <;> rfl
def mSub (a b : Nat) : Prop := ∀ i, a.testBit i = true → b.testBit i = true
theorem mm_and (a b : Nat) : nI a &&& nI b = nI (a &&& b) := by
  apply Int32.toBitVec_inj.1
  show BitVec.ofNat 32 a &&& BitVec.ofNat 32 b = BitVec.ofNat 32 (a &&& b)
  apply BitVec.eq_of_getLsbD_eq
  intro i hi
  simp [hi]
theorem mm_or (a b : Nat) : nI a ||| nI b = nI (a ||| b) := by
  apply Int32.toBitVec_inj.1
  show BitVec.ofNat 32 a ||| BitVec.ofNat 32 b = BitVec.ofNat 32 (a ||| b)
  apply BitVec.eq_of_getLsbD_eq
  intro i hi
  simp [hi]
theorem mm_andn (a b : Nat) : nI a &&& (nI b ^^^ (-1)) = nI (mDif a b) := by
  have e : (-1 : Int32).toBitVec = BitVec.allOnes 32 := by decide
  apply Int32.toBitVec_inj.1
  show BitVec.ofNat 32 a &&& (BitVec.ofNat 32 b ^^^ (-1 : Int32).toBitVec) = BitVec.ofNat 32 (mDif a b)
  rw [e]
  apply BitVec.eq_of_getLsbD_eq
  intro i hi
  simp [hi, mDif_bit]
theorem mm_shl1 : ∀ i : Fin 31, (1 : Int32) <<< (nI i.val &&& 31) = nI (2 ^ i.val) := by decide +kernel
theorem mm_shl {i : Nat} (h : i < 31) : (1 : Int32) <<< (nI i &&& 31) = nI (2 ^ i) := mm_shl1 ⟨i, h⟩
theorem mm_sl1 : ∀ n : Fin 32, ((nI n.val &&& 31).toBitVec.smod 32).toNat = n.val := by decide +kernel
theorem mm_0 {a : Nat} (h : a < 2 ^ 31) : nI a = 0 ↔ a = 0 := nI_eq (b := 0) h (by decide)
theorem mm_isin {m i : Nat} (hm : m < 2 ^ 31) (hi : i < 31) : (nI m >>> (nI i &&& 31)) &&& 1 = 0 ↔ m.testBit i = false := by
  have e1 := pk_shrN hm (nI i &&& 31) i (mm_sl1 ⟨i, by omega⟩)
  have e2 : (1 : Int32) = nI 1 := rfl
  have h1 : m / 2 ^ i &&& 1 ≤ 1 := Nat.and_le_right
  rw [e1, e2, mm_and, mm_0 (by omega), Nat.and_one_is_mod, Nat.testBit_eq_decide_div_mod_eq]
  constructor
  · intro h
    exact decide_eq_false (by omega)
  · intro h
    have := of_decide_eq_false h
    omega
theorem mm_two {i : Nat} (h : i ≤ 10) : 2 ^ i ≤ 1024 := Nat.pow_le_pow_right (n := 2) (by decide) h
theorem mm_pos (i : Nat) : 0 < 2 ^ i := Nat.two_pow_pos i
theorem mm_or_lt {a b n : Nat} (ha : a < 2 ^ n) (hb : b < 2 ^ n) : a ||| b < 2 ^ n := Nat.or_lt_two_pow ha hb
theorem mSub_le {a b : Nat} (h : mSub a b) : a ≤ b := Nat.le_of_testBit h
theorem mDif_0 {a b : Nat} : mDif a b = 0 ↔ mSub a b := by
  constructor
  · intro h i hi
    have z := mDif_bit a b i
    rw [h, Nat.zero_testBit, hi] at z
    cases hb : b.testBit i
    · rw [hb] at z
      exact absurd z (by decide)
    · rfl
  · intro h
    apply Nat.eq_of_testBit_eq
    intro i
    rw [mDif_bit, Nat.zero_testBit]
    cases ha : a.testBit i
    · rfl
    · rw [h i ha]
      rfl
theorem mDif_sub (a b : Nat) : mSub (mDif a b) a := by
  intro i h
  rw [mDif_bit] at h
  cases ha : a.testBit i
  · rw [ha] at h
    exact absurd h (by decide)
  · rfl
theorem mDif_le (a b : Nat) : mDif a b ≤ a := mSub_le (mDif_sub a b)
theorem mOr_t (a b i : Nat) : (a ||| b).testBit i = true ↔ a.testBit i = true ∨ b.testBit i = true := by
  rw [Nat.testBit_or]
  cases a.testBit i <;> cases b.testBit i <;> simp
theorem mOr_f (a b i : Nat) : (a ||| b).testBit i = false ↔ a.testBit i = false ∧ b.testBit i = false := by
  rw [Nat.testBit_or]
  cases a.testBit i <;> cases b.testBit i <;> simp
theorem mAnd_t (a b i : Nat) : (a &&& b).testBit i = true ↔ a.testBit i = true ∧ b.testBit i = true := by
  rw [Nat.testBit_and]
  cases a.testBit i <;> cases b.testBit i <;> simp
theorem mDif_t (a b i : Nat) : (mDif a b).testBit i = true ↔ a.testBit i = true ∧ b.testBit i = false := by
  rw [mDif_bit]
  cases a.testBit i <;> cases b.testBit i <;> simp
theorem mPow_t (k i : Nat) : (2 ^ k).testBit i = true ↔ k = i := by
  rw [Nat.testBit_two_pow]
  exact decide_eq_true_iff
theorem mFull_t (n i : Nat) : (2 ^ n - 1).testBit i = true ↔ i < n := by
  rw [Nat.testBit_two_pow_sub_one]
  exact decide_eq_true_iff
theorem mBit_lt {a n i : Nat} (h : a < 2 ^ n) (hi : a.testBit i = true) : i < n := by
  apply Decidable.byContradiction
  intro hn
  have h1 := Nat.ge_two_pow_of_testBit hi
  have h2 : 2 ^ n ≤ 2 ^ i := Nat.pow_le_pow_right (by decide) (by omega)
  omega
theorem mLt_of {a n : Nat} (h : ∀ i, a.testBit i = true → i < n) : a < 2 ^ n := by
  apply Nat.lt_pow_two_of_testBit
  intro i hi
  cases ha : a.testBit i
  · rfl
  · have := h i ha
    omega
theorem mBF {b : Bool} : ¬ b = true ↔ b = false := by cases b <;> simp
theorem mFull_eq {a n : Nat} (h : a < 2 ^ n) : a = 2 ^ n - 1 ↔ ∀ i, i < n → a.testBit i = true := by
  constructor
  · intro e i hi
    rw [e]
    exact (mFull_t n i).mpr hi
  · intro e
    apply Nat.eq_of_testBit_eq
    intro i
    by_cases hi : i < n
    · rw [e i hi, (mFull_t n i).mpr hi]
    · have h1 : ¬ a.testBit i = true := fun z => hi (mBit_lt h z)
      have h2 : ¬ (2 ^ n - 1).testBit i = true := fun z => hi ((mFull_t n i).mp z)
      rw [mBF.mp h1, mBF.mp h2]
theorem mRest_0 {d n : Nat} (h : d < 2 ^ n) : mDif (2 ^ n - 1) d = 0 ↔ d = 2 ^ n - 1 := by
  rw [mDif_0, mFull_eq h]
  constructor
  · intro z i hi
    exact z i ((mFull_t n i).mpr hi)
  · intro z i hi
    exact z i ((mFull_t n i).mp hi)
theorem mSub_and {a b : Nat} (h : mSub a b) : a &&& b = a := by
  apply Nat.eq_of_testBit_eq
  intro i
  rw [Nat.testBit_and]
  cases ha : a.testBit i
  · rfl
  · rw [h i ha]
    rfl
theorem mAnd_sub (a b : Nat) : mSub (a &&& b) b := fun i h => ((mAnd_t a b i).mp h).2
theorem mSub_half {s f : Nat} (h : mSub s f) : mSub (s / 2) (f / 2) := by
  intro i hi
  rw [Nat.testBit_div_two] at hi ⊢
  exact h (i + 1) hi
theorem mSub_low {s f : Nat} (h : mSub s f) : s % 2 = 1 → f % 2 = 1 := by
  rw [Nat.mod_two_eq_one_iff_testBit_zero, Nat.mod_two_eq_one_iff_testBit_zero]
  exact h 0
theorem mSub_0 {s : Nat} (h : mSub s 0) : s = 0 := Nat.le_zero.mp (mSub_le h)
/-- going down through the subsets of r -/
theorem mDown : ∀ (K s t r : Nat), s < 2 ^ K → mSub s r → mSub t r → t < s → t ≤ (s - 1) &&& r := by
  intro K
  induction K with
  | zero => intro s t r h0 _ _ h; exact absurd h (by omega)
  | succ K ih =>
    intro s t r h0 hs ht h
    have hp : 2 ^ (K + 1) = 2 * 2 ^ K := by rw [Nat.pow_succ]; omega
    have e1 : ((s - 1) &&& r) / 2 = (s - 1) / 2 &&& r / 2 := Nat.and_div_two
    have e2 : ((s - 1) &&& r) % 2 = 1 ↔ (s - 1) % 2 = 1 ∧ r % 2 = 1 := Nat.and_mod_two_eq_one
    have hl := mSub_low ht
    by_cases c : s % 2 = 1
    · have e3 : (s - 1) / 2 = s / 2 := by omega
      rw [e3, mSub_and (mSub_half hs)] at e1
      omega
    · have e3 : (s - 1) / 2 = s / 2 - 1 := by omega
      have z := ih (s / 2) (t / 2) (r / 2) (by omega) (mSub_half hs) (mSub_half ht) (by omega)
      rw [e3] at e1
      rw [← e1] at z
      by_cases d : t % 2 = 1
      · have z2 := e2.mpr ⟨by omega, hl d⟩
        omega
      · omega
theorem mUpC : ∀ (K s f : Nat), mSub s f → f < 2 ^ K → (2 ^ K - 1 - f + s) &&& f = s := by
  intro K
  induction K with
  | zero =>
    intro s f hs hf
    have e : f = 0 := by omega
    subst e
    rw [mSub_0 hs]
    rfl
  | succ K ih =>
    intro s f hs hf
    have hp : 2 ^ (K + 1) = 2 * 2 ^ K := by rw [Nat.pow_succ]; omega
    obtain ⟨X, eX⟩ : ∃ X, X = 2 ^ (K + 1) - 1 - f + s := ⟨_, rfl⟩
    rw [← eX]
    have e1 : (X &&& f) / 2 = X / 2 &&& f / 2 := Nat.and_div_two
    have e2 : (X &&& f) % 2 = 1 ↔ X % 2 = 1 ∧ f % 2 = 1 := Nat.and_mod_two_eq_one
    have hl := mSub_low hs
    have hle := mSub_le hs
    have e3 : X / 2 = 2 ^ K - 1 - f / 2 + s / 2 := by
      by_cases c : s % 2 = 1
      · have := hl c
        omega
      · omega
    rw [e3, ih _ _ (mSub_half hs) (by omega)] at e1
    by_cases c : s % 2 = 1
    · have h1 := hl c
      have h2 := e2.mpr ⟨by omega, h1⟩
      omega
    · by_cases d : f % 2 = 1
      · have h2 : ¬ (X &&& f) % 2 = 1 := fun z => by
          have := (e2.mp z).1
          omega
        omega
      · have h2 : ¬ (X &&& f) % 2 = 1 := fun z => d (e2.mp z).2
        omega
/-- going up through the subsets of f: the next one, 0 behind the last -/
theorem mUp : ∀ (K s f : Nat), mSub s f → f < 2 ^ K → ((2 ^ K - f + s) &&& f = 0 ∧ s = f) ∨ (s < (2 ^ K - f + s) &&& f ∧ ∀ t, mSub t f → s < t → (2 ^ K - f + s) &&& f ≤ t) := by
  intro K
  induction K with
  | zero =>
    intro s f hs hf
    have e : f = 0 := by omega
    subst e
    exact Or.inl ⟨Nat.and_zero _, mSub_0 hs⟩
  | succ K ih =>
    intro s f hs hf
    have hp : 2 ^ (K + 1) = 2 * 2 ^ K := by rw [Nat.pow_succ]; omega
    obtain ⟨X, eX⟩ : ∃ X, X = 2 ^ (K + 1) - f + s := ⟨_, rfl⟩
    rw [← eX]
    have e1 : (X &&& f) / 2 = X / 2 &&& f / 2 := Nat.and_div_two
    have e2 : (X &&& f) % 2 = 1 ↔ X % 2 = 1 ∧ f % 2 = 1 := Nat.and_mod_two_eq_one
    have hl := mSub_low hs
    have hle := mSub_le hs
    have hh := ih (s / 2) (f / 2) (mSub_half hs) (by omega)
    obtain ⟨v, ev⟩ : ∃ v, v = X &&& f := ⟨_, rfl⟩
    rw [← ev] at e1 e2 ⊢
    obtain ⟨v', ev'⟩ : ∃ v', v' = (2 ^ K - f / 2 + s / 2) &&& f / 2 := ⟨_, rfl⟩
    rw [← ev'] at hh
    by_cases d : f % 2 = 1
    · by_cases c : s % 2 = 1
      · have e3 : X / 2 = 2 ^ K - f / 2 + s / 2 := by omega
        rw [e3, ← ev'] at e1
        have h2 : ¬ v % 2 = 1 := fun z => by
          have := (e2.mp z).1
          omega
        rcases hh with ⟨h3, h4⟩ | ⟨h3, h4⟩
        · exact Or.inl ⟨by omega, by omega⟩
        · refine Or.inr ⟨by omega, fun t ht hst => ?_⟩
          have h5 := h4 (t / 2) (mSub_half ht) (by omega)
          omega
      · have e3 : X / 2 = 2 ^ K - 1 - f / 2 + s / 2 := by omega
        rw [e3, mUpC K _ _ (mSub_half hs) (by omega)] at e1
        have h2 := e2.mpr ⟨by omega, d⟩
        exact Or.inr ⟨by omega, fun t ht hst => by omega⟩
    · have c : ¬ s % 2 = 1 := fun z => d (hl z)
      have e3 : X / 2 = 2 ^ K - f / 2 + s / 2 := by omega
      rw [e3, ← ev'] at e1
      have h2 : ¬ v % 2 = 1 := fun z => d (e2.mp z).2
      rcases hh with ⟨h3, h4⟩ | ⟨h3, h4⟩
      · exact Or.inl ⟨by omega, by omega⟩
      · refine Or.inr ⟨by omega, fun t ht hst => ?_⟩
        have h5 := h4 (t / 2) (mSub_half ht) (by omega)
        omega
def mNx (s f : Nat) : Nat := (2 ^ 32 - f + s) &&& f
theorem mm_nx {s f : Nat} (hs : s < 2 ^ 31) (hf : f < 2 ^ 31) : (nI s - nI f) &&& nI f = nI (mNx s f) := by
  have e : nI s - nI f = nI (2 ^ 32 - f + s) := by
    apply Int32.toBitVec_inj.1
    show BitVec.ofNat 32 s - BitVec.ofNat 32 f = BitVec.ofNat 32 (2 ^ 32 - f + s)
    apply BitVec.eq_of_toNat_eq
    rw [BitVec.toNat_sub, BitVec.toNat_ofNat, BitVec.toNat_ofNat, BitVec.toNat_ofNat, Nat.mod_eq_of_lt (a := f) (by omega), Nat.mod_eq_of_lt (a := s) (by omega)]
  rw [e, mm_and]
  rfl
theorem mNx_up {s f : Nat} (hs : mSub s f) (hf : f < 2 ^ 31) : (mNx s f = 0 ∧ s = f) ∨ (s < mNx s f ∧ ∀ t, mSub t f → s < t → mNx s f ≤ t) := mUp 32 s f hs (by omega)
/-- how many of the first k bits -/
def mCnt (m : Nat) : Nat → Nat
  | 0 => 0
  | k + 1 => mCnt m k + (if m.testBit k = true then 1 else 0)
theorem mCnt_le (m : Nat) : ∀ k, mCnt m k ≤ k
  | 0 => Nat.le_refl 0
  | k + 1 => by
    have := mCnt_le m k
    unfold mCnt
    split <;> omega
/-- how many of the first k acts of s are of part p -/
def pcn (P : Nat → Nat) (s p : Nat) : Nat → Nat
  | 0 => 0
  | k + 1 => pcn P s p k + (if s.testBit k = true ∧ P k = p then 1 else 0)
/-- the acts of part p among the first k -/
def mOP (P : Nat → Nat) (p : Nat) : Nat → Nat
  | 0 => 0
  | k + 1 => if P k = p then mOP P p k ||| 2 ^ k else mOP P p k
theorem mOP_t (P : Nat → Nat) (p i : Nat) : ∀ k, (mOP P p k).testBit i = true ↔ i < k ∧ P i = p
  | 0 => by
    show (0 : Nat).testBit i = true ↔ _
    rw [Nat.zero_testBit]
    exact ⟨fun h => absurd h (by decide), fun h => absurd h.1 (Nat.not_lt_zero i)⟩
  | k + 1 => by
    have ih := mOP_t P p i k
    show (if P k = p then mOP P p k ||| 2 ^ k else mOP P p k).testBit i = true ↔ _
    by_cases e : P k = p
    · rw [if_pos e, mOr_t, ih, mPow_t]
      constructor
      · rintro (h | h)
        · exact ⟨by omega, h.2⟩
        · subst h
          exact ⟨by omega, e⟩
      · rintro ⟨h1, h2⟩
        by_cases q : k = i
        · exact Or.inr q
        · exact Or.inl ⟨by omega, h2⟩
    · rw [if_neg e, ih]
      constructor
      · rintro ⟨h1, h2⟩
        exact ⟨by omega, h2⟩
      · rintro ⟨h1, h2⟩
        refine ⟨?_, h2⟩
        apply Decidable.byContradiction
        intro q
        have : i = k := by omega
        subst this
        exact e h2
theorem mOP_lt (P : Nat → Nat) (p k : Nat) : mOP P p k < 2 ^ k := mLt_of (fun i h => ((mOP_t P p i k).mp h).1)
theorem mCnt_pcn (P : Nat → Nat) (s p n : Nat) : ∀ k, mCnt (s &&& mOP P p n) k = pcn P s p (if k ≤ n then k else n)
  | 0 => by
    rw [if_pos (Nat.zero_le n)]
    rfl
  | k + 1 => by
    have ih := mCnt_pcn P s p n k
    show mCnt (s &&& mOP P p n) k + (if (s &&& mOP P p n).testBit k = true then 1 else 0) = _
    by_cases h : k + 1 ≤ n
    · rw [if_pos h, ih, if_pos (by omega)]
      show _ = pcn P s p k + (if s.testBit k = true ∧ P k = p then 1 else 0)
      congr 1
      by_cases c : s.testBit k = true ∧ P k = p
      · rw [if_pos c, if_pos]
        exact (mAnd_t _ _ _).mpr ⟨c.1, (mOP_t P p k n).mpr ⟨by omega, c.2⟩⟩
      · rw [if_neg c, if_neg]
        intro z
        have z2 := (mAnd_t _ _ _).mp z
        exact c ⟨z2.1, ((mOP_t P p k n).mp z2.2).2⟩
    · rw [if_neg h, ih, if_neg (c := (s &&& mOP P p n).testBit k = true)]
      · by_cases h2 : k ≤ n
        · rw [if_pos h2, show k = n by omega]
          rfl
        · rw [if_neg h2]
          rfl
      · intro z
        have z2 := ((mOP_t P p k n).mp ((mAnd_t _ _ _).mp z).2).1
        omega
theorem mCnt_10 (P : Nat → Nat) (s p : Nat) {n : Nat} (hn : n ≤ 10) : mCnt (s &&& mOP P p n) 10 = pcn P s p n := by
  rw [mCnt_pcn]
  by_cases h : 10 ≤ n
  · rw [if_pos h, show n = 10 by omega]
  · rw [if_neg h]
theorem pcn_sub (P : Nat → Nat) (p : Nat) {a b c : Nat} : ∀ k, (∀ i, i < k → c.testBit i = true → a.testBit i = true ∨ b.testBit i = true) → pcn P c p k ≤ pcn P a p k + pcn P b p k
  | 0, _ => Nat.le_refl 0
  | k + 1, h => by
    have ih := pcn_sub P p k (fun i hi => h i (by omega))
    have h1 := h k (by omega)
    show pcn P c p k + (if c.testBit k = true ∧ P k = p then 1 else 0) ≤ pcn P a p k + (if a.testBit k = true ∧ P k = p then 1 else 0) + (pcn P b p k + (if b.testBit k = true ∧ P k = p then 1 else 0))
    by_cases e : P k = p
    · cases hc : c.testBit k
      · simp only [Bool.false_eq_true, false_and, if_false]
        omega
      · rcases h1 hc with z | z
        · simp only [z, e, and_self, if_true]
          omega
        · simp only [z, e, and_self, if_true]
          omega
    · simp only [e, and_false, if_false]
      omega
theorem pcn_0 (P : Nat → Nat) (p : Nat) : ∀ k, pcn P 0 p k = 0
  | 0 => rfl
  | k + 1 => by
    show pcn P 0 p k + (if (0 : Nat).testBit k = true ∧ P k = p then 1 else 0) = 0
    rw [pcn_0 P p k, Nat.zero_testBit, if_neg (fun z => absurd z.1 (by decide))]
theorem pcn_one (P : Nat → Nat) (p i : Nat) : ∀ k, pcn P (2 ^ i) p k ≤ (if i < k then 1 else 0)
  | 0 => Nat.zero_le _
  | k + 1 => by
    have ih := pcn_one P p i k
    show pcn P (2 ^ i) p k + (if (2 ^ i).testBit k = true ∧ P k = p then 1 else 0) ≤ _
    by_cases h : i = k
    · subst h
      rw [if_neg (Nat.lt_irrefl i)] at ih
      rw [if_pos (Nat.lt_succ_self i)]
      split <;> omega
    · rw [if_neg (c := (2 ^ i).testBit k = true ∧ P k = p) (fun z => h ((mPow_t i k).mp z.1))]
      by_cases q : i < k
      · rw [if_pos q] at ih
        rw [if_pos (by omega)]
        exact ih
      · rw [if_neg q] at ih
        omega
-- a packing: how many acts, what one needs of another, their parts, buses
abbrev PI := Nat × (Nat → Nat → Nat) × (Nat → Nat) × Nat
def pRoom (bs p : Nat) : Nat := if p = 0 then bs else 1
/-- s may be the next word behind d -/
def LW (q : PI) (d s : Nat) : Prop := s ≠ 0 ∧ s < 2 ^ q.1 ∧ (∀ i, s.testBit i = true → d.testBit i = false) ∧ (∀ p, p < 5 → pcn q.2.2.1 s p q.1 ≤ pRoom q.2.2.2 p) ∧ ∀ b, s.testBit b = true → ∀ a, a < b → (q.2.1 a b = 2 → d.testBit a = true) ∧ (q.2.1 a b = 1 → d.testBit a = true ∨ s.testBit a = true)
/-- what is not in d fits into k words -/
def CF (q : PI) : Nat → Nat → Prop
  | 0, d => d = 2 ^ q.1 - 1
  | k + 1, d => d = 2 ^ q.1 - 1 ∨ ∃ s, LW q d s ∧ CF q k (d ||| s)
theorem CF_mono (q : PI) : ∀ k d, CF q k d → CF q (k + 1) d
  | 0, _, h => Or.inl h
  | k + 1, d, h => by
    rcases h with h | ⟨s, h1, h2⟩
    · exact Or.inl h
    · exact Or.inr ⟨s, h1, CF_mono q k _ h2⟩
theorem CF_le (q : PI) {d : Nat} {k k' : Nat} (h : k ≤ k') (hc : CF q k d) : CF q k' d := by
  induction k' with
  | zero =>
    have e : k = 0 := by omega
    subst e
    exact hc
  | succ j ih =>
    by_cases e : k = j + 1
    · subst e
      exact hc
    · exact CF_mono q j d (ih (by omega))
/-- what is in d has all that it needs in d -/
def Cl (q : PI) (d : Nat) : Prop := ∀ b, d.testBit b = true → ∀ a, a < b → (q.2.1 a b = 2 ∨ q.2.1 a b = 1) → d.testBit a = true
theorem Cl_0 (q : PI) : Cl q 0 := fun b h => absurd h (by rw [Nat.zero_testBit]; decide)
theorem Cl_or {q : PI} {d s : Nat} (hd : Cl q d) (h : LW q d s) : Cl q (d ||| s) := by
  intro b hb a hab hn
  rw [mOr_t] at hb ⊢
  rcases hb with hb | hb
  · exact Or.inl (hd b hb a hab hn)
  · rcases hn with hn | hn
    · exact Or.inl ((h.2.2.2.2 b hb a hab).1 hn)
    · exact (h.2.2.2.2 b hb a hab).2 hn
/-- words that must come behind the word of i: each is 0, or has its reason -/
def WB (q : PI) (w : Nat → Nat) : Prop := ∀ i, i < q.1 → w i = 0 ∨ ∃ b, i < b ∧ b < q.1 ∧ ((q.2.1 i b = 2 ∧ w i = w b + 1) ∨ (q.2.1 i b = 1 ∧ w i = w b))
theorem CF_wb {q : PI} {w : Nat → Nat} (hW : WB q w) : ∀ (k d : Nat), Cl q d → CF q k d → ∀ (m i : Nat), q.1 - i ≤ m → i < q.1 → d.testBit i = false → w i < k := by
  intro k
  induction k with
  | zero =>
    intro d _ hc m i _ hi hd
    have hc : d = 2 ^ q.1 - 1 := hc
    rw [hc, (mFull_t q.1 i).mpr hi] at hd
    exact absurd hd (by decide)
  | succ k ih =>
    intro d hcl hc
    rcases hc with hc | ⟨s, h1, h2⟩
    · intro m i _ hi hd
      rw [hc, (mFull_t q.1 i).mpr hi] at hd
      exact absurd hd (by decide)
    · intro m
      induction m with
      | zero => intro i hm hi _; omega
      | succ m ihm =>
        intro i hm hi hd
        rcases hW i hi with h0 | ⟨b, hib, hb, h⟩
        · omega
        · have hdb : d.testBit b = false := by
            apply mBF.mp
            intro z
            have := hcl b z i hib (by rcases h with h | h; exact Or.inl h.1; exact Or.inr h.1)
            rw [hd] at this
            exact absurd this (by decide)
          rcases h with ⟨hn, hw⟩ | ⟨hn, hw⟩
          · have hsb : s.testBit b = false := by
              apply mBF.mp
              intro z
              have := (h1.2.2.2.2 b z i hib).1 hn
              rw [hd] at this
              exact absurd this (by decide)
            have := ih (d ||| s) (Cl_or hcl h1) h2 (q.1 - b) b (Nat.le_refl _) hb ((mOr_f _ _ _).mpr ⟨hdb, hsb⟩)
            omega
          · have := ihm b (by omega) hb hdb
            omega
theorem CF_urgent {q : PI} {w : Nat → Nat} (hW : WB q w) {k d s i : Nat} (hcl : Cl q d) (h1 : LW q d s) (h2 : CF q k (d ||| s)) (hi : i < q.1) (hd : d.testBit i = false) (hw : w i = k) : s.testBit i = true := by
  apply Decidable.byContradiction
  intro z
  have := CF_wb hW k (d ||| s) (Cl_or hcl h1) h2 _ i (Nat.le_refl _) hi ((mOr_f _ _ _).mpr ⟨hd, mBF.mp z⟩)
  omega
theorem CF_room (q : PI) {p : Nat} (hp : p < 5) : ∀ (k d : Nat), CF q k d → pcn q.2.2.1 (mDif (2 ^ q.1 - 1) d) p q.1 ≤ pRoom q.2.2.2 p * k := by
  intro k
  induction k with
  | zero =>
    intro d hc
    have hc : d = 2 ^ q.1 - 1 := hc
    rw [hc, (mDif_0 (a := 2 ^ q.1 - 1) (b := 2 ^ q.1 - 1)).mpr (fun _ h => h), pcn_0]
    exact Nat.zero_le _
  | succ k ih =>
    intro d hc
    rcases hc with hc | ⟨s, h1, h2⟩
    · rw [hc, (mDif_0 (a := 2 ^ q.1 - 1) (b := 2 ^ q.1 - 1)).mpr (fun _ h => h), pcn_0]
      exact Nat.zero_le _
    · have e1 := ih _ h2
      have e2 := h1.2.2.2.1 p hp
      have e3 := pcn_sub q.2.2.1 p (a := s) (b := mDif (2 ^ q.1 - 1) (d ||| s)) (c := mDif (2 ^ q.1 - 1) d) q.1 (fun i hi z => by
        have z2 := (mDif_t _ _ _).mp z
        by_cases c : s.testBit i = true
        · exact Or.inl c
        · exact Or.inr ((mDif_t _ _ _).mpr ⟨z2.1, (mOr_f _ _ _).mpr ⟨z2.2, mBF.mp c⟩⟩))
      rw [Nat.mul_succ]
      omega
theorem LW_one {q : PI} {d i : Nat} (hb : 1 ≤ q.2.2.2) (hi : i < q.1) (hd : d.testBit i = false) (hlow : ∀ j, j < i → d.testBit j = true) : LW q d (2 ^ i) := by
  refine ⟨?_, ?_, ?_, ?_, ?_⟩
  · have := mm_pos i
    omega
  · exact Nat.pow_lt_pow_right (by decide) hi
  · intro j hj
    rw [← (mPow_t i j).mp hj]
    exact hd
  · intro p hp
    have h1 := pcn_one q.2.2.1 p i q.1
    rw [if_pos hi] at h1
    unfold pRoom
    split <;> omega
  · intro b hb a hab
    have e := (mPow_t i b).mp hb
    subst e
    exact ⟨fun _ => hlow a hab, fun _ => Or.inl (hlow a hab)⟩
theorem CF_low (q : PI) (hb : 1 ≤ q.2.2.2) : ∀ (m i d : Nat), i + m = q.1 → d < 2 ^ q.1 → (∀ j, j < i → d.testBit j = true) → CF q m d := by
  intro m
  induction m with
  | zero =>
    intro i d hi hd hlow
    exact (mFull_eq hd).mpr (fun j hj => hlow j (by omega))
  | succ m ih =>
    intro i d hi hd hlow
    by_cases c : d.testBit i = true
    · refine CF_mono q m d (ih (i + 1) d (by omega) hd (fun j hj => ?_))
      by_cases e : j = i
      · rw [e]
        exact c
      · exact hlow j (by omega)
    · refine Or.inr ⟨2 ^ i, LW_one hb (by omega) (mBF.mp c) hlow, ih (i + 1) _ (by omega) (mm_or_lt hd (Nat.pow_lt_pow_right (by decide) (by omega))) (fun j hj => ?_)⟩
      rw [mOr_t]
      by_cases e : j = i
      · exact Or.inr ((mPow_t i j).mpr e.symm)
      · exact Or.inl (hlow j (by omega))
theorem CF_all (q : PI) (hb : 1 ≤ q.2.2.2) {d : Nat} (hd : d < 2 ^ q.1) : CF q q.1 d := CF_low q hb q.1 0 d (by omega) hd (fun j h => absurd h (Nat.not_lt_zero j))
/-- the word that the document wants behind d, with k words left behind it -/
def LS (q : PI) (k d s : Nat) : Prop := LW q d s ∧ CF q k (d ||| s) ∧ ∀ t, t < s → ¬ (LW q d t ∧ CF q k (d ||| t))
/-- A has, from place w on, the words of what is not in d: at most k -/
def PC (q : PI) (A : Nat → Nat) : Nat → Nat → Nat → Prop
  | 0, d, _ => d = 2 ^ q.1 - 1
  | k + 1, d, w => d = 2 ^ q.1 - 1 ∨ (LS q k d (A w) ∧ PC q A k (d ||| A w) (w + 1))
/-- just k words -/
def PW (q : PI) (A : Nat → Nat) : Nat → Nat → Nat → Prop
  | 0, d, _ => d = 2 ^ q.1 - 1
  | k + 1, d, w => LS q k d (A w) ∧ PW q A k (d ||| A w) (w + 1)
theorem PC_congr (q : PI) {A B : Nat → Nat} : ∀ k d w, (∀ j, w ≤ j → A j = B j) → PC q A k d w → PC q B k d w
  | 0, _, _, _, h => h
  | k + 1, d, w, e, h => by
    rcases h with h | ⟨h1, h2⟩
    · exact Or.inl h
    · rw [e w (Nat.le_refl w)] at h1 h2
      exact Or.inr ⟨h1, PC_congr q k _ _ (fun j hj => e j (by omega)) h2⟩
theorem PW_congr (q : PI) {A B : Nat → Nat} : ∀ k d w, (∀ j, w ≤ j → j < w + k → A j = B j) → PW q A k d w → PW q B k d w
  | 0, _, _, _, h => h
  | k + 1, d, w, e, h => by
    obtain ⟨h1, h2⟩ := h
    rw [e w (Nat.le_refl w) (by omega)] at h1 h2
    exact ⟨h1, PW_congr q k _ _ (fun j hj hj2 => e j (by omega) (by omega)) h2⟩
theorem PC_PW (q : PI) {A : Nat → Nat} : ∀ k d w, (∀ j, j < k → ¬ CF q j d) → PC q A k d w → PW q A k d w
  | 0, _, _, _, h => h
  | k + 1, d, w, hm, h => by
    rcases h with h | ⟨h1, h2⟩
    · exact absurd h (hm 0 (by omega))
    · exact ⟨h1, PC_PW q k _ _ (fun j hj hc => hm (j + 1) (by omega) (Or.inr ⟨A w, h1.1, hc⟩)) h2⟩
theorem LS_unique {q : PI} {k d s t : Nat} (h1 : LS q k d s) (h2 : LS q k d t) : s = t := by
  rcases Nat.lt_trichotomy s t with h | h | h
  · exact absurd ⟨h1.1, h1.2.1⟩ (h2.2.2 s h)
  · exact h
  · exact absurd ⟨h2.1, h2.2.1⟩ (h1.2.2 t h)
theorem PW_unique (q : PI) {A B : Nat → Nat} : ∀ k d w, PW q A k d w → PW q B k d w → ∀ j, w ≤ j → j < w + k → A j = B j
  | 0, _, _, _, _, j, h1, h2 => by omega
  | k + 1, d, w, hA, hB, j, h1, h2 => by
    have e : A w = B w := LS_unique hA.1 hB.1
    by_cases c : j = w
    · rw [c]
      exact e
    · refine PW_unique q k (d ||| A w) (w + 1) hA.2 ?_ j (by omega) (by omega)
      rw [e]
      exact hB.2
/-- how few words: just L -/
def MW (q : PI) (d L : Nat) : Prop := CF q L d ∧ ∀ j, j < L → ¬ CF q j d
theorem MW_unique {q : PI} {d L M : Nat} (h1 : MW q d L) (h2 : MW q d M) : L = M := by
  rcases Nat.lt_trichotomy L M with h | h | h
  · exact absurd h1.1 (h2.2 L h)
  · exact h
  · exact absurd h2.1 (h1.2 M h)
