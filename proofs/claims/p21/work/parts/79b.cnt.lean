/-- how many of the first k bits -/
def mCnt (m : Nat) : Nat → Nat
  | 0 => 0
  | k + 1 => mCnt m k + (if m.testBit k = true then 1 else 0)
theorem mCnt_le (m : Nat) : ∀ k, mCnt m k ≤ k
  | 0 => Nat.le_refl 0
  | k + 1 => by
    have := mCnt_le m k
    unfold mCnt
    split <;> omega
/-- how many of the first k acts of s are of part p -/
def pcn (P : Nat → Nat) (s p : Nat) : Nat → Nat
  | 0 => 0
  | k + 1 => pcn P s p k + (if s.testBit k = true ∧ P k = p then 1 else 0)
/-- the acts of part p among the first k -/
def mOP (P : Nat → Nat) (p : Nat) : Nat → Nat
  | 0 => 0
  | k + 1 => if P k = p then mOP P p k ||| 2 ^ k else mOP P p k
theorem mOP_t (P : Nat → Nat) (p i : Nat) : ∀ k, (mOP P p k).testBit i = true ↔ i < k ∧ P i = p
  | 0 => by
    show (0 : Nat).testBit i = true ↔ _
    rw [Nat.zero_testBit]
    exact ⟨fun h => absurd h (by decide), fun h => absurd h.1 (Nat.not_lt_zero i)⟩
  | k + 1 => by
    have ih := mOP_t P p i k
    show (if P k = p then mOP P p k ||| 2 ^ k else mOP P p k).testBit i = true ↔ _
    by_cases e : P k = p
    · rw [if_pos e, mOr_t, ih, mPow_t]
      constructor
      · rintro (h | h)
        · exact ⟨by omega, h.2⟩
        · subst h
          exact ⟨by omega, e⟩
      · rintro ⟨h1, h2⟩
        by_cases q : k = i
        · exact Or.inr q
        · exact Or.inl ⟨by omega, h2⟩
    · rw [if_neg e, ih]
      constructor
      · rintro ⟨h1, h2⟩
        exact ⟨by omega, h2⟩
      · rintro ⟨h1, h2⟩
        refine ⟨?_, h2⟩
        apply Decidable.byContradiction
        intro q
        have : i = k := by omega
        subst this
        exact e h2
theorem mOP_lt (P : Nat → Nat) (p k : Nat) : mOP P p k < 2 ^ k := mLt_of (fun i h => ((mOP_t P p i k).mp h).1)
theorem mCnt_pcn (P : Nat → Nat) (s p n : Nat) : ∀ k, mCnt (s &&& mOP P p n) k = pcn P s p (if k ≤ n then k else n)
  | 0 => by
    rw [if_pos (Nat.zero_le n)]
    rfl
  | k + 1 => by
    have ih := mCnt_pcn P s p n k
    show mCnt (s &&& mOP P p n) k + (if (s &&& mOP P p n).testBit k = true then 1 else 0) = _
    by_cases h : k + 1 ≤ n
    · rw [if_pos h, ih, if_pos (by omega)]
      show _ = pcn P s p k + (if s.testBit k = true ∧ P k = p then 1 else 0)
      congr 1
      by_cases c : s.testBit k = true ∧ P k = p
      · rw [if_pos c, if_pos]
        exact (mAnd_t _ _ _).mpr ⟨c.1, (mOP_t P p k n).mpr ⟨by omega, c.2⟩⟩
      · rw [if_neg c, if_neg]
        intro z
        have z2 := (mAnd_t _ _ _).mp z
        exact c ⟨z2.1, ((mOP_t P p k n).mp z2.2).2⟩
    · rw [if_neg h, ih, if_neg (c := (s &&& mOP P p n).testBit k = true)]
      · by_cases h2 : k ≤ n
        · rw [if_pos h2, show k = n by omega]
          rfl
        · rw [if_neg h2]
          rfl
      · intro z
        have z2 := ((mOP_t P p k n).mp ((mAnd_t _ _ _).mp z).2).1
        omega
theorem mCnt_10 (P : Nat → Nat) (s p : Nat) {n : Nat} (hn : n ≤ 10) : mCnt (s &&& mOP P p n) 10 = pcn P s p n := by
  rw [mCnt_pcn]
  by_cases h : 10 ≤ n
  · rw [if_pos h, show n = 10 by omega]
  · rw [if_neg h]
theorem pcn_sub (P : Nat → Nat) (p : Nat) {a b c : Nat} : ∀ k, (∀ i, i < k → c.testBit i = true → a.testBit i = true ∨ b.testBit i = true) → pcn P c p k ≤ pcn P a p k + pcn P b p k
  | 0, _ => Nat.le_refl 0
  | k + 1, h => by
    have ih := pcn_sub P p k (fun i hi => h i (by omega))
    have h1 := h k (by omega)
    show pcn P c p k + (if c.testBit k = true ∧ P k = p then 1 else 0) ≤ pcn P a p k + (if a.testBit k = true ∧ P k = p then 1 else 0) + (pcn P b p k + (if b.testBit k = true ∧ P k = p then 1 else 0))
    by_cases e : P k = p
    · cases hc : c.testBit k
      · simp only [Bool.false_eq_true, false_and, if_false]
        omega
      · rcases h1 hc with z | z
        · simp only [z, e, and_self, if_true]
          omega
        · simp only [z, e, and_self, if_true]
          omega
    · simp only [e, and_false, if_false]
      omega
theorem pcn_0 (P : Nat → Nat) (p : Nat) : ∀ k, pcn P 0 p k = 0
  | 0 => rfl
  | k + 1 => by
    show pcn P 0 p k + (if (0 : Nat).testBit k = true ∧ P k = p then 1 else 0) = 0
    rw [pcn_0 P p k, Nat.zero_testBit, if_neg (fun z => absurd z.1 (by decide))]
theorem pcn_one (P : Nat → Nat) (p i : Nat) : ∀ k, pcn P (2 ^ i) p k ≤ (if i < k then 1 else 0)
  | 0 => Nat.zero_le _
  | k + 1 => by
    have ih := pcn_one P p i k
    show pcn P (2 ^ i) p k + (if (2 ^ i).testBit k = true ∧ P k = p then 1 else 0) ≤ _
    by_cases h : i = k
    · subst h
      rw [if_neg (Nat.lt_irrefl i)] at ih
      rw [if_pos (Nat.lt_succ_self i)]
      split <;> omega
    · rw [if_neg (c := Nat.testBit (2 ^ i) k = true ∧ P k = p) (fun z => h ((mPow_t i k).mp z.1))]
      by_cases q : i < k
      · rw [if_pos q] at ih
        rw [if_pos (by omega)]
        exact ih
      · rw [if_neg q] at ih
        omega
