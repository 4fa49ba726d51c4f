-- a packing: how many acts, what one needs of another, their parts, buses
abbrev mPI := Nat × (Nat → Nat → Nat) × (Nat → Nat) × Nat
def pRoom (bs p : Nat) : Nat := if p = 0 then bs else 1
/-- s may be the next word behind d -/
def mLW (q : mPI) (d s : Nat) : Prop := s ≠ 0 ∧ s < 2 ^ q.1 ∧ (∀ i, s.testBit i = true → d.testBit i = false) ∧ (∀ p, p < 5 → pcn q.2.2.1 s p q.1 ≤ pRoom q.2.2.2 p) ∧ ∀ b, s.testBit b = true → ∀ a, a < b → (q.2.1 a b = 2 → d.testBit a = true) ∧ (q.2.1 a b = 1 → d.testBit a = true ∨ s.testBit a = true)
/-- what is not in d fits into k words -/
def mCF (q : mPI) : Nat → Nat → Prop
  | 0, d => d = 2 ^ q.1 - 1
  | k + 1, d => d = 2 ^ q.1 - 1 ∨ ∃ s, mLW q d s ∧ mCF q k (d ||| s)
theorem mCF_mono (q : mPI) : ∀ k d, mCF q k d → mCF q (k + 1) d
  | 0, _, h => Or.inl h
  | k + 1, d, h => by
    rcases h with h | ⟨s, h1, h2⟩
    · exact Or.inl h
    · exact Or.inr ⟨s, h1, mCF_mono q k _ h2⟩
theorem mCF_le (q : mPI) {d : Nat} {k k' : Nat} (h : k ≤ k') (hc : mCF q k d) : mCF q k' d := by
  induction k' with
  | zero =>
    have e : k = 0 := by omega
    subst e
    exact hc
  | succ j ih =>
    by_cases e : k = j + 1
    · subst e
      exact hc
    · exact mCF_mono q j d (ih (by omega))
/-- what is in d has all that it needs in d -/
def mCl (q : mPI) (d : Nat) : Prop := ∀ b, d.testBit b = true → ∀ a, a < b → (q.2.1 a b = 2 ∨ q.2.1 a b = 1) → d.testBit a = true
theorem mCl_0 (q : mPI) : mCl q 0 := fun b h => absurd h (by rw [Nat.zero_testBit]; decide)
theorem mCl_or {q : mPI} {d s : Nat} (hd : mCl q d) (h : mLW q d s) : mCl q (d ||| s) := by
  intro b hb a hab hn
  rw [mOr_t] at hb ⊢
  rcases hb with hb | hb
  · exact Or.inl (hd b hb a hab hn)
  · rcases hn with hn | hn
    · exact Or.inl ((h.2.2.2.2 b hb a hab).1 hn)
    · exact (h.2.2.2.2 b hb a hab).2 hn
/-- words that must come behind the word of i: each is 0, or has its reason -/
def mWB (q : mPI) (w : Nat → Nat) : Prop := ∀ i, i < q.1 → w i = 0 ∨ ∃ b, i < b ∧ b < q.1 ∧ ((q.2.1 i b = 2 ∧ w i = w b + 1) ∨ (q.2.1 i b = 1 ∧ w i = w b))
theorem mCF_wb {q : mPI} {w : Nat → Nat} (hW : mWB q w) : ∀ (k d : Nat), mCl q d → mCF q k d → ∀ (m i : Nat), q.1 - i ≤ m → i < q.1 → d.testBit i = false → w i < k := by
  intro k
  induction k with
  | zero =>
    intro d _ hc m i _ hi hd
    have hc : d = 2 ^ q.1 - 1 := hc
    rw [hc, (mFull_t q.1 i).mpr hi] at hd
    exact absurd hd (by decide)
  | succ k ih =>
    intro d hcl hc
    rcases hc with hc | ⟨s, h1, h2⟩
    · intro m i _ hi hd
      rw [hc, (mFull_t q.1 i).mpr hi] at hd
      exact absurd hd (by decide)
    · intro m
      induction m with
      | zero => intro i hm hi _; omega
      | succ m ihm =>
        intro i hm hi hd
        rcases hW i hi with h0 | ⟨b, hib, hb, h⟩
        · omega
        · have hdb : d.testBit b = false := by
            apply mBF.mp
            intro z
            have := hcl b z i hib (by rcases h with h | h; exact Or.inl h.1; exact Or.inr h.1)
            rw [hd] at this
            exact absurd this (by decide)
          rcases h with ⟨hn, hw⟩ | ⟨hn, hw⟩
          · have hsb : s.testBit b = false := by
              apply mBF.mp
              intro z
              have := (h1.2.2.2.2 b z i hib).1 hn
              rw [hd] at this
              exact absurd this (by decide)
            have := ih (d ||| s) (mCl_or hcl h1) h2 (q.1 - b) b (Nat.le_refl _) hb ((mOr_f _ _ _).mpr ⟨hdb, hsb⟩)
            omega
          · have := ihm b (by omega) hb hdb
            omega
theorem mCF_urgent {q : mPI} {w : Nat → Nat} (hW : mWB q w) {k d s i : Nat} (hcl : mCl q d) (h1 : mLW q d s) (h2 : mCF q k (d ||| s)) (hi : i < q.1) (hd : d.testBit i = false) (hw : w i = k) : s.testBit i = true := by
  apply Decidable.byContradiction
  intro z
  have := mCF_wb hW k (d ||| s) (mCl_or hcl h1) h2 _ i (Nat.le_refl _) hi ((mOr_f _ _ _).mpr ⟨hd, mBF.mp z⟩)
  omega
theorem mCF_room (q : mPI) {p : Nat} (hp : p < 5) : ∀ (k d : Nat), mCF q k d → pcn q.2.2.1 (mDif (2 ^ q.1 - 1) d) p q.1 ≤ pRoom q.2.2.2 p * k := by
  intro k
  induction k with
  | zero =>
    intro d hc
    have hc : d = 2 ^ q.1 - 1 := hc
    rw [hc, (mDif_0 (a := 2 ^ q.1 - 1) (b := 2 ^ q.1 - 1)).mpr (fun _ h => h), pcn_0]
    exact Nat.zero_le _
  | succ k ih =>
    intro d hc
    rcases hc with hc | ⟨s, h1, h2⟩
    · rw [hc, (mDif_0 (a := 2 ^ q.1 - 1) (b := 2 ^ q.1 - 1)).mpr (fun _ h => h), pcn_0]
      exact Nat.zero_le _
    · have e1 := ih _ h2
      have e2 := h1.2.2.2.1 p hp
      have e3 := pcn_sub q.2.2.1 p (a := s) (b := mDif (2 ^ q.1 - 1) (d ||| s)) (c := mDif (2 ^ q.1 - 1) d) q.1 (fun i hi z => by
        have z2 := (mDif_t _ _ _).mp z
        by_cases c : s.testBit i = true
        · exact Or.inl c
        · exact Or.inr ((mDif_t _ _ _).mpr ⟨z2.1, (mOr_f _ _ _).mpr ⟨z2.2, mBF.mp c⟩⟩))
      rw [Nat.mul_succ]
      omega
theorem mLW_one {q : mPI} {d i : Nat} (hb : 1 ≤ q.2.2.2) (hi : i < q.1) (hd : d.testBit i = false) (hlow : ∀ j, j < i → d.testBit j = true) : mLW q d (2 ^ i) := by
  refine ⟨?_, ?_, ?_, ?_, ?_⟩
  · have := mm_pos i
    omega
  · exact Nat.pow_lt_pow_right (by decide) hi
  · intro j hj
    rw [← (mPow_t i j).mp hj]
    exact hd
  · intro p hp
    have h1 := pcn_one q.2.2.1 p i q.1
    rw [if_pos hi] at h1
    unfold pRoom
    split <;> omega
  · intro b hb a hab
    have e := (mPow_t i b).mp hb
    subst e
    exact ⟨fun _ => hlow a hab, fun _ => Or.inl (hlow a hab)⟩
theorem mCF_low (q : mPI) (hb : 1 ≤ q.2.2.2) : ∀ (m i d : Nat), i + m = q.1 → d < 2 ^ q.1 → (∀ j, j < i → d.testBit j = true) → mCF q m d := by
  intro m
  induction m with
  | zero =>
    intro i d hi hd hlow
    exact (mFull_eq hd).mpr (fun j hj => hlow j (by omega))
  | succ m ih =>
    intro i d hi hd hlow
    by_cases c : d.testBit i = true
    · refine mCF_mono q m d (ih (i + 1) d (by omega) hd (fun j hj => ?_))
      by_cases e : j = i
      · rw [e]
        exact c
      · exact hlow j (by omega)
    · refine Or.inr ⟨2 ^ i, mLW_one hb (by omega) (mBF.mp c) hlow, ih (i + 1) _ (by omega) (mm_or_lt hd (Nat.pow_lt_pow_right (by decide) (by omega))) (fun j hj => ?_)⟩
      rw [mOr_t]
      by_cases e : j = i
      · exact Or.inr ((mPow_t i j).mpr e.symm)
      · exact Or.inl (hlow j (by omega))
theorem mCF_all (q : mPI) (hb : 1 ≤ q.2.2.2) {d : Nat} (hd : d < 2 ^ q.1) : mCF q q.1 d := mCF_low q hb q.1 0 d (by omega) hd (fun j h => absurd h (Nat.not_lt_zero j))
