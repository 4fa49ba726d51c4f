/-- the word that the document wants behind d, with k words left behind it -/
def mLS (q : mPI) (k d s : Nat) : Prop := mLW q d s ∧ mCF q k (d ||| s) ∧ ∀ t, t < s → ¬ (mLW q d t ∧ mCF q k (d ||| t))
/-- A has, from place w on, the words of what is not in d: at most k -/
def mPC (q : mPI) (A : Nat → Nat) : Nat → Nat → Nat → Prop
  | 0, d, _ => d = 2 ^ q.1 - 1
  | k + 1, d, w => d = 2 ^ q.1 - 1 ∨ (mLS q k d (A w) ∧ mPC q A k (d ||| A w) (w + 1))
/-- just k words -/
def mPW (q : mPI) (A : Nat → Nat) : Nat → Nat → Nat → Prop
  | 0, d, _ => d = 2 ^ q.1 - 1
  | k + 1, d, w => mLS q k d (A w) ∧ mPW q A k (d ||| A w) (w + 1)
theorem mPC_congr (q : mPI) {A B : Nat → Nat} : ∀ k d w, (∀ j, w ≤ j → A j = B j) → mPC q A k d w → mPC q B k d w
  | 0, _, _, _, h => h
  | k + 1, d, w, e, h => by
    rcases h with h | ⟨h1, h2⟩
    · exact Or.inl h
    · rw [e w (Nat.le_refl w)] at h1 h2
      exact Or.inr ⟨h1, mPC_congr q k _ _ (fun j hj => e j (by omega)) h2⟩
theorem mPW_congr (q : mPI) {A B : Nat → Nat} : ∀ k d w, (∀ j, w ≤ j → j < w + k → A j = B j) → mPW q A k d w → mPW q B k d w
  | 0, _, _, _, h => h
  | k + 1, d, w, e, h => by
    obtain ⟨h1, h2⟩ := h
    rw [e w (Nat.le_refl w) (by omega)] at h1 h2
    exact ⟨h1, mPW_congr q k _ _ (fun j hj hj2 => e j (by omega) (by omega)) h2⟩
theorem mPC_PW (q : mPI) {A : Nat → Nat} : ∀ k d w, (∀ j, j < k → ¬ mCF q j d) → mPC q A k d w → mPW q A k d w
  | 0, _, _, _, h => h
  | k + 1, d, w, hm, h => by
    rcases h with h | ⟨h1, h2⟩
    · exact absurd h (hm 0 (by omega))
    · exact ⟨h1, mPC_PW q k _ _ (fun j hj hc => hm (j + 1) (by omega) (Or.inr ⟨A w, h1.1, hc⟩)) h2⟩
theorem mLS_unique {q : mPI} {k d s t : Nat} (h1 : mLS q k d s) (h2 : mLS q k d t) : s = t := by
  rcases Nat.lt_trichotomy s t with h | h | h
  · exact absurd ⟨h1.1, h1.2.1⟩ (h2.2.2 s h)
  · exact h
  · exact absurd ⟨h2.1, h2.2.1⟩ (h1.2.2 t h)
theorem mPW_unique (q : mPI) {A B : Nat → Nat} : ∀ k d w, mPW q A k d w → mPW q B k d w → ∀ j, w ≤ j → j < w + k → A j = B j
  | 0, _, _, _, _, j, h1, h2 => by omega
  | k + 1, d, w, hA, hB, j, h1, h2 => by
    have e : A w = B w := mLS_unique hA.1 hB.1
    by_cases c : j = w
    · rw [c]
      exact e
    · refine mPW_unique q k (d ||| A w) (w + 1) hA.2 ?_ j (by omega) (by omega)
      rw [e]
      exact hB.2
/-- how few words: just L -/
def mMW (q : mPI) (d L : Nat) : Prop := mCF q L d ∧ ∀ j, j < L → ¬ mCF q j d
theorem mMW_unique {q : mPI} {d L M : Nat} (h1 : mMW q d L) (h2 : mMW q d M) : L = M := by
  rcases Nat.lt_trichotomy L M with h | h | h
  · exact absurd h1.1 (h2.2 L h)
  · exact h
  · exact absurd h2.1 (h1.2 M h)
