def sumN (f : Nat → Nat) : Nat → Nat
  | 0 => 0
  | k + 1 => sumN f k + f k
theorem sumN_add {f : Nat → Nat} {k v : Nat} : ∀ n, sumN (mUpd f k (f k + v)) n = sumN f n + (if k < n then v else 0)
  | 0 => rfl
  | n + 1 => by
    have ih := sumN_add (f := f) (k := k) (v := v) n
    show sumN (mUpd f k (f k + v)) n + mUpd f k (f k + v) n = sumN f n + f n + _
    by_cases c : n = k
    · subst c
      rw [mUpd_s, ih, if_neg (Nat.lt_irrefl n), if_pos (Nat.lt_succ_self n)]
      omega
    · rw [mUpd_n c, ih]
      by_cases d : k < n
      · rw [if_pos d, if_pos (by omega)]
        omega
      · rw [if_neg d, if_neg (by omega)]
        omega
theorem sumN_le {f : Nat → Nat} {k : Nat} : ∀ n, k < n → f k ≤ sumN f n
  | 0, h => absurd h (Nat.not_lt_zero k)
  | n + 1, h => by
    show f k ≤ sumN f n + f n
    by_cases c : k = n
    · subst c
      omega
    · have := sumN_le (f := f) (k := k) n (by omega)
      omega
theorem sumN_mono {f : Nat → Nat} {i : Nat} : ∀ n, i ≤ n → sumN f i ≤ sumN f n
  | 0, h => by
    rw [show i = 0 by omega]
    exact Nat.le_refl _
  | n + 1, h => by
    by_cases c : i = n + 1
    · rw [c]
      exact Nat.le_refl _
    · have := sumN_mono (f := f) (i := i) n (by omega)
      show _ ≤ sumN f n + f n
      omega
/-- the slots seen: all different, each of those that were visited -/
def SN (Z : Nat → Prop) (sS : Nat → Nat) (sn : Nat) : Prop := (∀ j, j < sn → sS j < 120 ∧ Z (sS j)) ∧ ∀ j j', j < sn → j' < sn → sS j = sS j' → j = j'
theorem SN_lt {Z : Nat → Prop} {sS : Nat → Nat} {sn sl : Nat} (h : SN Z sS sn) (hsl : sl < 120) (hz : ¬ Z sl) : sn < 120 := by
  have z := kph 120 (sn + 1) (mUpd sS sn sl) (fun i hi => by
    by_cases c : i = sn
    · rw [c, mUpd_s]
      exact hsl
    · rw [mUpd_n c]
      exact (h.1 i (by omega)).1) (fun i j hi hj e => by
    by_cases c : i = sn
    · by_cases d : j = sn
      · omega
      · rw [c, mUpd_s, mUpd_n d] at e
        have := (h.1 j (by omega)).2
        rw [← e] at this
        exact absurd this hz
    · by_cases d : j = sn
      · rw [d, mUpd_s, mUpd_n c] at e
        have := (h.1 i (by omega)).2
        rw [e] at this
        exact absurd this hz
      · rw [mUpd_n c, mUpd_n d] at e
        exact h.2 i j (by omega) (by omega) e)
  omega
theorem SN_le {Z : Nat → Prop} {sS : Nat → Nat} {sn : Nat} (h : SN Z sS sn) : sn ≤ 120 := kph 120 sn sS (fun i hi => (h.1 i hi).1) h.2
theorem SN_mono {Z Z' : Nat → Prop} {sS : Nat → Nat} {sn : Nat} (h : SN Z sS sn) (hz : ∀ s, Z s → Z' s) : SN Z' sS sn := ⟨fun j hj => ⟨(h.1 j hj).1, hz _ (h.1 j hj).2⟩, h.2⟩
def ADD (sn sn' : Nat) (sS sS' dF dF' : Nat → Nat) (sl fd : Nat) : Prop := (sn' = sn ∧ sS' = sS ∧ dF' = dF) ∨ (sn' = sn + 1 ∧ sS' = mUpd sS sn sl ∧ dF' = mUpd dF fd (dF fd + 1))
theorem SN_add {Z Z' : Nat → Prop} {sS sS' dF dF' : Nat → Nat} {sn sn' sl fd : Nat} (h : SN Z sS sn) (hsl : sl < 120) (hz : ¬ Z sl) (hZ : ∀ s, Z s → Z' s) (hZ2 : Z' sl) (ha : ADD sn sn' sS sS' dF dF' sl fd) : SN Z' sS' sn' := by
  rcases ha with ⟨e1, e2, _⟩ | ⟨e1, e2, _⟩
  · subst e1 e2
    exact SN_mono h hZ
  · subst e1 e2
    refine ⟨fun j hj => ?_, fun i j hi hj e => ?_⟩
    · by_cases c : j = sn
      · rw [c, mUpd_s]
        exact ⟨hsl, hZ2⟩
      · rw [mUpd_n c]
        exact ⟨(h.1 j (by omega)).1, hZ _ (h.1 j (by omega)).2⟩
    · by_cases c : i = sn
      · by_cases d : j = sn
        · omega
        · rw [c, mUpd_s, mUpd_n d] at e
          have := (h.1 j (by omega)).2
          rw [← e] at this
          exact absurd this hz
      · by_cases d : j = sn
        · rw [d, mUpd_s, mUpd_n c] at e
          have := (h.1 i (by omega)).2
          rw [e] at this
          exact absurd this hz
        · rw [mUpd_n c, mUpd_n d] at e
          exact h.2 i j (by omega) (by omega) e
theorem ADD_sum {sS sS' dF dF' : Nat → Nat} {sn sn' sl fd : Nat} (h : sumN dF 7 = sn) (hf : fd < 7) (ha : ADD sn sn' sS sS' dF dF' sl fd) : sumN dF' 7 = sn' := by
  rcases ha with ⟨e1, _, e3⟩ | ⟨e1, _, e3⟩
  · subst e1 e3
    exact h
  · subst e1 e3
    rw [sumN_add, if_pos hf, h]
/-- the slots of a word's acts below k, beside those that were visited -/
def ZV (Z : Nat → Prop) (i ac k : Nat) : Nat → Prop := fun s => Z s ∨ ∃ b, b < k ∧ ac.testBit b = true ∧ s = i * 10 + b
theorem ZV_no {Z : Nat → Prop} {i ac k : Nat} (hz : ∀ b, b < 10 → ac.testBit b = true → ¬ Z (i * 10 + b)) (hk : k < 10) (hb : ac.testBit k = true) : ¬ ZV Z i ac k (i * 10 + k) := by
  rintro (h | ⟨b, h1, h2, h3⟩)
  · exact hz k hk hb h
  · omega
theorem ZV_up {Z : Nat → Prop} {i ac k : Nat} : ∀ s, ZV Z i ac k s → ZV Z i ac (k + 1) s := by
  rintro s (h | ⟨b, h1, h2, h3⟩)
  · exact Or.inl h
  · exact Or.inr ⟨b, by omega, h2, h3⟩
theorem ZV_in {Z : Nat → Prop} {i ac k : Nat} (hb : ac.testBit k = true) : ZV Z i ac (k + 1) (i * 10 + k) := Or.inr ⟨k, by omega, hb, rfl⟩
theorem pcn_up (P : Nat → Nat) (s p : Nat) {i : Nat} : ∀ n, i ≤ n → pcn P s p i ≤ pcn P s p n
  | 0, h => by
    rw [show i = 0 by omega]
    exact Nat.le_refl _
  | n + 1, h => by
    by_cases c : i = n + 1
    · rw [c]
      exact Nat.le_refl _
    · have := pcn_up P s p (i := i) n (by omega)
      show _ ≤ pcn P s p n + _
      omega
theorem pcn_in {P : Nat → Nat} {s p k : Nat} (h1 : s.testBit k = true) (h2 : P k = p) : pcn P s p (k + 1) = pcn P s p k + 1 := by
  show pcn P s p k + _ = _
  rw [if_pos ⟨h1, h2⟩]
theorem pcn_no {P : Nat → Nat} {s p k : Nat} (h : ¬ (s.testBit k = true ∧ P k = p)) : pcn P s p (k + 1) = pcn P s p k := by
  show pcn P s p k + _ = _
  rw [if_neg h]
  rfl
theorem ZP_no {ow sA : Nat → Nat} {i len : Nat} (hdj : ∀ p p', p < p' → p' < len → ow p = ow p' → ∀ b, (sA p).testBit b = true → ¬ (sA p').testBit b = true) (hi : i < len) : ∀ b, b < 10 → (sA i).testBit b = true → ¬ (fun s => ∃ p, p < i ∧ ∃ b, b < 10 ∧ (sA p).testBit b = true ∧ s = ow p * 10 + b) (ow i * 10 + b) := by
  intro b hb hbit
  rintro ⟨p, hp, b', hb', hbit', e⟩
  have e1 : b = b' := by omega
  subst e1
  exact hdj p i hp hi (by omega) b hbit' hbit
theorem ZP_up {ow sA : Nat → Nat} {i : Nat} : ∀ s, ZV (fun s => ∃ p, p < i ∧ ∃ b, b < 10 ∧ (sA p).testBit b = true ∧ s = ow p * 10 + b) (ow i) (sA i) 10 s → (fun s => ∃ p, p < i + 1 ∧ ∃ b, b < 10 ∧ (sA p).testBit b = true ∧ s = ow p * 10 + b) s := by
  rintro s (⟨p, hp, h⟩ | ⟨b, h1, h2, h3⟩)
  · exact ⟨p, by omega, h⟩
  · exact ⟨i, by omega, b, h1, h2, h3⟩