theorem mPW_dis {q : mPI} {A : Nat → Nat} : ∀ (L d w : Nat), mPW q A L d w → ∀ j, w ≤ j → j < w + L → (∀ b, (A j).testBit b = true → d.testBit b = false) ∧ ∀ j', w ≤ j' → j' < j → ∀ b, (A j').testBit b = true → ¬ (A j).testBit b = true
  | 0, _, _, _, j, h1, h2 => by omega
  | L + 1, d, w, h, j, h1, h2 => by
    by_cases e : j = w
    · subst e
      exact ⟨h.1.1.2.2.1, fun j' a1 a2 => by omega⟩
    · obtain ⟨i1, i2⟩ := mPW_dis L (d ||| A w) (w + 1) h.2 j (by omega) (by omega)
      refine ⟨fun b hb => ((mOr_f _ _ _).mp (i1 b hb)).1, fun j' a1 a2 b hb hb2 => ?_⟩
      by_cases c : j' = w
      · subst c
        have := ((mOr_f _ _ _).mp (i1 b hb2)).2
        rw [hb] at this
        exact absurd this (by decide)
      · exact i2 j' (by omega) a2 b hb hb2
theorem mPW_room {q : mPI} {A : Nat → Nat} : ∀ (L d w : Nat), mPW q A L d w → ∀ j, w ≤ j → j < w + L → mLW q ((fun _ => d) j) (A j) ∨ ∃ d', mLW q d' (A j)
  | 0, _, _, _, j, h1, h2 => by omega
  | L + 1, d, w, h, j, h1, h2 => by
    by_cases e : j = w
    · subst e
      exact Or.inl h.1.1
    · rcases mPW_room L _ _ h.2 j (by omega) (by omega) with z | z
      · exact Or.inr ⟨_, z⟩
      · exact Or.inr z
theorem pcn_far (P : Nat → Nat) (s p : Nat) {n : Nat} (hs : s < 2 ^ n) : ∀ k, pcn P s p (n + k) = pcn P s p n
  | 0 => rfl
  | k + 1 => by
    show pcn P s p (n + k) + (if s.testBit (n + k) = true ∧ P (n + k) = p then 1 else 0) = _
    rw [pcn_far P s p hs k, if_neg (fun z => by
      have := mBit_lt hs z.1
      omega)]
    rfl
theorem PK_len {K R W L5 L3 : Nat → Int32} {aO : Nat → Nat} {bs i : Nat} (h : PK1 K R W L5 L3 aO bs i) : mPW (iQ K R W (lenN L5 i) i bs) (fun w => aO (i * 10 + w)) (lenN L3 i) 0 0 ∧ lenN L3 i ≤ 10 := by
  obtain ⟨L, e1, e2, e3, e4⟩ := h
  have e : lenN L3 i = L := by
    unfold lenN
    rw [e1]
    exact nI_clamp (by omega)
  rw [e]
  exact ⟨e4, e2⟩
theorem PK_lt {K R W L5 L3 : Nat → Int32} {aO : Nat → Nat} {bs : Nat} (hL : IL L5) (h : ∀ i, i < 12 → PK1 K R W L5 L3 aO bs i) : ∀ i w, i < 12 → w < lenN L3 i → aO (i * 10 + w) < 1024 := by
  intro i w hi hw
  have z := mPW_lt _ _ _ (PK_len (h i hi)).1 w (Nat.zero_le _) (by omega)
  have z2 := mm_two (IL_n hL hi).2
  have z3 : aO (i * 10 + w) < 2 ^ lenN L5 i := z
  omega
theorem PK_bus {K R W L5 L3 : Nat → Int32} {aO : Nat → Nat} {bs : Nat} (hL : IL L5) (hb : bs ≤ 3) (h : ∀ i, i < 12 → PK1 K R W L5 L3 aO bs i) {i w : Nat} (hi : i < 12) (hw : w < lenN L3 i) : pcn (iP K i) (aO (i * 10 + w)) 0 10 ≤ 3 := by
  have hn := (IL_n hL hi).2
  have z : ∃ d', mLW (iQ K R W (lenN L5 i) i bs) d' (aO (i * 10 + w)) := by
    rcases mPW_room _ _ _ (PK_len (h i hi)).1 w (Nat.zero_le _) (by omega) with z | z
    · exact ⟨_, z⟩
    · exact z
  obtain ⟨d', z⟩ := z
  have z1 : pcn (iP K i) (aO (i * 10 + w)) 0 (lenN L5 i) ≤ bs := z.2.2.2.1 0 (by decide)
  have z2 := pcn_far (iP K i) (aO (i * 10 + w)) 0 (n := lenN L5 i) z.2.1 (10 - lenN L5 i)
  rw [show lenN L5 i + (10 - lenN L5 i) = 10 by omega] at z2
  omega
theorem PK_dj {K R W L5 L3 : Nat → Int32} {aO ow sA pW : Nat → Nat} {bs len : Nat} (h : ∀ i, i < 12 → PK1 K R W L5 L3 aO bs i) (hp : PLI ow sA pW len aO L3 12 0) : ∀ p p', p < p' → p' < len → ow p = ow p' → ∀ b, (sA p).testBit b = true → ¬ (sA p').testBit b = true := by
  intro p p' hpp hp' e b hb hb'
  obtain ⟨a1, a2, a3, a4⟩ := hp.1 p (by omega)
  obtain ⟨c1, c2, c3, c4⟩ := hp.1 p' hp'
  have hne : pW p ≠ pW p' := fun z => by
    have := hp.2 p p' (by omega) hp' e z
    omega
  have z := (PK_len (h _ a1)).1
  rw [a3] at hb
  rw [c3, ← e] at hb'
  rw [← e] at c2
  rcases Nat.lt_or_gt_of_ne hne with q | q
  · exact (mPW_dis _ _ _ z (pW p') (Nat.zero_le _) (by omega)).2 (pW p) (Nat.zero_le _) q b hb hb'
  · exact (mPW_dis _ _ _ z (pW p) (Nat.zero_le _) (by omega)).2 (pW p') (Nat.zero_le _) q b hb' hb
theorem PKa_all {K R W L5 M L3 : Nat → Int32} {aO : Nat → Nat} {bs : Nat} (h : PKa K R W L5 M L3 aO bs) (hm : ∀ j, j < 12 → ¬ M j = 0) : ∀ i, i < 12 → PK1 K R W L5 L3 aO bs i := fun i hi => h i hi (hm i hi)
theorem mk_all {f g : Nat → Int32} {i : Nat} (h : ∀ j, j < i → ¬ f j = 0) (e : g = (if f i = 0 then upd f i 1 else f)) : ∀ j, j < i + 1 → ¬ g j = 0 := by
  intro j hj
  rw [e]
  split
  · by_cases c : j = i
    · rw [c, pk_us]
      decide
    · rw [pk_un c]
      exact h j (by omega)
  · by_cases c : j = i
    · rw [c]
      assumption
    · exact h j (by omega)