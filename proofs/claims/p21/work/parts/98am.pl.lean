-- THE STORE: words that are like, places
def aEq (K D X Y : Nat → Int32) (a b : Nat) : Prop := (K a).toInt = (K b).toInt ∧ (D a).toInt = (D b).toInt ∧ (X a).toInt = (X b).toInt ∧ (Y a).toInt = (Y b).toInt
/-- two words are like: as many acts, and acts of the same rank are the same -/
def LKw (K D X Y : Nat → Int32) (b1 m1 b2 m2 : Nat) : Prop := mCnt m1 10 = mCnt m2 10 ∧ ∀ b c, b < 10 → c < 10 → m1.testBit b = true → m2.testBit c = true → mCnt m1 b = mCnt m2 c → aEq K D X Y (b1 + b) (b2 + c)
theorem mCnt_mono {m i : Nat} : ∀ n, i ≤ n → mCnt m i ≤ mCnt m n
  | 0, h => by
    rw [show i = 0 by omega]
    exact Nat.le_refl _
  | n + 1, h => by
    by_cases c : i = n + 1
    · rw [c]
      exact Nat.le_refl _
    · have := mCnt_mono (m := m) (i := i) n (by omega)
      show _ ≤ mCnt m n + _
      omega
theorem mCnt_gap {m i : Nat} : ∀ n, i ≤ n → (∀ k, i ≤ k → k < n → ¬ m.testBit k = true) → mCnt m n = mCnt m i
  | 0, h, _ => by rw [show i = 0 by omega]
  | n + 1, h, hg => by
    by_cases c : i = n + 1
    · rw [c]
    · rw [mCnt_no (hg n (by omega) (by omega))]
      exact mCnt_gap n (by omega) (fun k h1 h2 => hg k h1 (by omega))
theorem mCnt_lt {m b c : Nat} (hb : m.testBit b = true) (h : b < c) : mCnt m b < mCnt m c := by
  have z := mCnt_mono (m := m) (i := b + 1) c (by omega)
  rw [mCnt_in hb] at z
  omega
theorem mCnt_inj {m b c : Nat} (hb : m.testBit b = true) (hc : m.testBit c = true) (h : mCnt m b = mCnt m c) : b = c := by
  by_cases l : b < c
  · have := mCnt_lt hb l
    omega
  · by_cases l2 : c < b
    · have := mCnt_lt hc l2
      omega
    · omega
/-- the first i acts of m1 are like those of m2 -/
def LKp (K D X Y : Nat → Int32) (b1 m1 b2 m2 i : Nat) : Prop := ∀ b c, b < i → c < 10 → m1.testBit b = true → m2.testBit c = true → mCnt m1 b = mCnt m2 c → aEq K D X Y (b1 + b) (b2 + c)
theorem LKp_0 {K D X Y : Nat → Int32} {b1 m1 b2 m2 : Nat} : LKp K D X Y b1 m1 b2 m2 0 := fun b _ h => absurd h (Nat.not_lt_zero b)
theorem LKp_no {K D X Y : Nat → Int32} {b1 m1 b2 m2 i : Nat} (h : LKp K D X Y b1 m1 b2 m2 i) (hn : ¬ m1.testBit i = true) : LKp K D X Y b1 m1 b2 m2 (i + 1) := by
  intro b c hb hc h1 h2 h3
  by_cases e : b = i
  · rw [e] at h1
    exact absurd h1 hn
  · exact h b c (by omega) hc h1 h2 h3
theorem LKp_in {K D X Y : Nat → Int32} {b1 m1 b2 m2 i g : Nat} (h : LKp K D X Y b1 m1 b2 m2 i) (hg : m2.testBit g = true) (hr : mCnt m2 g = mCnt m1 i) (he : aEq K D X Y (b1 + i) (b2 + g)) : LKp K D X Y b1 m1 b2 m2 (i + 1) := by
  intro b c hb hc h1 h2 h3
  by_cases e : b = i
  · subst e
    have : c = g := mCnt_inj h2 hg (by omega)
    subst this
    exact he
  · exact h b c (by omega) hc h1 h2 h3
/-- where the next act of m2 is, if there must be one -/
theorem LK_next {m1 m2 i j g : Nat} (hi : i < 10) (hj : j ≤ 10) (hc : mCnt m2 10 = mCnt m1 10) (hr : mCnt m2 j = mCnt m1 i) (hb : m1.testBit i = true) (h : (j ≤ g ∧ m2.testBit g = true ∧ ∀ k, j ≤ k → k < g → ¬ m2.testBit k = true) ∨ (∀ k, j ≤ k → k < 10 → ¬ m2.testBit k = true)) : (j ≤ g ∧ m2.testBit g = true) ∧ mCnt m2 g = mCnt m1 i ∧ mCnt m2 (g + 1) = mCnt m1 (i + 1) := by
  rcases h with ⟨h1, h2, h3⟩ | h
  · have e := mCnt_gap g h1 h3
    exact ⟨⟨h1, h2⟩, by omega, by rw [mCnt_in h2, mCnt_in hb]; omega⟩
  · have e := mCnt_gap 10 hj h
    have z := mCnt_mono (m := m1) (i := i + 1) 10 (by omega)
    rw [mCnt_in hb] at z
    omega
/-- the first p below n with M p, or n -/
noncomputable def fpP (M : Nat → Prop) : Nat → Nat
  | 0 => 0
  | n + 1 => if fpP M n < n then fpP M n else @ite Nat (M n) (Classical.propDecidable _) n (n + 1)
theorem fp_no {M : Nat → Prop} : ∀ n, (∀ p, p < n → ¬ M p) → fpP M n = n
  | 0, _ => rfl
  | n + 1, h => by
    have ih := fp_no n (fun p hp => h p (by omega))
    unfold fpP
    rw [ih, if_neg (Nat.lt_irrefl n), if_neg (h n (by omega))]
theorem fp_is {M : Nat → Prop} {g : Nat} (hg : M g) (hl : ∀ p, p < g → ¬ M p) : ∀ n, g < n → fpP M n = g
  | 0, h => absurd h (Nat.not_lt_zero g)
  | n + 1, h => by
    by_cases e : g = n
    · have z := fp_no (M := M) n (fun p hp => hl p (by omega))
      unfold fpP
      rw [z, if_neg (Nat.lt_irrefl n), e]
      rw [e] at hg
      exact if_pos hg
    · have ih := fp_is hg hl n (by omega)
      unfold fpP
      rw [ih, if_pos (by omega)]
theorem fp_c {M M' : Nat → Prop} : ∀ n, (∀ p, p < n → (M p ↔ M' p)) → fpP M n = fpP M' n
  | 0, _ => rfl
  | n + 1, h => by
    have ih := fp_c n (fun p hp => h p (by omega))
    have e : M n = M' n := propext (h n (by omega))
    unfold fpP
    rw [ih, e]
theorem fp_le {M : Nat → Prop} : ∀ n, fpP M n ≤ n
  | 0 => Nat.le_refl _
  | n + 1 => by
    have ih := fp_le (M := M) n
    unfold fpP
    by_cases c : fpP M n < n
    · rw [if_pos c]
      omega
    · rw [if_neg c]
      by_cases d : M n
      · rw [if_pos d]
        omega
      · rw [if_neg d]
        exact Nat.le_refl _
/-- places: how many, of which instruction, which word, what is next, users, the place of each word, the last place -/
abbrev PS := Nat × (Nat → Nat) × (Nat → Nat) × (Nat → Int32) × (Nat → Nat) × (Nat → Nat) × Int32
def mtP (K D X Y : Nat → Int32) (A : Nat → Nat → Nat) (S : PS) (i w p : Nat) : Prop := S.2.2.2.1 p = S.2.2.2.2.2.2 ∧ LKw K D X Y (i * 10) (A i w) (S.2.1 p * 10) (A (S.2.1 p) (S.2.2.1 p))
def spU (S : PS) (i w p : Nat) : PS := (S.1, S.2.1, S.2.2.1, S.2.2.2.1, mUpd S.2.2.2.2.1 p (S.2.2.2.2.1 p + 1), mUpd S.2.2.2.2.2.1 (i * 10 + w) p, nI p)
def spN (S : PS) (i w : Nat) : PS := (S.1 + 1, mUpd S.2.1 S.1 i, mUpd S.2.2.1 S.1 w, upd S.2.2.2.1 S.1 S.2.2.2.2.2.2, mUpd S.2.2.2.2.1 S.1 1, mUpd S.2.2.2.2.2.1 (i * 10 + w) S.1, nI S.1)
noncomputable def stepP (K D X Y : Nat → Int32) (A : Nat → Nat → Nat) (S : PS) (i w : Nat) : PS := if fpP (mtP K D X Y A S i w) S.1 < S.1 then spU S i w (fpP (mtP K D X Y A S i w) S.1) else spN S i w
theorem stepP_u {K D X Y : Nat → Int32} {A : Nat → Nat → Nat} {S : PS} {i w g : Nat} (hg : g < S.1) (h : mtP K D X Y A S i w g) (hl : ∀ p, p < g → ¬ mtP K D X Y A S i w p) : stepP K D X Y A S i w = spU S i w g := by
  have e := fp_is h hl S.1 hg
  unfold stepP
  rw [e, if_pos hg]
theorem stepP_n {K D X Y : Nat → Int32} {A : Nat → Nat → Nat} {S : PS} {i w : Nat} (hl : ∀ p, p < S.1 → ¬ mtP K D X Y A S i w p) : stepP K D X Y A S i w = spN S i w := by
  have e := fp_no S.1 hl
  unfold stepP
  rw [e, if_neg (Nat.lt_irrefl _)]
/-- the words w - 1 .. 0 of instruction i are laid -/
noncomputable def plW (K D X Y : Nat → Int32) (A : Nat → Nat → Nat) (i w : Nat) (S : PS) : PS :=
  match w with
  | 0 => S
  | w + 1 => plW K D X Y A i w (stepP K D X Y A S i w)
termination_by w
theorem plW_0 {K D X Y : Nat → Int32} {A : Nat → Nat → Nat} {i : Nat} {S : PS} : plW K D X Y A i 0 S = S := by rw [plW]
theorem plW_s {K D X Y : Nat → Int32} {A : Nat → Nat → Nat} {i w : Nat} {S : PS} : plW K D X Y A i (w + 1) S = plW K D X Y A i w (stepP K D X Y A S i w) := by rw [plW]
def rstP (S : PS) : PS := (S.1, S.2.1, S.2.2.1, S.2.2.2.1, S.2.2.2.2.1, S.2.2.2.2.2.1, -1)
/-- the instructions below i are laid -/
noncomputable def plI (K D X Y : Nat → Int32) (A : Nat → Nat → Nat) (L : Nat → Nat) (i : Nat) : PS :=
  match i with
  | 0 => (0, fun _ => 0, fun _ => 0, fun _ => 0, fun _ => 0, fun _ => 0, -1)
  | i + 1 => plW K D X Y A i (L i) (rstP (plI K D X Y A L i))
termination_by i
theorem plI_0 {K D X Y : Nat → Int32} {A : Nat → Nat → Nat} {L : Nat → Nat} : plI K D X Y A L 0 = (0, fun _ => 0, fun _ => 0, fun _ => 0, fun _ => 0, fun _ => 0, -1) := by rw [plI]
theorem plI_s {K D X Y : Nat → Int32} {A : Nat → Nat → Nat} {L : Nat → Nat} {i : Nat} : plI K D X Y A L (i + 1) = plW K D X Y A i (L i) (rstP (plI K D X Y A L i)) := by rw [plI]
/-- what a side's rows have of the places -/
def RLp (S : PS) (len : Nat) (ow pw : Nat → Nat) (n4 us : Nat → Int32) : Prop := len = S.1 ∧ ∀ p, p < S.1 → ow p = S.2.1 p ∧ pw p = S.2.2.1 p ∧ n4 p = S.2.2.2.1 p ∧ us p = nI (S.2.2.2.2.1 p)
/-- of the words that are laid: those of instructions below i, and of i those from w1 on -/
def RLo (S : PS) (L : Nat → Nat) (po : Nat → Int32) (i w1 : Nat) : Prop := ∀ j w, w < L j → w < 10 → (j < i ∨ (j = i ∧ w1 ≤ w)) → po (j * 10 + w) = nI (S.2.2.2.2.2.1 (j * 10 + w))
theorem RLp_0 {ow pw : Nat → Nat} {n4 us : Nat → Int32} {K D X Y : Nat → Int32} {A : Nat → Nat → Nat} {L : Nat → Nat} : RLp (plI K D X Y A L 0) 0 ow pw n4 us := by
  rw [plI_0]
  exact ⟨rfl, fun p h => absurd h (Nat.not_lt_zero p)⟩
theorem RLo_0 {S : PS} {L : Nat → Nat} {po : Nat → Int32} {w : Nat} (hL : ∀ j, L j ≤ 10) (hw : 10 ≤ w) : RLo S L po 0 w := fun j w' h1 h2 h3 => by omega
theorem RLp_u {S : PS} {len g i w : Nat} {ow pw : Nat → Nat} {n4 us : Nat → Int32} (h : RLp S len ow pw n4 us) (hg : g < len) : RLp (spU S i w g) len ow pw n4 (upd us g (us g + 1)) := by
  refine ⟨h.1, fun p hp => ?_⟩
  obtain ⟨a1, a2, a3, a4⟩ := h.2 p hp
  refine ⟨a1, a2, a3, ?_⟩
  show upd us g (us g + 1) p = nI (mUpd S.2.2.2.2.1 g (S.2.2.2.2.1 g + 1) p)
  by_cases c : p = g
  · subst c
    rw [pk_us, mUpd_s, a4]
    exact nI_1 _
  · rw [pk_un c, mUpd_n c]
    exact a4
theorem RLp_n {S : PS} {len i w : Nat} {ow pw : Nat → Nat} {n4 us : Nat → Int32} {nx v : Int32} (h : RLp S len ow pw n4 us) (hnx : nx = S.2.2.2.2.2.2) (hv : v = 1) : RLp (spN S i w) (len + 1) (mUpd ow len i) (mUpd pw len w) (upd n4 len nx) (upd us len v) := by
  obtain ⟨e, h⟩ := h
  subst e
  refine ⟨rfl, fun p hp => ?_⟩
  have hp : p < S.1 + 1 := hp
  show mUpd ow S.1 i p = mUpd S.2.1 S.1 i p ∧ mUpd pw S.1 w p = mUpd S.2.2.1 S.1 w p ∧ upd n4 S.1 nx p = upd S.2.2.2.1 S.1 S.2.2.2.2.2.2 p ∧ upd us S.1 v p = nI (mUpd S.2.2.2.2.1 S.1 1 p)
  by_cases c : p = S.1
  · subst c
    rw [mUpd_s, mUpd_s, mUpd_s, mUpd_s, pk_us, pk_us, pk_us, mUpd_s, hnx, hv]
    exact ⟨rfl, rfl, rfl, rfl⟩
  · rw [mUpd_n c, mUpd_n c, mUpd_n c, mUpd_n c, pk_un c, pk_un c, pk_un c, mUpd_n c]
    exact h p (by omega)
theorem RLo_s {S S' : PS} {L : Nat → Nat} {po : Nat → Int32} {i w g : Nat} (h : RLo S L po i (w + 1)) (hw : w < 10) (e : S'.2.2.2.2.2.1 = mUpd S.2.2.2.2.2.1 (i * 10 + w) g) : RLo S' L (upd po (i * 10 + w) (nI g)) i w := by
  intro j v h1 h2 h3
  rw [e]
  by_cases c : j * 10 + v = i * 10 + w
  · rw [c, pk_us, mUpd_s]
  · rw [pk_un c, mUpd_n c]
    exact h j v h1 h2 (by
      rcases h3 with q | ⟨q1, q2⟩
      · exact Or.inl q
      · subst q1
        exact Or.inr ⟨rfl, by omega⟩)
theorem RLo_in {S : PS} {L : Nat → Nat} {po : Nat → Int32} {i : Nat} (h : RLo S L po i 10) : RLo (rstP S) L po i (L i) := by
  intro j v h1 h2 h3
  show po (j * 10 + v) = nI (S.2.2.2.2.2.1 (j * 10 + v))
  refine h j v h1 h2 ?_
  rcases h3 with q | ⟨q1, q2⟩
  · exact Or.inl q
  · subst q1
    omega
theorem RLo_out {S : PS} {L : Nat → Nat} {po : Nat → Int32} {i : Nat} (h : RLo S L po i 0) : RLo S L po (i + 1) 10 := by
  intro j v h1 h2 h3
  refine h j v h1 h2 ?_
  by_cases c : j = i
  · exact Or.inr ⟨c, Nat.zero_le _⟩
  · exact Or.inl (by omega)
theorem RLp_r {S : PS} {len : Nat} {ow pw : Nat → Nat} {n4 us : Nat → Int32} (h : RLp S len ow pw n4 us) : RLp (rstP S) len ow pw n4 us := h
/-- places name words that there are -/
def WFp (S : PS) (L : Nat → Nat) : Prop := ∀ p, p < S.1 → S.2.1 p < 12 ∧ S.2.2.1 p < L (S.2.1 p)
theorem WFp_step {K D X Y : Nat → Int32} {A : Nat → Nat → Nat} {S : PS} {L : Nat → Nat} {i w : Nat} (h : WFp S L) (hi : i < 12) (hw : w < L i) : WFp (stepP K D X Y A S i w) L := by
  unfold stepP
  split
  · exact h
  · intro p hp
    have hp : p < S.1 + 1 := hp
    show mUpd S.2.1 S.1 i p < 12 ∧ mUpd S.2.2.1 S.1 w p < L (mUpd S.2.1 S.1 i p)
    by_cases c : p = S.1
    · subst c
      rw [mUpd_s, mUpd_s]
      exact ⟨hi, hw⟩
    · rw [mUpd_n c, mUpd_n c]
      exact h p (by omega)
theorem WFp_W {K D X Y : Nat → Int32} {A : Nat → Nat → Nat} {L : Nat → Nat} {i : Nat} (hi : i < 12) : ∀ w (S : PS), w ≤ L i → WFp S L → WFp (plW K D X Y A i w S) L
  | 0, S, _, h => by
    rw [plW_0]
    exact h
  | w + 1, S, hw, h => by
    rw [plW_s]
    exact WFp_W hi w _ (by omega) (WFp_step h hi (by omega))
theorem WFp_I {K D X Y : Nat → Int32} {A : Nat → Nat → Nat} {L : Nat → Nat} : ∀ i, i ≤ 12 → WFp (plI K D X Y A L i) L
  | 0, _ => by
    rw [plI_0]
    exact fun p h => absurd h (Nat.not_lt_zero p)
  | i + 1, h => by
    rw [plI_s]
    exact WFp_W (by omega) _ _ (Nat.le_refl _) (WFp_I i (by omega))
theorem aEq_c {K D X Y K' D' X' Y' : Nat → Int32} {a b : Nat} (ha : a < 120) (hb : b < 120) (jK : ∀ j, j < 120 → K j = K' j) (jD : ∀ j, j < 120 → D j = D' j) (jX : ∀ j, j < 120 → X j = X' j) (jY : ∀ j, j < 120 → Y j = Y' j) : aEq K D X Y a b ↔ aEq K' D' X' Y' a b := by
  unfold aEq
  rw [jK a ha, jK b hb, jD a ha, jD b hb, jX a ha, jX b hb, jY a ha, jY b hb]
theorem LKw_c {K D X Y K' D' X' Y' : Nat → Int32} {i j m1 m2 : Nat} (hi : i < 12) (hj : j < 12) (jK : ∀ j, j < 120 → K j = K' j) (jD : ∀ j, j < 120 → D j = D' j) (jX : ∀ j, j < 120 → X j = X' j) (jY : ∀ j, j < 120 → Y j = Y' j) : LKw K D X Y (i * 10) m1 (j * 10) m2 ↔ LKw K' D' X' Y' (i * 10) m1 (j * 10) m2 := by
  unfold LKw
  constructor
  · intro h
    exact ⟨h.1, fun b c hb hc h1 h2 h3 => (aEq_c (by omega) (by omega) jK jD jX jY).mp (h.2 b c hb hc h1 h2 h3)⟩
  · intro h
    exact ⟨h.1, fun b c hb hc h1 h2 h3 => (aEq_c (by omega) (by omega) jK jD jX jY).mpr (h.2 b c hb hc h1 h2 h3)⟩
theorem stepP_c {K D X Y K' D' X' Y' : Nat → Int32} {A A' : Nat → Nat → Nat} {L : Nat → Nat} {S : PS} {i w : Nat} (hi : i < 12) (hw : w < L i) (hS : WFp S L) (jK : ∀ j, j < 120 → K j = K' j) (jD : ∀ j, j < 120 → D j = D' j) (jX : ∀ j, j < 120 → X j = X' j) (jY : ∀ j, j < 120 → Y j = Y' j) (jA : ∀ i, i < 12 → ∀ w, w < L i → A i w = A' i w) : stepP K D X Y A S i w = stepP K' D' X' Y' A' S i w := by
  have e : fpP (mtP K D X Y A S i w) S.1 = fpP (mtP K' D' X' Y' A' S i w) S.1 := by
    refine fp_c _ (fun p hp => ?_)
    obtain ⟨h1, h2⟩ := hS p hp
    unfold mtP
    rw [jA i hi w hw, jA _ h1 _ h2, LKw_c hi h1 jK jD jX jY]
  unfold stepP
  rw [e]
theorem plW_c {K D X Y K' D' X' Y' : Nat → Int32} {A A' : Nat → Nat → Nat} {L : Nat → Nat} {i : Nat} (hi : i < 12) (jK : ∀ j, j < 120 → K j = K' j) (jD : ∀ j, j < 120 → D j = D' j) (jX : ∀ j, j < 120 → X j = X' j) (jY : ∀ j, j < 120 → Y j = Y' j) (jA : ∀ i, i < 12 → ∀ w, w < L i → A i w = A' i w) : ∀ w (S : PS), w ≤ L i → WFp S L → plW K D X Y A i w S = plW K' D' X' Y' A' i w S
  | 0, S, _, _ => by rw [plW_0, plW_0]
  | w + 1, S, hw, hS => by
    rw [plW_s, plW_s, ← stepP_c (L := L) hi (by omega) hS jK jD jX jY jA]
    exact plW_c hi jK jD jX jY jA w _ (by omega) (WFp_step hS hi (by omega))
theorem plI_c {K D X Y K' D' X' Y' : Nat → Int32} {A A' : Nat → Nat → Nat} {L L' : Nat → Nat} (jK : ∀ j, j < 120 → K j = K' j) (jD : ∀ j, j < 120 → D j = D' j) (jX : ∀ j, j < 120 → X j = X' j) (jY : ∀ j, j < 120 → Y j = Y' j) (jL : ∀ i, i < 12 → L i = L' i) (jA : ∀ i, i < 12 → ∀ w, w < L i → A i w = A' i w) : ∀ i, i ≤ 12 → plI K D X Y A L i = plI K' D' X' Y' A' L' i
  | 0, _ => by rw [plI_0, plI_0]
  | i + 1, h => by
    have ih := plI_c jK jD jX jY jL jA i (by omega)
    rw [plI_s, plI_s, ← ih, ← jL i (by omega)]
    exact plW_c (by omega) jK jD jX jY jA _ _ (Nat.le_refl _) (WFp_I i (by omega))
/-- the class looks for a place: the first that is like, or a new one -/
def MTc (K D X Y : Nat → Int32) (ow sA : Nat → Nat) (n4 : Nat → Int32) (i st : Nat) (nx : Int32) (p : Nat) : Prop := n4 p = nx ∧ LKw K D X Y (i * 10) st (ow p * 10) (sA p)
def FOD (K D X Y : Nat → Int32) (len : Nat) (ow sA : Nat → Nat) (n4 us : Nat → Int32) (len' : Nat) (ow' sA' : Nat → Nat) (n4' us' : Nat → Int32) (i st g : Nat) (nx : Int32) : Prop := (g < len ∧ MTc K D X Y ow sA n4 i st nx g ∧ (∀ p, p < g → ¬ MTc K D X Y ow sA n4 i st nx p) ∧ len' = len ∧ ow' = ow ∧ sA' = sA ∧ n4' = n4 ∧ us' = us) ∨ (g = len ∧ (∀ p, p < len → ¬ MTc K D X Y ow sA n4 i st nx p) ∧ len' = len + 1 ∧ ow' = mUpd ow len i ∧ sA' = mUpd sA len st ∧ n4' = upd n4 len nx ∧ us' = upd us len 0)
def aAt (aO : Nat → Nat) : Nat → Nat → Nat := fun i w => aO (i * 10 + w)
theorem MT_eq {K D X Y : Nat → Int32} {A : Nat → Nat → Nat} {S : PS} {len i w st : Nat} {ow pw sA : Nat → Nat} {n4 us : Nat → Int32} {nx : Int32} (hR : RLp S len ow pw n4 us) (hs : ∀ p, p < len → sA p = A (ow p) (pw p)) (hn : nx = S.2.2.2.2.2.2) (hst : st = A i w) {p : Nat} (hp : p < len) : MTc K D X Y ow sA n4 i st nx p ↔ mtP K D X Y A S i w p := by
  obtain ⟨a1, a2, a3, a4⟩ := hR.2 p (by rw [← hR.1]; exact hp)
  unfold MTc mtP
  rw [hs p hp, a1, a2, a3, hn, hst]
theorem FO_step {K D X Y : Nat → Int32} {A : Nat → Nat → Nat} {S : PS} {len len' i w st g : Nat} {ow ow' pw sA sA' : Nat → Nat} {n4 us n4' us' : Nat → Int32} {nx : Int32} (hR : RLp S len ow pw n4 us) (hs : ∀ p, p < len → sA p = A (ow p) (pw p)) (hn : nx = S.2.2.2.2.2.2) (hst : st = A i w) (h : FOD K D X Y len ow sA n4 us len' ow' sA' n4' us' i st g nx) : RLp (stepP K D X Y A S i w) len' ow' (if len' = len then pw else mUpd pw len w) n4' (upd us' g (us' g + 1)) ∧ (stepP K D X Y A S i w).2.2.2.2.2.1 = mUpd S.2.2.2.2.2.1 (i * 10 + w) g ∧ nI g = (stepP K D X Y A S i w).2.2.2.2.2.2 := by
  have e1 := hR.1
  rcases h with ⟨h1, h2, h3, h4, h5, h6, h7, h8⟩ | ⟨h1, h3, h4, h5, h6, h7, h8⟩
  · subst h4 h5 h6 h7 h8
    rw [stepP_u (g := g) (by omega) ((MT_eq hR hs hn hst h1).mp h2) (fun p hp z => h3 p hp ((MT_eq hR hs hn hst (by omega)).mpr z)), if_pos rfl]
    exact ⟨RLp_u hR h1, rfl, rfl⟩
  · subst h1 h4 h5 h6 h7 h8
    rw [stepP_n (fun p hp z => h3 p (by omega) ((MT_eq hR hs hn hst (by omega)).mpr z)), if_neg (by omega)]
    refine ⟨⟨?_, fun p hp => ?_⟩, ?_, ?_⟩
    · show g + 1 = S.1 + 1
      omega
    · have hp : p < S.1 + 1 := hp
      show mUpd ow g i p = mUpd S.2.1 S.1 i p ∧ mUpd pw g w p = mUpd S.2.2.1 S.1 w p ∧ upd n4 g nx p = upd S.2.2.2.1 S.1 S.2.2.2.2.2.2 p ∧ upd (upd us g 0) g (upd us g 0 g + 1) p = nI (mUpd S.2.2.2.2.1 S.1 1 p)
      rw [← e1]
      by_cases c : p = g
      · subst c
        rw [mUpd_s, mUpd_s, mUpd_s, mUpd_s, mUpd_s, pk_us, pk_us, pk_us, pk_us, hn]
        exact ⟨rfl, rfl, rfl, rfl⟩
      · rw [mUpd_n c, mUpd_n c, mUpd_n c, mUpd_n c, mUpd_n c, pk_un c, pk_un c, pk_un c, pk_un c]
        exact hR.2 p (by omega)
    · show mUpd S.2.2.2.2.2.1 (i * 10 + w) S.1 = mUpd S.2.2.2.2.2.1 (i * 10 + w) g
      rw [e1]
    · show nI g = nI S.1
      rw [e1]
theorem FOD_R {K D X Y : Nat → Int32} {len len' i st g : Nat} {ow ow' sA sA' : Nat → Nat} {n4 us n4' us' : Nat → Int32} {nx : Int32} (h : FOD K D X Y len ow sA n4 us len' ow' sA' n4' us' i st g nx) : (len' = len ∧ ow' = ow ∧ sA' = sA) ∨ (len' = len + 1 ∧ ow' = mUpd ow len i ∧ sA' = mUpd sA len st) := by
  rcases h with ⟨_, _, _, h4, h5, h6, _, _⟩ | ⟨_, _, h4, h5, h6, _, _⟩
  · exact Or.inl ⟨h4, h5, h6⟩
  · exact Or.inr ⟨h4, h5, h6⟩
