-- THE STORE of the reference: places
theorem cI_m {f : Nat → Int32} {base len m : Nat} {w : Int32} (h : ∀ b, b < len → (m.testBit b = true ↔ (f (base + b)).toInt = w.toInt)) : ∀ k, k ≤ len → cI f base w k = mCnt m k
  | 0, _ => rfl
  | k + 1, hk => by
    have ih := cI_m h k (by omega)
    by_cases c : (f (base + k)).toInt = w.toInt
    · rw [cI_in c, mCnt_in ((h k (by omega)).mpr c), ih]
    · rw [cI_no c, mCnt_no (fun z => c ((h k (by omega)).mp z)), ih]
/-- m is the set of the acts that have word w -/
def MKm (f L : Nat → Int32) (i w m : Nat) : Prop := m < 2 ^ lenN L i ∧ ∀ b, b < lenN L i → (m.testBit b = true ↔ (f (i * 10 + b)).toInt = (nI w).toInt)
theorem AO_m {f L : Nat → Int32} {i w m n : Nat} {v r : Int32} (hi : i < 12) (hL : lenN L i ≤ 10) (h : MKm f L i w m) (hv : v = nI w) (ha : AOf f (i * 10) v (lenN L i) n r) : (r.toInt < 0 → mCnt m 10 ≤ n) ∧ (¬ r.toInt < 0 → ∃ b, b < lenN L i ∧ r = nI (i * 10 + b) ∧ m.testBit b = true ∧ mCnt m b = n) := by
  subst hv
  have hc := cI_m h.2
  constructor
  · intro hr
    have z := AOf_neg ha (by omega) hL hr
    rw [hc _ (Nat.le_refl _)] at z
    have e := mCnt_up h.1 (10 - lenN L i)
    rw [show lenN L i + (10 - lenN L i) = 10 by omega] at e
    omega
  · intro hr
    obtain ⟨b, h1, h2, h3, h4⟩ := AOf_pos ha hr
    refine ⟨b, h1, h2, (h.2 b h1).mpr h3, ?_⟩
    rw [← hc b (by omega)]
    exact h4
def LKr (K D X Y : Nat → Int32) (b1 m1 b2 m2 n : Nat) : Prop := n ≤ mCnt m1 10 ∧ n ≤ mCnt m2 10 ∧ ∀ b c, b < 10 → c < 10 → m1.testBit b = true → m2.testBit c = true → mCnt m1 b = mCnt m2 c → mCnt m1 b < n → aEq K D X Y (b1 + b) (b2 + c)
theorem LKr_0 {K D X Y : Nat → Int32} {b1 m1 b2 m2 : Nat} : LKr K D X Y b1 m1 b2 m2 0 := ⟨Nat.zero_le _, Nat.zero_le _, fun _ _ _ _ _ _ _ h => absurd h (Nat.not_lt_zero _)⟩
theorem LKr_s {K D X Y : Nat → Int32} {b1 m1 b2 m2 n b0 c0 : Nat} (h : LKr K D X Y b1 m1 b2 m2 n) (hb : b0 < 10) (hc : c0 < 10) (h1 : m1.testBit b0 = true) (h2 : m2.testBit c0 = true) (r1 : mCnt m1 b0 = n) (r2 : mCnt m2 c0 = n) (he : aEq K D X Y (b1 + b0) (b2 + c0)) : LKr K D X Y b1 m1 b2 m2 (n + 1) := by
  have g1 := mCnt_lt h1 (c := 10) hb
  have g2 := mCnt_lt h2 (c := 10) hc
  refine ⟨by omega, by omega, fun b c hb2 hc2 q1 q2 q3 q4 => ?_⟩
  by_cases e : mCnt m1 b < n
  · exact h.2.2 b c hb2 hc2 q1 q2 q3 e
  · have e1 : b = b0 := mCnt_inj q1 h1 (by omega)
    have e2 : c = c0 := mCnt_inj q2 h2 (by omega)
    subst e1 e2
    exact he
theorem LKr_end {K D X Y : Nat → Int32} {b1 m1 b2 m2 n : Nat} (h : LKr K D X Y b1 m1 b2 m2 n) (h1 : mCnt m1 10 ≤ n) (h2 : mCnt m2 10 ≤ n) : LKw K D X Y b1 m1 b2 m2 := by
  refine ⟨by have := h.1; have := h.2.1; omega, fun b c hb hc q1 q2 q3 => h.2.2 b c hb hc q1 q2 q3 ?_⟩
  have := mCnt_lt q1 (c := 10) hb
  omega
def MTr (K D X Y : Nat → Int32) (A : Nat → Nat → Nat) (pR pw : Nat → Nat) (g22 : Nat → Int32) (i w : Nat) (nx : Int32) (p : Nat) : Prop := g22 p = nx ∧ LKw K D X Y (i * 10) (A i w) (pR p * 10) (A (pR p) (pw p))
def FOR (K D X Y : Nat → Int32) (A : Nat → Nat → Nat) (len : Nat) (pR pw : Nat → Nat) (g21 g22 g23 : Nat → Int32) (len' : Nat) (pR' : Nat → Nat) (g21' g22' g23' : Nat → Int32) (i w g : Nat) (nx : Int32) : Prop := (g < len ∧ MTr K D X Y A pR pw g22 i w nx g ∧ (∀ p, p < g → ¬ MTr K D X Y A pR pw g22 i w nx p) ∧ len' = len ∧ pR' = pR ∧ g21' = g21 ∧ g22' = g22 ∧ g23' = upd g23 g (g23 g + 1)) ∨ (g = len ∧ (∀ p, p < len → ¬ MTr K D X Y A pR pw g22 i w nx p) ∧ len' = len + 1 ∧ pR' = mUpd pR len i ∧ g21' = upd g21 len (nI w) ∧ g22' = upd g22 len nx ∧ g23' = upd g23 len 1)
theorem MTr_eq {K D X Y : Nat → Int32} {A : Nat → Nat → Nat} {S : PS} {len i w : Nat} {pR pw : Nat → Nat} {g22 us : Nat → Int32} {nx : Int32} (hR : RLp S len pR pw g22 us) (hn : nx = S.2.2.2.2.2.2) {p : Nat} (hp : p < len) : MTr K D X Y A pR pw g22 i w nx p ↔ mtP K D X Y A S i w p := by
  obtain ⟨a1, a2, a3, a4⟩ := hR.2 p (by rw [← hR.1]; exact hp)
  unfold MTr mtP
  rw [a1, a2, a3, hn]
theorem FOR_step {K D X Y : Nat → Int32} {A : Nat → Nat → Nat} {S : PS} {len len' i w g : Nat} {pR pR' pw : Nat → Nat} {g21 g22 g23 g21' g22' g23' : Nat → Int32} {nx : Int32} (hR : RLp S len pR pw g22 g23) (hw : ∀ p, p < len → g21 p = nI (pw p)) (hn : nx = S.2.2.2.2.2.2) (h : FOR K D X Y A len pR pw g21 g22 g23 len' pR' g21' g22' g23' i w g nx) : (RLp (stepP K D X Y A S i w) len' pR' (if len' = len then pw else mUpd pw len w) g22' g23' ∧ (stepP K D X Y A S i w).2.2.2.2.2.1 = mUpd S.2.2.2.2.2.1 (i * 10 + w) g ∧ nI g = (stepP K D X Y A S i w).2.2.2.2.2.2) ∧ ∀ p, p < len' → g21' p = nI ((if len' = len then pw else mUpd pw len w) p) := by
  have e1 := hR.1
  rcases h with ⟨h1, h2, h3, h4, h5, h6, h7, h8⟩ | ⟨h1, h3, h4, h5, h6, h7, h8⟩
  · subst h4 h5 h6 h7 h8
    rw [stepP_u (g := g) (by omega) ((MTr_eq hR hn h1).mp h2) (fun p hp z => h3 p hp ((MTr_eq hR hn (by omega)).mpr z)), if_pos rfl]
    exact ⟨⟨RLp_u hR h1, rfl, rfl⟩, hw⟩
  · subst h1 h4 h5 h6 h7 h8
    rw [stepP_n (fun p hp z => h3 p (by omega) ((MTr_eq hR hn (by omega)).mpr z)), if_neg (by omega)]
    refine ⟨⟨?_, ?_, ?_⟩, fun p hp => ?_⟩
    · exact RLp_n hR hn rfl
    · show mUpd S.2.2.2.2.2.1 (i * 10 + w) S.1 = mUpd S.2.2.2.2.2.1 (i * 10 + w) g
      rw [e1]
    · show nI g = nI S.1
      rw [e1]
    · by_cases c : p = g
      · rw [c, pk_us, mUpd_s]
      · rw [pk_un c, mUpd_n c]
        exact hw p (by omega)
theorem FOR_g {K D X Y : Nat → Int32} {A : Nat → Nat → Nat} {len len' i w g : Nat} {pR pR' pw : Nat → Nat} {g21 g22 g23 g21' g22' g23' : Nat → Int32} {nx : Int32} (h : FOR K D X Y A len pR pw g21 g22 g23 len' pR' g21' g22' g23' i w g nx) : g < len' ∧ len' ≤ len + 1 ∧ len ≤ len' ∧ (∀ p, p < len' → (p < len ∧ pR' p = pR p) ∨ pR' p = i) := by
  rcases h with ⟨h1, h2, h3, h4, h5, h6, h7, h8⟩ | ⟨h1, h3, h4, h5, h6, h7, h8⟩
  · subst h4 h5
    exact ⟨h1, by omega, Nat.le_refl _, fun p hp => Or.inl ⟨hp, rfl⟩⟩
  · subst h1 h4 h5
    refine ⟨by omega, Nat.le_refl _, by omega, fun p hp => ?_⟩
    by_cases c : p = g
    · rw [c, mUpd_s]
      exact Or.inr rfl
    · rw [mUpd_n c]
      exact Or.inl ⟨by omega, rfl⟩
/-- the words' masks, as both sides reckon them -/
noncomputable def cnA (K R W L : Nat → Int32) (bs : Nat) : Nat → Nat → Nat := fun i w => pkA (iQ K R W (lenN L i) i bs) w
noncomputable def cnL (K R W L : Nat → Int32) (bs : Nat) : Nat → Nat := fun i => pkL (iQ K R W (lenN L i) i bs)
theorem MK_of {K D X Y L8 WC : Nat → Int32} {wd : Nat → Nat} {bs i w : Nat} (hL : IL L8) (hi : i < 12) (h : PK8 K D X Y L8 WC wd bs i) (hw : w < cnL K (rR K X Y) (rW K D) L8 bs i) : MKm (fun j => nI (wd j)) L8 i w (cnA K (rR K X Y) (rW K D) L8 bs i w) := by
  obtain ⟨c1, c2, c3, c4⟩ := PK8_can h
  have hn := (IL_n hL hi).2
  have hw : w < pkL (iQ K (rR K X Y) (rW K D) (lenN L8 i) i bs) := hw
  refine ⟨mPW_lt _ _ _ c3 w (Nat.zero_le _) (by omega), fun b hb => ?_⟩
  have hl := WD_lt c3 c4 (b := b) hb
  rw [show (cnA K (rR K X Y) (rW K D) L8 bs i w).testBit b = true ↔ wd (i * 10 + b) = w from WD_iff c3 c4 hb hw]
  show wd (i * 10 + b) = w ↔ (nI (wd (i * 10 + b))).toInt = (nI w).toInt
  rw [nI_toInt (by omega), nI_toInt (by omega)]
  omega
theorem FOR_p {K D X Y : Nat → Int32} {A : Nat → Nat → Nat} {L : Nat → Nat} {len len' i w g : Nat} {pR pR' pw : Nat → Nat} {g21 g22 g23 g21' g22' g23' : Nat → Int32} {nx : Int32} (h : FOR K D X Y A len pR pw g21 g22 g23 len' pR' g21' g22' g23' i w g nx) (hw : ∀ p, p < len → g21 p = nI (pw p)) (hp : ∀ p, p < len → pR p ≤ i ∧ pw p < L (pR p)) (hi : w < L i) : ∀ p, p < len' → g21' p = nI ((if len' = len then pw else mUpd pw len w) p) ∧ pR' p ≤ i ∧ (if len' = len then pw else mUpd pw len w) p < L (pR' p) := by
  rcases h with ⟨h1, h2, h3, h4, h5, h6, h7, h8⟩ | ⟨h1, h3, h4, h5, h6, h7, h8⟩
  · subst h4 h5 h6
    rw [if_pos rfl]
    exact fun p q => ⟨hw p q, hp p q⟩
  · subst h1 h4 h5 h6
    rw [if_neg (by omega)]
    intro p q
    by_cases c : p = g
    · subst c
      rw [pk_us, mUpd_s, mUpd_s]
      exact ⟨rfl, Nat.le_refl _, hi⟩
    · rw [pk_un c, mUpd_n c, mUpd_n c]
      exact ⟨hw p (by omega), hp p (by omega)⟩
