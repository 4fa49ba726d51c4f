-- what the search learns, and what each of its questions means (plain facts)
def iP (K : Nat → Int32) (i : Nat) : Nat → Nat := fun a => if a < 10 then pN (K (i * 10 + a)) else 0
def iN (K R W : Nat → Int32) (i : Nat) : Nat → Nat → Nat := fun a b => if a < 10 ∧ b < 10 then kNd (K (i * 10 + a)) (K (i * 10 + b)) (R (i * 10 + a)) (W (i * 10 + a)) (R (i * 10 + b)) (W (i * 10 + b)) else 0
def iQ (K R W : Nat → Int32) (n i bs : Nat) : mPI := (n, iN K R W i, iP K i, bs)
theorem iP_at {K : Nat → Int32} {i a : Nat} (h : a < 10) : iP K i a = pN (K (i * 10 + a)) := if_pos h
theorem iN_at {K R W : Nat → Int32} {i a b : Nat} (h : a < 10) (h2 : b < 10) : iN K R W i a b = kNd (K (i * 10 + a)) (K (i * 10 + b)) (R (i * 10 + a)) (W (i * 10 + a)) (R (i * 10 + b)) (W (i * 10 + b)) := if_pos ⟨h, h2⟩
theorem kNd_le (ka kb ra wa rb wb : Int32) : kNd ka kb ra wa rb wb ≤ 2 := by
  unfold kNd
  (repeat' split) <;> omega
theorem iN_le (K R W : Nat → Int32) (i a b : Nat) : iN K R W i a b ≤ 2 := by
  unfold iN
  split
  · exact kNd_le _ _ _ _ _ _
  · omega
theorem mm_rooms {bs : Nat} (j : Nat) : upd (fun _ => 1) 0 (nI bs) j = nI (pRoom bs j) := by
  unfold upd pRoom
  split <;> rfl
theorem pRoom_le {bs p : Nat} (h : bs ≤ 3) : pRoom bs p ≤ 3 := by
  unfold pRoom
  split <;> omega
theorem lp_step {P eP : Nat → Nat} {i x : Nat} (h : ∀ p, p < 5 → eP p = mOP P p i) (hx : P i = x) (hx5 : x < 5) : ∀ p, p < 5 → mUpd eP x (eP x ||| 2 ^ i) p = mOP P p (i + 1) := by
  intro p hp
  show _ = if P i = p then mOP P p i ||| 2 ^ i else mOP P p i
  by_cases e : p = x
  · subst e
    rw [mUpd_s, if_pos hx, h _ hp]
  · rw [mUpd_n e, if_neg (fun z => e (z.symm.trans hx)), h p hp]
/-- in row b' of e: the acts a' before it that it needs so (v), of those that were looked at -/
def NE (nd : Nat → Nat → Nat) (n lo b v : Nat) (e : Nat → Nat) : Prop := ∀ b', b' < n → ∀ a', (e b').testBit a' = true ↔ a' < b' ∧ (lo ≤ a' ∨ (a' + 1 = lo ∧ b' < b)) ∧ nd a' b' = v
theorem NE_0 (nd : Nat → Nat → Nat) (n v : Nat) : NE nd n n 0 v (fun _ => 0) := by
  intro b' hb' a'
  show (0 : Nat).testBit a' = true ↔ _
  rw [Nat.zero_testBit]
  constructor
  · intro h
    exact absurd h (by decide)
  · rintro ⟨p1, p2, p3⟩
    omega
theorem NE_set {nd : Nat → Nat → Nat} {n a b v : Nat} {e : Nat → Nat} (h : NE nd n (a + 1) b v e) (hab : a < b) (hb : b < n) (hx : nd a b = v) : NE nd n (a + 1) (b + 1) v (mUpd e b (e b ||| 2 ^ a)) := by
  intro b' hb' a'
  by_cases eb : b' = b
  · subst eb
    rw [mUpd_s, mOr_t, h b' hb' a', mPow_t]
    constructor
    · rintro (⟨p1, p2, p3⟩ | p)
      · exact ⟨p1, by omega, p3⟩
      · subst p
        exact ⟨hab, Or.inr ⟨rfl, by omega⟩, hx⟩
    · rintro ⟨p1, p2, p3⟩
      by_cases q : a = a'
      · exact Or.inr q
      · exact Or.inl ⟨p1, by omega, p3⟩
  · rw [mUpd_n eb, h b' hb' a']
    constructor
    · rintro ⟨p1, p2, p3⟩
      exact ⟨p1, by omega, p3⟩
    · rintro ⟨p1, p2, p3⟩
      exact ⟨p1, by omega, p3⟩
theorem NE_skip {nd : Nat → Nat → Nat} {n a b v : Nat} {e : Nat → Nat} (h : NE nd n (a + 1) b v e) (hx : ¬ nd a b = v) : NE nd n (a + 1) (b + 1) v e := by
  intro b' hb' a'
  rw [h b' hb' a']
  constructor
  · rintro ⟨p1, p2, p3⟩
    exact ⟨p1, by omega, p3⟩
  · rintro ⟨p1, p2, p3⟩
    by_cases q : a' = a ∧ b' = b
    · obtain ⟨rfl, rfl⟩ := q
      exact absurd p3 hx
    · exact ⟨p1, by omega, p3⟩
theorem NE_out {nd : Nat → Nat → Nat} {n a b v : Nat} {e : Nat → Nat} (h : NE nd n (a + 1) b v e) (hb : n ≤ b) : NE nd n a 0 v e := by
  intro b' hb' a'
  rw [h b' hb' a']
  constructor
  · rintro ⟨p1, p2, p3⟩
    exact ⟨p1, by omega, p3⟩
  · rintro ⟨p1, p2, p3⟩
    exact ⟨p1, by omega, p3⟩
theorem NE_in {nd : Nat → Nat → Nat} {n a v : Nat} {e : Nat → Nat} (h : NE nd n (a + 1) 0 v e) : NE nd n (a + 1) (a + 1) v e := by
  intro b' hb' a'
  rw [h b' hb' a']
  constructor
  · rintro ⟨p1, p2, p3⟩
    exact ⟨p1, by omega, p3⟩
  · rintro ⟨p1, p2, p3⟩
    exact ⟨p1, by omega, p3⟩
theorem NE_t {nd : Nat → Nat → Nat} {n v : Nat} {e : Nat → Nat} (h : NE nd n 0 0 v e) {b a : Nat} (hb : b < n) : (e b).testBit a = true ↔ a < b ∧ nd a b = v := by
  rw [h b hb a]
  constructor
  · rintro ⟨p1, p2, p3⟩
    exact ⟨p1, p3⟩
  · rintro ⟨p1, p3⟩
    exact ⟨p1, by omega, p3⟩
theorem NE_k {nd : Nat → Nat → Nat} {n v : Nat} {e : Nat → Nat} (h : NE nd n 0 0 v e) (hn : n ≤ 10) {b : Nat} (hb : b < n) : e b < 1024 := by
  have h1 : e b < 2 ^ b := mLt_of (fun i z => ((NE_t h hb).mp z).1)
  have h2 := mm_two (i := b) (by omega)
  omega
def WL (nd : Nat → Nat → Nat) (n lo : Nat) (w : Nat → Nat) : Prop := (∀ i, i < lo → w i = 0) ∧ ∀ i, lo ≤ i → i < n → w i + i < n ∧ (w i = 0 ∨ ∃ b, i < b ∧ b < n ∧ ((nd i b = 2 ∧ w i = w b + 1) ∨ (nd i b = 1 ∧ w i = w b)))
theorem WL_0 (nd : Nat → Nat → Nat) (n : Nat) : WL nd n n (fun _ => 0) := ⟨fun _ _ => rfl, fun i h1 h2 => by omega⟩
theorem WL_in {nd : Nat → Nat → Nat} {n a : Nat} {w : Nat → Nat} (h : WL nd n (a + 1) w) (ha : a < n) : WL nd n a w := by
  refine ⟨fun i hi => h.1 i (by omega), fun i h1 h2 => ?_⟩
  by_cases e : i = a
  · subst e
    have z := h.1 i (by omega)
    exact ⟨by omega, Or.inl z⟩
  · exact h.2 i (by omega) h2
theorem WL_set {nd : Nat → Nat → Nat} {n a b x : Nat} {w : Nat → Nat} (h : WL nd n a w) (hab : a < b) (hb : b < n) (hx : (nd a b = 2 ∧ x = w b + 1) ∨ (nd a b = 1 ∧ x = w b)) : WL nd n a (mUpd w a (if w a < x then x else w a)) := by
  have hbb := (h.2 b (by omega) hb).1
  refine ⟨fun i hi => ?_, fun i h1 h2 => ?_⟩
  · rw [mUpd_n (by omega)]
    exact h.1 i hi
  · by_cases e : i = a
    · subst e
      rw [mUpd_s]
      by_cases c : w i < x
      · rw [if_pos c]
        refine ⟨by omega, Or.inr ⟨b, hab, hb, ?_⟩⟩
        rw [mUpd_n (by omega)]
        exact hx
      · rw [if_neg c]
        obtain ⟨z1, z2⟩ := h.2 i h1 h2
        refine ⟨z1, ?_⟩
        rcases z2 with z2 | ⟨b', q1, q2, q3⟩
        · exact Or.inl z2
        · refine Or.inr ⟨b', q1, q2, ?_⟩
          rw [mUpd_n (by omega)]
          exact q3
    · rw [mUpd_n e]
      obtain ⟨z1, z2⟩ := h.2 i h1 h2
      refine ⟨z1, ?_⟩
      rcases z2 with z2 | ⟨b', q1, q2, q3⟩
      · exact Or.inl z2
      · refine Or.inr ⟨b', q1, q2, ?_⟩
        rw [mUpd_n (by omega)]
        exact q3
theorem WL_WB {q : mPI} {w : Nat → Nat} (h : WL q.2.1 q.1 0 w) : mWB q w := fun i hi => (h.2 i (Nat.zero_le i) hi).2
theorem WL_k {nd : Nat → Nat → Nat} {n i : Nat} {w : Nat → Nat} (h : WL nd n 0 w) (hi : i < n) : w i + i < n := (h.2 i (Nat.zero_le i) hi).1
theorem mm_m1 (x : Int32) : x + Int32.ofInt (-1) = x - 1 := by
  rw [Int32.sub_eq_add_neg]
  rfl
theorem mm_dn {a : Nat} (h : a < 1073741824) : (nI a - 1).toInt = (a : Int) - 1 := pk_sub_toInt (a := a) (b := 1) h (by decide)
-- the questions
def TM (q : mPI) (w : Nat → Nat) (rs lf : Nat) : Prop := (∃ p, p < 5 ∧ pRoom q.2.2.2 p * lf < pcn q.2.2.1 rs p q.1) ∨ ∃ i, i < q.1 ∧ rs.testBit i = true ∧ lf ≤ w i
theorem TM_no {q : mPI} {w : Nat → Nat} {d lf : Nat} (hW : mWB q w) (hcl : mCl q d) (h : TM q w (mDif (2 ^ q.1 - 1) d) lf) : ¬ mCF q lf d := by
  intro hc
  rcases h with ⟨p, hp, h⟩ | ⟨i, hi, h1, h2⟩
  · have := mCF_room q hp lf d hc
    omega
  · have := mCF_wb hW lf d hcl hc _ i (Nat.le_refl _) hi ((mDif_t _ _ _).mp h1).2
    omega
def RDp (q : mPI) (d rd i : Nat) : Prop := (∀ j, rd.testBit j = true → j < i ∧ d.testBit j = false ∧ ∀ a, a < j → q.2.1 a j = 2 → d.testBit a = true) ∧ ∀ s, mLW q d s → ∀ j, j < i → s.testBit j = true → rd.testBit j = true
theorem RDp_0 (q : mPI) (d : Nat) : RDp q d 0 0 := ⟨fun j h => absurd h (by rw [Nat.zero_testBit]; decide), fun s _ j h => absurd h (Nat.not_lt_zero j)⟩
theorem RDp_add {q : mPI} {d rd i n : Nat} {eE : Nat → Nat} (hE : NE q.2.1 n 0 0 2 eE) (hi : i < n) (h : RDp q d rd i) (h1 : mDif (eE i) d = 0) (h2 : ¬ d.testBit i = true) : RDp q d (rd ||| 2 ^ i) (i + 1) := by
  refine ⟨fun j hj => ?_, fun s hs j hj hsj => ?_⟩
  · rw [mOr_t, mPow_t] at hj
    rcases hj with hj | hj
    · obtain ⟨a1, a2, a3⟩ := h.1 j hj
      exact ⟨by omega, a2, a3⟩
    · subst hj
      exact ⟨by omega, mBF.mp h2, fun a ha hn => (mDif_0.mp h1) a ((NE_t hE hi).mpr ⟨ha, hn⟩)⟩
  · rw [mOr_t, mPow_t]
    by_cases e : i = j
    · exact Or.inr e
    · exact Or.inl (h.2 s hs j (by omega) hsj)
theorem RDp_no {q : mPI} {d rd i : Nat} (h : RDp q d rd i) (hno : ∀ s, mLW q d s → ¬ s.testBit i = true) : RDp q d rd (i + 1) := by
  refine ⟨fun j hj => ?_, fun s hs j hj hsj => ?_⟩
  · obtain ⟨a1, a2, a3⟩ := h.1 j hj
    exact ⟨by omega, a2, a3⟩
  · by_cases e : j = i
    · subst e
      exact absurd hsj (hno s hs)
    · exact h.2 s hs j (by omega) hsj
theorem RDp_no1 {q : mPI} {d rd i n : Nat} {eE : Nat → Nat} (hE : NE q.2.1 n 0 0 2 eE) (hi : i < n) (h : RDp q d rd i) (h1 : ¬ mDif (eE i) d = 0) : RDp q d rd (i + 1) := by
  refine RDp_no h (fun s hs hsi => h1 (mDif_0.mpr (fun a ha => ?_)))
  have z := (NE_t hE hi).mp ha
  exact (hs.2.2.2.2 i hsi a z.1).1 z.2
theorem RDp_no2 {q : mPI} {d rd i n : Nat} {eB : Nat → Nat} (hB : NE q.2.1 n 0 0 1 eB) (hi : i < n) (h : RDp q d rd i) (h1 : ¬ mDif (eB i) (d ||| rd) = 0) : RDp q d rd (i + 1) := by
  refine RDp_no h (fun s hs hsi => h1 (mDif_0.mpr (fun a ha => ?_)))
  have z := (NE_t hB hi).mp ha
  rw [mOr_t]
  rcases (hs.2.2.2.2 i hsi a z.1).2 z.2 with c | c
  · exact Or.inl c
  · exact Or.inr (h.2 s hs a z.1 c)
theorem RDp_no3 {q : mPI} {d rd i : Nat} (h : RDp q d rd i) (h1 : d.testBit i = true) : RDp q d rd (i + 1) := by
  refine RDp_no h (fun s hs hsi => ?_)
  have := hs.2.2.1 i hsi
  rw [h1] at this
  exact absurd this (by decide)
theorem RDp_lt {q : mPI} {d rd i : Nat} (h : RDp q d rd i) : rd < 2 ^ i := mLt_of (fun j z => (h.1 j z).1)
def UG (w : Nat → Nat) (rs lf ug i : Nat) : Prop := ∀ j, ug.testBit j = true ↔ j < i ∧ rs.testBit j = true ∧ w j + 1 = lf
theorem UG_0 (w : Nat → Nat) (rs lf : Nat) : UG w rs lf 0 0 := fun j => by
  rw [Nat.zero_testBit]
  exact ⟨fun h => absurd h (by decide), fun h => absurd h.1 (Nat.not_lt_zero j)⟩
theorem UG_add {w : Nat → Nat} {rs lf ug i : Nat} (h : UG w rs lf ug i) (h1 : rs.testBit i = true) (h2 : w i = lf - 1) (h3 : 1 ≤ lf) : UG w rs lf (ug ||| 2 ^ i) (i + 1) := fun j => by
  rw [mOr_t, mPow_t, h j]
  constructor
  · rintro (⟨a1, a2, a3⟩ | e)
    · exact ⟨by omega, a2, a3⟩
    · subst e
      exact ⟨by omega, h1, by omega⟩
  · rintro ⟨a1, a2, a3⟩
    by_cases e : i = j
    · exact Or.inr e
    · exact Or.inl ⟨by omega, a2, a3⟩
theorem UG_no {w : Nat → Nat} {rs lf ug i : Nat} (h : UG w rs lf ug i) (h1 : ¬ rs.testBit i = true ∨ ¬ w i = lf - 1) : UG w rs lf ug (i + 1) := fun j => by
  rw [h j]
  constructor
  · rintro ⟨a1, a2, a3⟩
    exact ⟨by omega, a2, a3⟩
  · rintro ⟨a1, a2, a3⟩
    refine ⟨?_, a2, a3⟩
    by_cases e : j = i
    · subst e
      rcases h1 with c | c
      · exact absurd a2 c
      · omega
    · omega
theorem UG_lt {w : Nat → Nat} {rs lf ug i : Nat} (h : UG w rs lf ug i) : ug < 2 ^ i := mLt_of (fun j z => ((h j).mp z).1)
def CMq (q : mPI) (d rd ac : Nat) : Prop := mSub ac rd ∧ (∀ p, p < 5 → pcn q.2.2.1 ac p q.1 ≤ pRoom q.2.2.2 p) ∧ ∀ i, ac.testBit i = true → ∀ a, a < i → q.2.1 a i = 1 → d.testBit a = true ∨ ac.testBit a = true
theorem CM_B {q : mPI} {d ac i n : Nat} {eB : Nat → Nat} (hB : NE q.2.1 n 0 0 1 eB) (hi : i < n) : mDif (eB i) (d ||| ac) = 0 ↔ ∀ a, a < i → q.2.1 a i = 1 → d.testBit a = true ∨ ac.testBit a = true := by
  rw [mDif_0]
  constructor
  · intro h a ha hn
    exact (mOr_t _ _ _).mp (h a ((NE_t hB hi).mpr ⟨ha, hn⟩))
  · intro h a ha
    have z := (NE_t hB hi).mp ha
    exact (mOr_t _ _ _).mpr (h a z.1 z.2)
theorem CM_LW {q : mPI} {d rd ac : Nat} (hR : RDp q d rd q.1) : (mLW q d ac ↔ ac ≠ 0 ∧ CMq q d rd ac) := by
  constructor
  · intro h
    exact ⟨h.1, fun j hj => hR.2 ac h j (mBit_lt h.2.1 hj) hj, h.2.2.2.1, fun i hi a ha hn => (h.2.2.2.2 i hi a ha).2 hn⟩
  · rintro ⟨h0, h1, h2, h3⟩
    refine ⟨h0, mLt_of (fun j hj => (hR.1 j (h1 j hj)).1), fun j hj => (hR.1 j (h1 j hj)).2.1, h2, fun b hb a ha => ⟨fun hn => (hR.1 b (h1 b hb)).2.2 a ha hn, fun hn => h3 b hb a ha hn⟩⟩
theorem FI_step {Z : Nat → Prop} {sm f : Nat} (hs : mSub sm f) (hf : f < 1024) (h : ∀ t, mSub t f → t < sm → ¬ Z t) (hz : ¬ Z sm) : (mNx sm f = 0 → ∀ t, mSub t f → ¬ Z t) ∧ (¬ mNx sm f = 0 → sm < mNx sm f ∧ ∀ t, mSub t f → t < mNx sm f → ¬ Z t) := by
  have hn := mNx_up hs (by omega)
  refine ⟨fun e t ht => ?_, fun e => ?_⟩
  · rcases hn with ⟨_, h2⟩ | ⟨h1, _⟩
    · have := mSub_le ht
      by_cases c : t = sm
      · rw [c]
        exact hz
      · exact h t ht (by omega)
    · omega
  · rcases hn with ⟨h1, _⟩ | ⟨h1, h2⟩
    · exact absurd h1 e
    · refine ⟨h1, fun t ht hlt => ?_⟩
      by_cases c : t = sm
      · rw [c]
        exact hz
      · by_cases c2 : sm < t
        · have := h2 t ht c2
          omega
        · exact h t ht (by omega)
theorem mNx_le (s f : Nat) : mNx s f ≤ f := Nat.and_le_right
theorem mNx_sub (s f : Nat) : mSub (mNx s f) f := mAnd_sub _ _
theorem mOr_add : ∀ (K a b : Nat), a < 2 ^ K → (∀ i, a.testBit i = true → b.testBit i = false) → a ||| b = a + b := by
  intro K
  induction K with
  | zero =>
    intro a b ha _
    have e : a = 0 := by omega
    subst e
    rw [Nat.zero_or, Nat.zero_add]
  | succ K ih =>
    intro a b ha h
    have hp : 2 ^ (K + 1) = 2 * 2 ^ K := by rw [Nat.pow_succ]; omega
    have e1 : (a ||| b) / 2 = a / 2 ||| b / 2 := Nat.or_div_two
    have e2 : (a ||| b) % 2 = 1 ↔ a % 2 = 1 ∨ b % 2 = 1 := Nat.or_mod_two_eq_one
    have z := ih (a / 2) (b / 2) (by omega) (fun i hi => by
      rw [Nat.testBit_div_two] at hi ⊢
      exact h (i + 1) hi)
    have h0 : a % 2 = 1 → b % 2 = 0 := by
      rw [Nat.mod_two_eq_one_iff_testBit_zero, Nat.mod_two_eq_zero_iff_testBit_zero]
      exact h 0
    rw [z] at e1
    omega
/-- a set that holds ug, and what is left of it -/
theorem mSplit {t ug : Nat} (h : mSub ug t) : mDif t ug ||| ug = t := by
  apply Nat.eq_of_testBit_eq
  intro i
  rw [Nat.testBit_or, mDif_bit]
  cases hu : ug.testBit i
  · cases t.testBit i <;> rfl
  · rw [h i hu]
    rfl
theorem mSplit_sub {t ug rd : Nat} (h : mSub t rd) : mSub (mDif t ug) (mDif rd ug) := fun i hi => by
  have z := (mDif_t _ _ _).mp hi
  exact (mDif_t _ _ _).mpr ⟨h i z.1, z.2⟩
def RDx (q : mPI) (d rd : Nat) : Prop := RDp q d rd q.1
/-- the word behind d holds all that is urgent, and nothing that isn't ready -/
theorem FI_parts {q : mPI} {w : Nat → Nat} {d rd ug k s : Nat} (hW : mWB q w) (hcl : mCl q d) (hR : RDp q d rd q.1) (hU : UG w (mDif (2 ^ q.1 - 1) d) (k + 1) ug q.1) (h1 : mLW q d s) (h2 : mCF q k (d ||| s)) : mSub ug s ∧ mSub s rd := by
  refine ⟨fun i hi => ?_, fun j hj => hR.2 s h1 j (mBit_lt h1.2.1 hj) hj⟩
  obtain ⟨a1, a2, a3⟩ := (hU i).mp hi
  exact mCF_urgent hW hcl h1 h2 a1 ((mDif_t _ _ _).mp a2).2 (by omega)
theorem FI_no {q : mPI} {w : Nat → Nat} {d rd ug k : Nat} (hW : mWB q w) (hcl : mCl q d) (hR : RDp q d rd q.1) (hU : UG w (mDif (2 ^ q.1 - 1) d) (k + 1) ug q.1) (hd : ¬ d = 2 ^ q.1 - 1) (h : ∀ t, mSub t (mDif rd ug) → ¬ (mLW q d (t ||| ug) ∧ mCF q k (d ||| (t ||| ug)))) : ¬ mCF q (k + 1) d := by
  rintro (hc | ⟨s, h1, h2⟩)
  · exact hd hc
  · obtain ⟨p1, p2⟩ := FI_parts hW hcl hR hU h1 h2
    have e := mSplit p1
    refine h (mDif s ug) (mSplit_sub p2) ?_
    rw [e]
    exact ⟨h1, h2⟩
theorem FI_yes {q : mPI} {w : Nat → Nat} {d rd ug k sm : Nat} (hW : mWB q w) (hcl : mCl q d) (hR : RDp q d rd q.1) (hU : UG w (mDif (2 ^ q.1 - 1) d) (k + 1) ug q.1) (hs : mSub sm (mDif rd ug)) (h : ∀ t, mSub t (mDif rd ug) → t < sm → ¬ (mLW q d (t ||| ug) ∧ mCF q k (d ||| (t ||| ug)))) (h1 : mLW q d (sm ||| ug)) (h2 : mCF q k (d ||| (sm ||| ug))) : mLS q k d (sm ||| ug) := by
  refine ⟨h1, h2, fun t ht hz => ?_⟩
  obtain ⟨p1, p2⟩ := FI_parts hW hcl hR hU hz.1 hz.2
  have e := mSplit p1
  have hd1 : ∀ i, (mDif t ug).testBit i = true → ug.testBit i = false := fun i hi => ((mDif_t _ _ _).mp hi).2
  have hd2 : ∀ i, sm.testBit i = true → ug.testBit i = false := fun i hi => ((mDif_t _ _ _).mp (hs i hi)).2
  have e1 := mOr_add (mDif t ug) (mDif t ug) ug Nat.lt_two_pow_self hd1
  have e2 := mOr_add sm sm ug Nat.lt_two_pow_self hd2
  refine h (mDif t ug) (mSplit_sub p2) (by omega) ?_
  rw [e]
  exact hz
def TF (q : mPI) (tf : Nat → Nat) : Prop := ∀ d, d < 2 ^ q.1 → tf d ≤ 10 ∧ (¬ d = 2 ^ q.1 - 1 → ¬ mCF q (tf d) d)
theorem TF_upd {q : mPI} {tf : Nat → Nat} {d k : Nat} (h : TF q tf) (hk : k ≤ 10) (hn : ¬ mCF q k d) : TF q (mUpd tf d k) := by
  intro e he
  by_cases c : e = d
  · subst c
    rw [mUpd_s]
    exact ⟨hk, fun _ => hn⟩
  · rw [mUpd_n c]
    exact h e he
theorem TF_no {q : mPI} {tf : Nat → Nat} {d k : Nat} (h : TF q tf) (hd : d < 2 ^ q.1) (hf : ¬ d = 2 ^ q.1 - 1) (hk : k ≤ tf d) : ¬ mCF q k d := fun hc => (h d hd).2 hf (mCF_le q hk hc)
theorem mCF_full (q : mPI) : ∀ k, mCF q k (2 ^ q.1 - 1)
  | 0 => rfl
  | _ + 1 => Or.inl rfl
theorem mPC_full (q : mPI) (A : Nat → Nat) (w : Nat) : ∀ k, mPC q A k (2 ^ q.1 - 1) w
  | 0 => rfl
  | _ + 1 => Or.inl rfl
