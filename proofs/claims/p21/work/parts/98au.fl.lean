-- THE STORE: fields, as a scan over the acts of the places: act t is the act t % 10 of place t / 10
/-- the field of act b of a word with acts m, of row r -/
def fld (K : Nat → Int32) (r m b : Nat) : Nat := if pN (K (r * 10 + b)) = 0 then pcn (iP K r) m 0 b else 2 + pN (K (r * 10 + b))
def prT (ms : Nat → Nat) (t : Nat) : Prop := (ms (t / 10)).testBit (t % 10) = true
def ftT (K : Nat → Int32) (ow ms : Nat → Nat) (t : Nat) : Nat := fld K (ow (t / 10)) (ms (t / 10)) (t % 10)
def slT (ow : Nat → Nat) (t : Nat) : Nat := ow (t / 10) * 10 + t % 10
theorem tdiv {p b : Nat} (h : b < 10) : (p * 10 + b) / 10 = p ∧ (p * 10 + b) % 10 = b := by omega
theorem prT_at {ms : Nat → Nat} {p b : Nat} (h : b < 10) : prT ms (p * 10 + b) ↔ (ms p).testBit b = true := by
  unfold prT
  rw [(tdiv h).1, (tdiv h).2]
theorem ftT_at {K : Nat → Int32} {ow ms : Nat → Nat} {p b : Nat} (h : b < 10) : ftT K ow ms (p * 10 + b) = fld K (ow p) (ms p) b := by
  unfold ftT
  rw [(tdiv h).1, (tdiv h).2]
theorem slT_at {ow : Nat → Nat} {p b : Nat} (h : b < 10) : slT ow (p * 10 + b) = ow p * 10 + b := by
  unfold slT
  rw [(tdiv h).1, (tdiv h).2]
theorem aEq_r {K D X Y : Nat → Int32} {a : Nat} : aEq K D X Y a a := ⟨rfl, rfl, rfl, rfl⟩
theorem aEq_s {K D X Y : Nat → Int32} {a b : Nat} (h : aEq K D X Y a b) : aEq K D X Y b a := ⟨h.1.symm, h.2.1.symm, h.2.2.1.symm, h.2.2.2.symm⟩
theorem aEq_t {K D X Y : Nat → Int32} {a b c : Nat} (h : aEq K D X Y a b) (g : aEq K D X Y b c) : aEq K D X Y a c := ⟨h.1.trans g.1, h.2.1.trans g.2.1, h.2.2.1.trans g.2.2.1, h.2.2.2.trans g.2.2.2⟩
/-- act t is new in its field -/
def nwT (AE : Nat → Nat → Prop) (pr : Nat → Prop) (ft sl : Nat → Nat) (t : Nat) : Prop := pr t ∧ ∀ u, u < t → pr u → ft u = ft t → ¬ AE (sl u) (sl t)
/-- different acts in field f among the first n -/
noncomputable def dfT (AE : Nat → Nat → Prop) (pr : Nat → Prop) (ft sl : Nat → Nat) (f n : Nat) : Nat :=
  match n with
  | 0 => 0
  | n + 1 => dfT AE pr ft sl f n + @ite Nat (nwT AE pr ft sl n ∧ ft n = f) (Classical.propDecidable _) 1 0
termination_by n
theorem dfT_0 {AE : Nat → Nat → Prop} {pr : Nat → Prop} {ft sl : Nat → Nat} {f : Nat} : dfT AE pr ft sl f 0 = 0 := by rw [dfT]
theorem dfT_y {AE : Nat → Nat → Prop} {pr : Nat → Prop} {ft sl : Nat → Nat} {f n : Nat} (h : nwT AE pr ft sl n ∧ ft n = f) : dfT AE pr ft sl f (n + 1) = dfT AE pr ft sl f n + 1 := by
  rw [dfT, if_pos h]
theorem dfT_n {AE : Nat → Nat → Prop} {pr : Nat → Prop} {ft sl : Nat → Nat} {f n : Nat} (h : ¬ (nwT AE pr ft sl n ∧ ft n = f)) : dfT AE pr ft sl f (n + 1) = dfT AE pr ft sl f n := by
  rw [dfT, if_neg h, Nat.add_zero]
theorem dfT_gap {AE : Nat → Nat → Prop} {pr : Nat → Prop} {ft sl : Nat → Nat} {f i : Nat} : ∀ n, i ≤ n → (∀ t, i ≤ t → t < n → ¬ (nwT AE pr ft sl t ∧ ft t = f)) → dfT AE pr ft sl f n = dfT AE pr ft sl f i
  | 0, h, _ => by rw [show i = 0 by omega]
  | n + 1, h, hg => by
    by_cases c : i = n + 1
    · rw [c]
    · rw [dfT_n (hg n (by omega) (by omega))]
      exact dfT_gap n (by omega) (fun t h1 h2 => hg t h1 (by omega))
/-- what is seen of the first t acts -/
def SEt (AE : Nat → Nat → Prop) (pr : Nat → Prop) (ft sl : Nat → Nat) (t : Nat) (sS : Nat → Nat) (sF : Nat → Int32) (dF : Nat → Nat) (sn : Nat) : Prop := (∀ u, u < t → pr u → ∃ i, i < sn ∧ sF i = nI (ft u) ∧ AE (sS i) (sl u)) ∧ (∀ i, i < sn → ∃ v, v < t ∧ pr v ∧ sF i = nI (ft v) ∧ sS i = sl v) ∧ ∀ f, f < 7 → dF f = dfT AE pr ft sl f t
theorem SEt_0 {AE : Nat → Nat → Prop} {pr : Nat → Prop} {ft sl : Nat → Nat} {sS : Nat → Nat} {sF : Nat → Int32} : SEt AE pr ft sl 0 sS sF (fun _ => 0) 0 := ⟨fun u h => absurd h (Nat.not_lt_zero u), fun i h => absurd h (Nat.not_lt_zero i), fun f _ => dfT_0.symm⟩
def ADx (AE : Nat → Nat → Prop) (sn sn' : Nat) (sS sS' : Nat → Nat) (sF sF' : Nat → Int32) (dF dF' : Nat → Nat) (sl fd : Nat) : Prop := ((∃ i, i < sn ∧ sF i = nI fd ∧ AE (sS i) sl) ∧ sn' = sn ∧ sS' = sS ∧ sF' = sF ∧ dF' = dF) ∨ ((∀ i, i < sn → ¬ (sF i = nI fd ∧ AE (sS i) sl)) ∧ sn' = sn + 1 ∧ sS' = mUpd sS sn sl ∧ sF' = upd sF sn (nI fd) ∧ dF' = mUpd dF fd (dF fd + 1))
theorem ADx_D {AE : Nat → Nat → Prop} {sn sn' : Nat} {sS sS' dF dF' : Nat → Nat} {sF sF' : Nat → Int32} {sl fd : Nat} (h : ADx AE sn sn' sS sS' sF sF' dF dF' sl fd) : ADD sn sn' sS sS' dF dF' sl fd := by
  rcases h with ⟨_, h1, h2, _, h3⟩ | ⟨_, h1, h2, _, h3⟩
  · exact Or.inl ⟨h1, h2, h3⟩
  · exact Or.inr ⟨h1, h2, h3⟩
theorem SEt_no {AE : Nat → Nat → Prop} {pr : Nat → Prop} {ft sl : Nat → Nat} {t sn : Nat} {sS dF : Nat → Nat} {sF : Nat → Int32} (h : SEt AE pr ft sl t sS sF dF sn) (hn : ¬ pr t) : SEt AE pr ft sl (t + 1) sS sF dF sn := by
  obtain ⟨h1, h2, h3⟩ := h
  refine ⟨fun u hu hp => ?_, fun i hi => ?_, fun f hf => ?_⟩
  · by_cases e : u = t
    · rw [e] at hp
      exact absurd hp hn
    · exact h1 u (by omega) hp
  · obtain ⟨v, a1, a2⟩ := h2 i hi
    exact ⟨v, by omega, a2⟩
  · rw [dfT_n (fun z => hn z.1.1)]
    exact h3 f hf
theorem SEt_add {AE : Nat → Nat → Prop} {pr : Nat → Prop} {ft sl : Nat → Nat} {t sn sn' a fd : Nat} {sS dF sS' dF' : Nat → Nat} {sF sF' : Nat → Int32} (hr : ∀ x, AE x x) (ht : ∀ x y z, AE x y → AE y z → AE x z) (hb : ∀ u, ft u < 100) (h : SEt AE pr ft sl t sS sF dF sn) (hp : pr t) (ha : a = sl t) (hf : fd = ft t) (hA : ADx AE sn sn' sS sS' sF sF' dF dF' a fd) : SEt AE pr ft sl (t + 1) sS' sF' dF' sn' := by
  obtain ⟨h1, h2, h3⟩ := h
  subst ha hf
  have inj : ∀ u v, nI (ft u) = nI (ft v) → ft u = ft v := fun u v z => (nI_eq (by have := hb u; omega) (by have := hb v; omega)).mp z
  rcases hA with ⟨⟨i, i1, i2, i3⟩, e1, e2, e3, e4⟩ | ⟨hn, e1, e2, e3, e4⟩
  · subst e1 e2 e3 e4
    refine ⟨fun u hu hpu => ?_, fun j hj => ?_, fun f hf => ?_⟩
    · by_cases e : u = t
      · subst e
        exact ⟨i, i1, i2, i3⟩
      · exact h1 u (by omega) hpu
    · obtain ⟨v, a1, a2⟩ := h2 j hj
      exact ⟨v, by omega, a2⟩
    · obtain ⟨v, a1, a2, a3, a4⟩ := h2 i i1
      rw [dfT_n (fun z => z.1.2 v a1 a2 (inj _ _ (a3.symm.trans i2)) (by rw [← a4]; exact i3))]
      exact h3 f hf
  · subst e1 e2 e3 e4
    have nw : nwT AE pr ft sl t := ⟨hp, fun u hu hpu hfu z => by
      obtain ⟨i, i1, i2, i3⟩ := h1 u hu hpu
      exact hn i i1 ⟨by rw [i2, hfu], ht _ _ _ i3 z⟩⟩
    refine ⟨fun u hu hpu => ?_, fun j hj => ?_, fun f hf => ?_⟩
    · by_cases e : u = t
      · subst e
        exact ⟨sn, by omega, pk_us, by rw [mUpd_s]; exact hr _⟩
      · obtain ⟨i, i1, i2, i3⟩ := h1 u (by omega) hpu
        have ne : i ≠ sn := by omega
        exact ⟨i, by omega, by rw [pk_un ne]; exact i2, by rw [mUpd_n ne]; exact i3⟩
    · by_cases e : j = sn
      · subst e
        exact ⟨t, by omega, hp, pk_us, mUpd_s⟩
      · obtain ⟨v, a1, a2, a3, a4⟩ := h2 j (by omega)
        exact ⟨v, by omega, a2, by rw [pk_un e]; exact a3, by rw [mUpd_n e]; exact a4⟩
    · by_cases e : f = ft t
      · subst e
        rw [mUpd_s, dfT_y ⟨nw, rfl⟩, h3 _ hf]
      · rw [mUpd_n e, dfT_n (fun z => e z.2.symm)]
        exact h3 f hf
theorem pcn_l9 (P : Nat → Nat) (m t : Nat) : ∀ b, pcn P m t b ≤ b
  | 0 => Nat.le_refl 0
  | b + 1 => by
    have ih := pcn_l9 P m t b
    show pcn P m t b + _ ≤ b + 1
    split <;> omega
theorem pN_l (k : Int32) : pN k ≤ 4 := by
  unfold pN
  by_cases h : k.toNatClampNeg < 11
  · rcases (show k.toNatClampNeg = 0 ∨ k.toNatClampNeg = 1 ∨ k.toNatClampNeg = 2 ∨ k.toNatClampNeg = 3 ∨ k.toNatClampNeg = 4 ∨ k.toNatClampNeg = 5 ∨ k.toNatClampNeg = 6 ∨ k.toNatClampNeg = 7 ∨ k.toNatClampNeg = 8 ∨ k.toNatClampNeg = 9 ∨ k.toNatClampNeg = 10 by omega) with e | e | e | e | e | e | e | e | e | e | e <;> rw [e] <;> decide
  · rw [List.getD_eq_getElem?_getD, List.getElem?_eq_none (by show 11 ≤ _; omega)]
    decide
theorem ftT_lt {K : Nat → Int32} {ow ms : Nat → Nat} (t : Nat) : ftT K ow ms t < 100 := by
  unfold ftT fld
  have h1 := pcn_l9 (iP K (ow (t / 10))) (ms (t / 10)) 0 (t % 10)
  have h2 := pN_l (K (ow (t / 10) * 10 + t % 10))
  split <;> omega
/-- the fields of place p that have an act -/
def prs (pr : Nat → Prop) (ft : Nat → Nat) (p f : Nat) : Prop := ∃ b, b < 10 ∧ pr (p * 10 + b) ∧ ft (p * 10 + b) = f
def pmT (pr : Nat → Prop) (ft : Nat → Nat) (p k pm : Nat) : Prop := pm < 128 ∧ ∀ f, pm.testBit f = true ↔ ∃ b, b < k ∧ pr (p * 10 + b) ∧ ft (p * 10 + b) = f
theorem pmT_0 {pr : Nat → Prop} {ft : Nat → Nat} {p : Nat} : pmT pr ft p 0 0 := ⟨by decide, fun f => ⟨fun z => by rw [Nat.zero_testBit] at z; exact absurd z (by decide), fun ⟨b, h, _⟩ => absurd h (Nat.not_lt_zero b)⟩⟩
theorem pmT_no {pr : Nat → Prop} {ft : Nat → Nat} {p k pm : Nat} (h : pmT pr ft p k pm) (hn : ¬ pr (p * 10 + k)) : pmT pr ft p (k + 1) pm := by
  refine ⟨h.1, fun f => ?_⟩
  rw [h.2 f]
  constructor
  · rintro ⟨b, h1, h2⟩
    exact ⟨b, by omega, h2⟩
  · rintro ⟨b, h1, h2, h3⟩
    by_cases e : b = k
    · rw [e] at h2
      exact absurd h2 hn
    · exact ⟨b, by omega, h2, h3⟩
theorem pmT_in {pr : Nat → Prop} {ft : Nat → Nat} {p k pm fd : Nat} (h : pmT pr ft p k pm) (hy : pr (p * 10 + k)) (hf : fd = ft (p * 10 + k)) (h7 : fd < 7) : pmT pr ft p (k + 1) (pm ||| 2 ^ fd) := by
  refine ⟨mm_or_lt (n := 7) h.1 (Nat.pow_lt_pow_right (by decide) h7), fun f => ?_⟩
  rw [mOr_t, mPow_t, h.2 f]
  constructor
  · rintro (⟨b, h1, h2⟩ | e)
    · exact ⟨b, by omega, h2⟩
    · exact ⟨k, by omega, hy, by omega⟩
  · rintro ⟨b, h1, h2, h3⟩
    by_cases e : b = k
    · subst e
      exact Or.inr (by omega)
    · exact Or.inl ⟨b, by omega, h2, h3⟩
/-- two fields meet in one of the first n places -/
def meT (pr : Nat → Prop) (ft : Nat → Nat) (n f g : Nat) : Prop := ∃ p, p < n ∧ prs pr ft p f ∧ prs pr ft p g
theorem meT_s {pr : Nat → Prop} {ft : Nat → Nat} {n f g : Nat} : meT pr ft (n + 1) f g ↔ meT pr ft n f g ∨ (prs pr ft n f ∧ prs pr ft n g) := by
  constructor
  · rintro ⟨p, h1, h2⟩
    by_cases e : p = n
    · subst e
      exact Or.inr h2
    · exact Or.inl ⟨p, by omega, h2⟩
  · rintro (⟨p, h1, h2⟩ | h)
    · exact ⟨p, by omega, h2⟩
    · exact ⟨n, by omega, h⟩
theorem meT_0 {pr : Nat → Prop} {ft : Nat → Nat} {f g : Nat} : ¬ meT pr ft 0 f g := fun ⟨p, h, _⟩ => absurd h (Nat.not_lt_zero p)
/-- the class's meetings -/
def MEc (pr : Nat → Prop) (ft : Nat → Nat) (n : Nat) (mt : Nat → Nat) : Prop := ∀ f, f < 7 → mt f < 128 ∧ ∀ g, (mt f).testBit g = true ↔ meT pr ft n f g
theorem MEc_0 {pr : Nat → Prop} {ft : Nat → Nat} : MEc pr ft 0 (fun _ => 0) := fun f _ => ⟨(show (0 : Nat) < 128 by decide), fun g => ⟨fun z => by rw [Nat.zero_testBit] at z; exact absurd z (by decide), fun z => absurd z meT_0⟩⟩
theorem MEc_s {pr : Nat → Prop} {ft : Nat → Nat} {n pm : Nat} {mt mt' : Nat → Nat} (h : MEc pr ft n mt) (hp : pmT pr ft n 10 pm) (h' : ∀ f, f < 7 → mt' f = if pm.testBit f = true then mt f ||| pm else mt f) : MEc pr ft (n + 1) mt' := by
  intro f hf
  obtain ⟨a1, a2⟩ := h f hf
  rw [h' f hf]
  by_cases c : pm.testBit f = true
  · rw [if_pos c]
    refine ⟨mm_or_lt (n := 7) a1 hp.1, fun g => ?_⟩
    rw [mOr_t, a2 g, hp.2 g, meT_s]
    constructor
    · rintro (z | z)
      · exact Or.inl z
      · exact Or.inr ⟨(hp.2 f).mp c, z⟩
    · rintro (z | z)
      · exact Or.inl z
      · exact Or.inr z.2
  · rw [if_neg c]
    refine ⟨a1, fun g => ?_⟩
    rw [a2 g, meT_s]
    constructor
    · exact Or.inl
    · rintro (z | z)
      · exact z
      · exact absurd ((hp.2 f).mpr z.1) c
/-- the reference's meetings: of others alone -/
def MEr (pr : Nat → Prop) (ft : Nat → Nat) (n : Nat) (mt : Nat → Nat) : Prop := ∀ f, f < 7 → mt f < 128 ∧ ∀ g, g < 7 → ((mt f).testBit g = true ↔ g ≠ f ∧ meT pr ft n f g)
theorem MEr_0 {pr : Nat → Prop} {ft : Nat → Nat} {mt : Nat → Nat} (h : ∀ f, f < 7 → mt f = 0) : MEr pr ft 0 mt := fun f hf => by
  rw [h f hf]
  exact ⟨by decide, fun g _ => ⟨fun z => by rw [Nat.zero_testBit] at z; exact absurd z (by decide), fun z => absurd z.2 meT_0⟩⟩
/-- groups: how many, the group of each field, acts of each group -/
abbrev GS := Nat × (Nat → Int32) × (Nat → Nat)
def gPf (go : Nat → Int32) (mt : Nat → Nat → Prop) (f g : Nat) : Prop := ∀ f', f' < f → go f' = nI g → ¬ mt f f'
noncomputable def gsS (dF : Nat → Nat) (mt : Nat → Nat → Prop) (S : GS) (f : Nat) : GS := if dF f = 0 then S else ((if S.1 < fpP (gPf S.2.1 mt f) S.1 + 1 then fpP (gPf S.2.1 mt f) S.1 + 1 else S.1), upd S.2.1 f (nI (fpP (gPf S.2.1 mt f) S.1)), mUpd S.2.2 (fpP (gPf S.2.1 mt f) S.1) (S.2.2 (fpP (gPf S.2.1 mt f) S.1) + dF f))
noncomputable def gsT (dF : Nat → Nat) (mt : Nat → Nat → Prop) (n : Nat) : GS :=
  match n with
  | 0 => (0, fun _ => -1, fun _ => 0)
  | n + 1 => gsS dF mt (gsT dF mt n) n
termination_by n
theorem gsT_0 {dF : Nat → Nat} {mt : Nat → Nat → Prop} : gsT dF mt 0 = (0, fun _ => -1, fun _ => 0) := by rw [gsT]
theorem gsT_s {dF : Nat → Nat} {mt : Nat → Nat → Prop} {n : Nat} : gsT dF mt (n + 1) = gsS dF mt (gsT dF mt n) n := by rw [gsT]
theorem gsS_z {dF : Nat → Nat} {mt : Nat → Nat → Prop} {S : GS} {f : Nat} (h : dF f = 0) : gsS dF mt S f = S := by
  unfold gsS
  rw [if_pos h]
theorem gsS_g {dF : Nat → Nat} {mt : Nat → Nat → Prop} {S : GS} {f g : Nat} (h : ¬ dF f = 0) (hg : fpP (gPf S.2.1 mt f) S.1 = g) : gsS dF mt S f = ((if S.1 < g + 1 then g + 1 else S.1), upd S.2.1 f (nI g), mUpd S.2.2 g (S.2.2 g + dF f)) := by
  unfold gsS
  rw [if_neg h, hg]
def gsok (S : GS) (n : Nat) : Prop := S.1 ≤ n ∧ (∀ f, n ≤ f → S.2.1 f = -1) ∧ ∀ g, S.1 ≤ g → S.2.2 g = 0
theorem gsT_ok {dF : Nat → Nat} {mt : Nat → Nat → Prop} : ∀ n, gsok (gsT dF mt n) n
  | 0 => by
    rw [gsT_0]
    exact ⟨Nat.le_refl _, fun _ _ => rfl, fun _ _ => rfl⟩
  | n + 1 => by
    obtain ⟨h1, h2, h3⟩ := gsT_ok (dF := dF) (mt := mt) n
    rw [gsT_s]
    by_cases c : dF n = 0
    · rw [gsS_z c]
      exact ⟨by omega, fun f hf => h2 f (by omega), h3⟩
    · have hg := fp_le (M := gPf (gsT dF mt n).2.1 mt n) (gsT dF mt n).1
      rw [gsS_g c rfl]
      refine ⟨?_, fun f hf => ?_, fun g hgg => ?_⟩
      · have k : ∀ a b : Nat, a ≤ n → b ≤ a → (if a < b + 1 then b + 1 else a) ≤ n + 1 := by
          intro a b q1 q2
          split <;> omega
        exact k _ _ h1 hg
      · show upd _ n _ f = -1
        rw [pk_un (by omega)]
        exact h2 f (by omega)
      · have hgg : (if (gsT dF mt n).1 < fpP (gPf (gsT dF mt n).2.1 mt n) (gsT dF mt n).1 + 1 then fpP (gPf (gsT dF mt n).2.1 mt n) (gsT dF mt n).1 + 1 else (gsT dF mt n).1) ≤ g := hgg
        show mUpd _ _ _ g = 0
        have k1 : fpP (gPf (gsT dF mt n).2.1 mt n) (gsT dF mt n).1 < g ∧ (gsT dF mt n).1 ≤ g := by
          split at hgg <;> omega
        rw [mUpd_n (by omega)]
        exact h3 g k1.2
theorem gsT_c {dF dF' : Nat → Nat} {mt mt' : Nat → Nat → Prop} : ∀ n, (∀ f, f < n → dF f = dF' f) → (∀ f g, f < n → g < f → (mt f g ↔ mt' f g)) → gsT dF mt n = gsT dF' mt' n
  | 0, _, _ => by rw [gsT_0, gsT_0]
  | n + 1, h1, h2 => by
    have ih := gsT_c n (fun f hf => h1 f (by omega)) (fun f g hf hg => h2 f g (by omega) hg)
    have e : fpP (gPf (gsT dF mt n).2.1 mt n) (gsT dF mt n).1 = fpP (gPf (gsT dF mt n).2.1 mt' n) (gsT dF mt n).1 := by
      refine fp_c _ (fun g _ => ?_)
      unfold gPf
      constructor
      · exact fun z f hf q w => z f hf q ((h2 n f (by omega) hf).mpr w)
      · exact fun z f hf q w => z f hf q ((h2 n f (by omega) hf).mp w)
    rw [gsT_s, gsT_s, ← ih]
    unfold gsS
    rw [h1 n (by omega), e]
theorem mAnd_0 {a b : Nat} : a &&& b = 0 ↔ ∀ k, a.testBit k = true → ¬ b.testBit k = true := by
  constructor
  · intro h k h1 h2
    have z := (mAnd_t a b k).mpr ⟨h1, h2⟩
    rw [h, Nat.zero_testBit] at z
    exact absurd z (by decide)
  · intro h
    apply Nat.eq_of_testBit_eq
    intro k
    rw [Nat.zero_testBit]
    apply mBF.mp
    intro z
    have z := (mAnd_t a b k).mp z
    exact h k z.1 z.2
theorem nI_n1 {g : Nat} (h : g < 100) : ¬ (-1 : Int32) = nI g := by
  intro z
  have z := (fa_eq _ _).mp z
  rw [nI_toInt (by omega)] at z
  have : ((-1 : Int32)).toInt = -1 := rfl
  omega
/-- the class's groups of the fields below i -/
def GRc (S : GS) (i gr : Nat) (g0 : Nat → Int32) (fo aG : Nat → Nat) : Prop := gr = S.1 ∧ (∀ f, f < i → g0 f = S.2.1 f) ∧ (∀ g, g < 7 → aG g = S.2.2 g) ∧ ∀ g, g < 7 → fo g < 128 ∧ ∀ f, (fo g).testBit f = true ↔ f < i ∧ S.2.1 f = nI g
theorem GRc_0 {dF : Nat → Nat} {mt : Nat → Nat → Prop} {g0 : Nat → Int32} : GRc (gsT dF mt 0) 0 0 g0 (fun _ => 0) (fun _ => 0) := by
  rw [gsT_0]
  exact ⟨rfl, fun f h => absurd h (Nat.not_lt_zero f), fun _ _ => rfl, fun g _ => ⟨(show (0 : Nat) < 128 by decide), fun f => ⟨fun z => by rw [Nat.zero_testBit] at z; exact absurd z (by decide), fun z => absurd z.1 (Nat.not_lt_zero f)⟩⟩⟩
theorem GRc_z {dF : Nat → Nat} {mt : Nat → Nat → Prop} {i gr : Nat} {g0 : Nat → Int32} {fo aG : Nat → Nat} {v : Int32} (h : GRc (gsT dF mt i) i gr g0 fo aG) (hd : dF i = 0) (hv : v = -1) : GRc (gsT dF mt (i + 1)) (i + 1) gr (upd g0 i v) fo aG := by
  have ok := gsT_ok (dF := dF) (mt := mt) i
  rw [gsT_s, gsS_z hd]
  obtain ⟨h1, h2, h3, h4⟩ := h
  refine ⟨h1, fun f hf => ?_, h3, fun g hg => ⟨(h4 g hg).1, fun f => ?_⟩⟩
  · by_cases e : f = i
    · rw [e, pk_us, hv]
      exact (ok.2.1 i (Nat.le_refl i)).symm
    · rw [pk_un e]
      exact h2 f (by omega)
  · rw [(h4 g hg).2 f]
    constructor
    · exact fun z => ⟨by omega, z.2⟩
    · intro z
      by_cases e : f = i
      · have z2 := z.2
        rw [e, ok.2.1 i (Nat.le_refl i)] at z2
        exact absurd z2 (nI_n1 (by omega))
      · exact ⟨by omega, z.2⟩
theorem GRc_P {dF : Nat → Nat} {mt : Nat → Nat → Prop} {i gr m g : Nat} {g0 : Nat → Int32} {fo aG : Nat → Nat} (h : GRc (gsT dF mt i) i gr g0 fo aG) (hm : ∀ k, m.testBit k = true ↔ mt i k) (hg : g < 7) : fo g &&& m = 0 ↔ gPf (gsT dF mt i).2.1 mt i g := by
  rw [mAnd_0]
  unfold gPf
  constructor
  · intro z f hf q w
    exact z f (((h.2.2.2 g hg).2 f).mpr ⟨hf, q⟩) ((hm f).mpr w)
  · intro z f h1 h2
    obtain ⟨a, b⟩ := ((h.2.2.2 g hg).2 f).mp h1
    exact z f a b ((hm f).mp h2)
theorem GRc_s {dF : Nat → Nat} {mt : Nat → Nat → Prop} {i gr m g9 : Nat} {g0 : Nat → Int32} {fo aG : Nat → Nat} {v : Int32} (h : GRc (gsT dF mt i) i gr g0 fo aG) (hi : i < 7) (hgr : gr ≤ i) (hd : ¬ dF i = 0) (hm : ∀ k, m.testBit k = true ↔ mt i k) (h9 : g9 ≤ gr) (ha : ∀ g, g < g9 → ¬ fo g &&& m = 0) (hb : g9 < gr → fo g9 &&& m = 0) : GRc (gsT dF mt (i + 1)) (i + 1) (if gr < g9 + 1 then g9 + 1 else gr) (upd (upd g0 i v) i (nI g9)) (mUpd fo g9 (fo g9 ||| 2 ^ i)) (mUpd aG g9 (aG g9 + dF i)) := by
  have hP := fun g hg => GRc_P (g := g) h hm hg
  obtain ⟨h1, h2, h3, h4⟩ := h
  have efp : fpP (gPf (gsT dF mt i).2.1 mt i) (gsT dF mt i).1 = g9 := by
    rw [← h1]
    by_cases c : g9 < gr
    · exact fp_is ((hP g9 (by omega)).mp (hb c)) (fun p hp z => ha p hp ((hP p (by omega)).mpr z)) gr c
    · rw [show g9 = gr by omega]
      exact fp_no gr (fun p hp z => ha p (by omega) ((hP p (by omega)).mpr z))
  rw [gsT_s, gsS_g hd efp, ← h1]
  refine ⟨rfl, fun f hf => ?_, fun g hg => ?_, fun g hg => ?_⟩
  · show upd (upd g0 i v) i (nI g9) f = upd _ i (nI g9) f
    by_cases e : f = i
    · rw [e, pk_us, pk_us]
    · rw [pk_un e, pk_un e, pk_un e]
      exact h2 f (by omega)
  · show mUpd aG g9 (aG g9 + dF i) g = mUpd _ g9 _ g
    by_cases e : g = g9
    · rw [e, mUpd_s, mUpd_s, h3 g9 (by omega)]
    · rw [mUpd_n e, mUpd_n e]
      exact h3 g hg
  · show mUpd fo g9 (fo g9 ||| 2 ^ i) g < 128 ∧ ∀ f, (mUpd fo g9 (fo g9 ||| 2 ^ i) g).testBit f = true ↔ f < i + 1 ∧ upd (gsT dF mt i).2.1 i (nI g9) f = nI g
    obtain ⟨k1, k2⟩ := h4 g hg
    by_cases e : g = g9
    · subst e
      rw [mUpd_s]
      refine ⟨mm_or_lt (n := 7) k1 (Nat.pow_lt_pow_right (by decide) hi), fun f => ?_⟩
      rw [mOr_t, mPow_t, k2 f]
      by_cases d : f = i
      · subst d
        rw [pk_us]
        exact ⟨fun _ => ⟨by omega, rfl⟩, fun _ => Or.inr rfl⟩
      · rw [pk_un d]
        constructor
        · rintro (z | z)
          · exact ⟨by omega, z.2⟩
          · omega
        · exact fun z => Or.inl ⟨by omega, z.2⟩
    · rw [mUpd_n e]
      refine ⟨k1, fun f => ?_⟩
      rw [k2 f]
      by_cases d : f = i
      · subst d
        rw [pk_us]
        constructor
        · exact fun z => absurd z.1 (by omega)
        · intro z
          exact absurd ((nI_eq (by omega) (by omega)).mp z.2).symm e
      · rw [pk_un d]
        constructor
        · exact fun z => ⟨by omega, z.2⟩
        · exact fun z => ⟨by omega, z.2⟩
/-- the reference's -/
def GRr (S : GS) (i gr : Nat) (g0 : Nat → Int32) (gA : Nat → Nat) : Prop := gr = S.1 ∧ (∀ f, f < i → g0 f = S.2.1 f) ∧ ∀ g, g < gr → gA g = S.2.2 g
theorem GRr_0 {dF : Nat → Nat} {mt : Nat → Nat → Prop} {g0 : Nat → Int32} {gA : Nat → Nat} : GRr (gsT dF mt 0) 0 0 g0 gA := by
  rw [gsT_0]
  exact ⟨rfl, fun f h => absurd h (Nat.not_lt_zero f), fun g h => absurd h (Nat.not_lt_zero g)⟩
theorem GRr_z {dF : Nat → Nat} {mt : Nat → Nat → Prop} {i gr : Nat} {g0 : Nat → Int32} {gA : Nat → Nat} {v : Int32} (h : GRr (gsT dF mt i) i gr g0 gA) (hd : dF i = 0) (hv : v = -1) : GRr (gsT dF mt (i + 1)) (i + 1) gr (upd g0 i v) gA := by
  have ok := gsT_ok (dF := dF) (mt := mt) i
  rw [gsT_s, gsS_z hd]
  obtain ⟨h1, h2, h3⟩ := h
  refine ⟨h1, fun f hf => ?_, h3⟩
  by_cases e : f = i
  · rw [e, pk_us, hv]
    exact (ok.2.1 i (Nat.le_refl i)).symm
  · rw [pk_un e]
    exact h2 f (by omega)
/-- field f meets one of group g -/
def iMt (g0 : Nat → Int32) (m f g : Nat) : Prop := ∃ f', f' < f ∧ g0 f' = nI g ∧ m.testBit f' = true
theorem GRr_f {dF : Nat → Nat} {mt : Nat → Nat → Prop} {i gr m g9 : Nat} {g0 : Nat → Int32} {gA : Nat → Nat} {v : Int32} (h : GRr (gsT dF mt i) i gr g0 gA) (hm : ∀ k, k < i → (m.testBit k = true ↔ mt i k)) (h9 : g9 ≤ gr) (ha : ∀ g, g < g9 → iMt (upd g0 i v) m i g) (hb : g9 < gr → ¬ iMt (upd g0 i v) m i g9) : fpP (gPf (gsT dF mt i).2.1 mt i) (gsT dF mt i).1 = g9 := by
  obtain ⟨h1, h2, h3⟩ := h
  have hP : ∀ g, ¬ iMt (upd g0 i v) m i g ↔ gPf (gsT dF mt i).2.1 mt i g := by
    intro g
    unfold gPf iMt
    constructor
    · intro z f hf q w
      exact z ⟨f, hf, by rw [pk_un (by omega), h2 f hf]; exact q, (hm f hf).mpr w⟩
    · rintro z ⟨f, hf, q, w⟩
      rw [pk_un (by omega), h2 f hf] at q
      exact z f hf q ((hm f hf).mp w)
  rw [← h1]
  by_cases c : g9 < gr
  · exact fp_is ((hP g9).mp (hb c)) (fun p hp z => (hP p).mpr z (ha p hp)) gr c
  · rw [show g9 = gr by omega]
    exact fp_no gr (fun p hp z => (hP p).mpr z (ha p (by omega)))
theorem GRr_o {dF : Nat → Nat} {mt : Nat → Nat → Prop} {i gr g9 : Nat} {g0 : Nat → Int32} {gA : Nat → Nat} {v : Int32} (h : GRr (gsT dF mt i) i gr g0 gA) (hd : ¬ dF i = 0) (e : fpP (gPf (gsT dF mt i).2.1 mt i) (gsT dF mt i).1 = g9) (h9 : g9 < gr) : GRr (gsT dF mt (i + 1)) (i + 1) gr (upd (upd g0 i v) i (nI g9)) (mUpd gA g9 (gA g9 + dF i)) := by
  obtain ⟨h1, h2, h3⟩ := h
  rw [gsT_s, gsS_g hd e, ← h1, if_neg (by omega)]
  refine ⟨rfl, fun f hf => ?_, fun g hg => ?_⟩
  · show upd (upd g0 i v) i (nI g9) f = upd _ i (nI g9) f
    by_cases e : f = i
    · rw [e, pk_us, pk_us]
    · rw [pk_un e, pk_un e, pk_un e]
      exact h2 f (by omega)
  · show mUpd gA g9 (gA g9 + dF i) g = mUpd _ g9 _ g
    by_cases e : g = g9
    · rw [e, mUpd_s, mUpd_s, h3 g9 (by omega)]
    · rw [mUpd_n e, mUpd_n e]
      exact h3 g hg
theorem GRr_n {dF : Nat → Nat} {mt : Nat → Nat → Prop} {i gr g9 : Nat} {g0 : Nat → Int32} {gA : Nat → Nat} {v : Int32} (h : GRr (gsT dF mt i) i gr g0 gA) (hd : ¬ dF i = 0) (e : fpP (gPf (gsT dF mt i).2.1 mt i) (gsT dF mt i).1 = g9) (h9 : g9 = gr) : GRr (gsT dF mt (i + 1)) (i + 1) (gr + 1) (upd (upd g0 i v) i (nI g9)) (mUpd (mUpd gA g9 0) g9 (mUpd gA g9 0 g9 + dF i)) := by
  have ok := gsT_ok (dF := dF) (mt := mt) i
  obtain ⟨h1, h2, h3⟩ := h
  rw [gsT_s, gsS_g hd e, ← h1, if_pos (by omega)]
  refine ⟨?_, fun f hf => ?_, fun g hg => ?_⟩
  · show gr + 1 = g9 + 1
    omega
  · show upd (upd g0 i v) i (nI g9) f = upd _ i (nI g9) f
    by_cases e : f = i
    · rw [e, pk_us, pk_us]
    · rw [pk_un e, pk_un e, pk_un e]
      exact h2 f (by omega)
  · show mUpd (mUpd gA g9 0) g9 (mUpd gA g9 0 g9 + dF i) g = mUpd (gsT dF mt i).2.2 g9 ((gsT dF mt i).2.2 g9 + dF i) g
    by_cases e : g = g9
    · rw [e, mUpd_s, mUpd_s, mUpd_s, ok.2.2 g9 (by omega)]
    · rw [mUpd_n e, mUpd_n e, mUpd_n e]
      exact h3 g (by omega)
/-- how many bits tell numbers up to x -/
noncomputable def blW (x k : Nat) : Nat :=
  match k with
  | 0 => fpP (fun n => x < 2 ^ n) 12
  | k + 1 => blW x k
termination_by k
noncomputable def blN (x : Nat) : Nat := blW x 0
theorem bl_e (x : Nat) : blN x = fpP (fun n => x < 2 ^ n) 12 := by
  unfold blN
  rw [blW]
theorem bl_is {x n : Nat} (h : x < 2 ^ n) (hl : ∀ p, p < n → 2 ^ p ≤ x) (hx : x < 2048) : blN x = n := by
  have hn : n < 12 := by
    apply Decidable.byContradiction
    intro z
    have := hl 11 (by omega)
    omega
  rw [bl_e]
  exact fp_is (M := fun n => x < 2 ^ n) h (fun p hp z => by have := hl p hp; have z : x < 2 ^ p := z; omega) 12 hn
theorem bl_le (x : Nat) : blN x ≤ 12 := by
  rw [bl_e]
  exact fp_le _
/-- no field has two acts of one place -/
def UQt (pr : Nat → Prop) (ft : Nat → Nat) (len : Nat) : Prop := ∀ p b c, p < len → b < 10 → c < 10 → pr (p * 10 + b) → pr (p * 10 + c) → ft (p * 10 + b) = ft (p * 10 + c) → b = c
/-- the acts of place p below k are in their fields -/
def FIL (pr : Nat → Prop) (ft sl : Nat → Nat) (fa : Nat → Int32) (p k : Nat) : Prop := ∀ f, f < 7 → (∀ b, b < k → pr (p * 10 + b) → ft (p * 10 + b) = f → fa (7 * p + f) = nI (sl (p * 10 + b))) ∧ ((∀ b, b < k → pr (p * 10 + b) → ft (p * 10 + b) ≠ f) → fa (7 * p + f) = -1)
theorem FIL_0 {pr : Nat → Prop} {ft sl : Nat → Nat} {fa : Nat → Int32} {p : Nat} (h : ∀ f, f < 7 → fa (7 * p + f) = -1) : FIL pr ft sl fa p 0 := fun f hf => ⟨fun b hb => absurd hb (Nat.not_lt_zero b), fun _ => h f hf⟩
theorem FIL_gap {pr : Nat → Prop} {ft sl : Nat → Nat} {fa : Nat → Int32} {p k k' : Nat} (h : FIL pr ft sl fa p k) (hk : k ≤ k') (hn : ∀ b, k ≤ b → b < k' → ¬ pr (p * 10 + b)) : FIL pr ft sl fa p k' := by
  intro f hf
  obtain ⟨h1, h2⟩ := h f hf
  refine ⟨fun b hb hp hq => ?_, fun z => h2 (fun b hb hp => z b (by omega) hp)⟩
  by_cases c : b < k
  · exact h1 b c hp hq
  · exact absurd hp (hn b (by omega) hb)
theorem FIL_in {pr : Nat → Prop} {ft sl : Nat → Nat} {fa : Nat → Int32} {p k fd len : Nat} {v : Int32} (h : FIL pr ft sl fa p k) (hU : UQt pr ft len) (hp : p < len) (hk : k < 10) (hy : pr (p * 10 + k)) (hf : ft (p * 10 + k) = fd) (hv : v = nI (sl (p * 10 + k))) : FIL pr ft sl (upd fa (7 * p + fd) v) p (k + 1) := by
  intro f hf7
  obtain ⟨h1, h2⟩ := h f hf7
  by_cases c : f = fd
  · subst c
    rw [pk_us]
    refine ⟨fun b hb hpb hfb => ?_, fun z => absurd hf (z k (by omega) hy)⟩
    have : b = k := hU p b k hp (by omega) hk hpb hy (by omega)
    subst this
    exact hv
  · rw [pk_un (by omega)]
    refine ⟨fun b hb hpb hfb => ?_, fun z => h2 (fun b hb hpb => z b (by omega) hpb)⟩
    by_cases e : b = k
    · subst e
      omega
    · exact h1 b (by omega) hpb hfb
theorem FIL_oth {pr : Nat → Prop} {ft sl : Nat → Nat} {fa : Nat → Int32} {p q k fd : Nat} {v : Int32} (h : FIL pr ft sl fa q k) (hq : q ≠ p) (hf : fd < 7) : FIL pr ft sl (upd fa (7 * p + fd) v) q k := by
  intro f hf7
  rw [pk_un (by omega)]
  exact h f hf7
theorem FIL_neg {pr : Nat → Prop} {ft sl : Nat → Nat} {fa : Nat → Int32} {p f : Nat} (h : FIL pr ft sl fa p 10) (hs : ∀ t, t < 1200 → sl t < 2147483648) (hp : p < 120) (hf : f < 7) (hn : (fa (7 * p + f)).toInt < 0) : ¬ prs pr ft p f := by
  rintro ⟨b, h1, h2, h3⟩
  rw [(h f hf).1 b h1 h2 h3, nI_toInt (hs _ (by omega))] at hn
  omega
theorem FIL_pos {pr : Nat → Prop} {ft sl : Nat → Nat} {fa : Nat → Int32} {p f : Nat} (h : FIL pr ft sl fa p 10) (hf : f < 7) (hn : ¬ (fa (7 * p + f)).toInt < 0) : ∃ b, b < 10 ∧ pr (p * 10 + b) ∧ ft (p * 10 + b) = f ∧ fa (7 * p + f) = nI (sl (p * 10 + b)) := by
  apply Classical.byContradiction
  intro z
  have e := (h f hf).2 (fun b hb hp hq => z ⟨b, hb, hp, hq, (h f hf).1 b hb hp hq⟩)
  rw [e] at hn
  exact hn (by decide)
/-- the act in field f of place p is not in this field of an earlier place -/
def NWr (AE : Nat → Nat → Prop) (fa : Nat → Int32) (p f : Nat) : Prop := ∀ q, q < p → ¬ (0 ≤ (fa (7 * q + f)).toInt ∧ AE (fa (7 * p + f)).toNatClampNeg (fa (7 * q + f)).toNatClampNeg)
theorem NW_iff {AE : Nat → Nat → Prop} {pr : Nat → Prop} {ft sl : Nat → Nat} {fa : Nat → Int32} {p f b len : Nat} (hsy : ∀ x y, AE x y → AE y x) (hs : ∀ t, t < 1200 → sl t < 2147483648) (hl : len ≤ 120) (hF : ∀ q, q ≤ p → FIL pr ft sl fa q 10) (hU : UQt pr ft len) (hp : p < len) (hf : f < 7) (hb : b < 10) (h1 : pr (p * 10 + b)) (h2 : ft (p * 10 + b) = f) : nwT AE pr ft sl (p * 10 + b) ↔ NWr AE fa p f := by
  have ea : (fa (7 * p + f)).toNatClampNeg = sl (p * 10 + b) := by
    rw [((hF p (Nat.le_refl _)) f hf).1 b hb h1 h2]
    exact nI_clamp (hs _ (by omega))
  unfold nwT NWr
  rw [ea]
  constructor
  · rintro ⟨_, h⟩ q hq ⟨z1, z2⟩
    obtain ⟨c, c1, c2, c3, c4⟩ := FIL_pos (hF q (by omega)) hf (by omega)
    rw [c4, nI_clamp (hs _ (by omega))] at z2
    exact h (q * 10 + c) (by omega) c2 (c3.trans h2.symm) (hsy _ _ z2)
  · intro h
    refine ⟨h1, fun u hu hpu hfu z => ?_⟩
    have eu : u / 10 * 10 + u % 10 = u := by omega
    rw [← eu] at hpu hfu z
    by_cases c : u / 10 = p
    · rw [c] at hpu hfu
      have : u % 10 = b := hU p _ b hp (by omega) hb hpu h1 hfu
      omega
    · have e := ((hF (u / 10) (by omega)) f hf).1 (u % 10) (by omega) hpu (hfu.trans h2)
      refine h (u / 10) (by omega) ⟨?_, ?_⟩
      · rw [e, nI_toInt (hs _ (by omega))]
        omega
      · rw [e, nI_clamp (hs _ (by omega))]
        exact hsy _ _ z
theorem dfT_none {AE : Nat → Nat → Prop} {pr : Nat → Prop} {ft sl : Nat → Nat} {p f : Nat} (h : ¬ prs pr ft p f) : dfT AE pr ft sl f ((p + 1) * 10) = dfT AE pr ft sl f (p * 10) := by
  refine dfT_gap _ (by omega) (fun t h1 h2 z => h ⟨t - p * 10, by omega, ?_, ?_⟩)
  · rw [show p * 10 + (t - p * 10) = t by omega]
    exact z.1.1
  · rw [show p * 10 + (t - p * 10) = t by omega]
    exact z.2
theorem dfT_one {AE : Nat → Nat → Prop} {pr : Nat → Prop} {ft sl : Nat → Nat} {p f b len v : Nat} (hU : UQt pr ft len) (hp : p < len) (hb : b < 10) (h1 : pr (p * 10 + b)) (h2 : ft (p * 10 + b) = f) (hv : (nwT AE pr ft sl (p * 10 + b) ∧ v = 1) ∨ (¬ nwT AE pr ft sl (p * 10 + b) ∧ v = 0)) : dfT AE pr ft sl f ((p + 1) * 10) = dfT AE pr ft sl f (p * 10) + v := by
  have un : ∀ t, p * 10 ≤ t → t < (p + 1) * 10 → t ≠ p * 10 + b → ¬ (nwT AE pr ft sl t ∧ ft t = f) := by
    intro t g1 g2 g3 z
    have e : p * 10 + (t - p * 10) = t := by omega
    have := hU p (t - p * 10) b hp (by omega) hb (by rw [e]; exact z.1.1) h1 (by rw [e, h2]; exact z.2)
    omega
  rw [dfT_gap (i := p * 10 + b + 1) ((p + 1) * 10) (by omega) (fun t g1 g2 => un t (by omega) g2 (by omega))]
  have e0 := dfT_gap (AE := AE) (pr := pr) (ft := ft) (sl := sl) (f := f) (i := p * 10) (p * 10 + b) (by omega) (fun t g1 g2 => un t g1 (by omega) (by omega))
  rcases hv with ⟨z, e⟩ | ⟨z, e⟩
  · rw [dfT_y ⟨z, h2⟩, e0, e]
  · rw [dfT_n (fun y => z y.1), e0, e, Nat.add_zero]
-- THE STORE: fields of the class
theorem LM_in {mt mg : Nat → Nat} {pm i : Nat} (h : ∀ f, f < 7 → mg f = if f < i ∧ pm.testBit f = true then mt f ||| pm else mt f) (hb : pm.testBit i = true) (hi : i < 7) : ∀ f, f < 7 → mUpd mg i (mg i ||| pm) f = if f < i + 1 ∧ pm.testBit f = true then mt f ||| pm else mt f := by
  intro f hf
  by_cases e : f = i
  · subst e
    rw [mUpd_s, if_pos ⟨by omega, hb⟩, h f hf, if_neg (fun z => absurd z.1 (Nat.lt_irrefl f))]
  · rw [mUpd_n e, h f hf]
    by_cases c : f < i ∧ pm.testBit f = true
    · rw [if_pos c, if_pos ⟨by omega, c.2⟩]
    · rw [if_neg c, if_neg (fun z => c ⟨by omega, z.2⟩)]
theorem LM_no {mt mg : Nat → Nat} {pm i : Nat} (h : ∀ f, f < 7 → mg f = if f < i ∧ pm.testBit f = true then mt f ||| pm else mt f) (hb : ¬ pm.testBit i = true) : ∀ f, f < 7 → mg f = if f < i + 1 ∧ pm.testBit f = true then mt f ||| pm else mt f := by
  intro f hf
  rw [h f hf]
  by_cases c : f < i ∧ pm.testBit f = true
  · rw [if_pos c, if_pos ⟨by omega, c.2⟩]
  · rw [if_neg c, if_neg (fun z => c ⟨by
      by_cases e : f = i
      · rw [e] at z
        exact absurd z.2 hb
      · omega, z.2⟩)]
theorem LM_end {mt mg : Nat → Nat} {pm : Nat} (h : ∀ f, f < 7 → mg f = if f < 7 ∧ pm.testBit f = true then mt f ||| pm else mt f) : ∀ f, f < 7 → mg f = if pm.testBit f = true then mt f ||| pm else mt f := by
  intro f hf
  rw [h f hf]
  by_cases c : pm.testBit f = true
  · rw [if_pos ⟨hf, c⟩, if_pos c]
  · rw [if_neg (fun z => c z.2), if_neg c]
theorem sumN_0 {f : Nat → Nat} : sumN f 0 = 0 := rfl
theorem sumN_c {f g : Nat → Nat} : ∀ n, (∀ k, k < n → f k = g k) → sumN f n = sumN g n
  | 0, _ => rfl
  | n + 1, h => by
    show sumN f n + f n = sumN g n + g n
    rw [sumN_c n (fun k hk => h k (by omega)), h n (by omega)]
/-- different acts, meetings, groups of all places -/
noncomputable def dfA (K D X Y : Nat → Int32) (ow ms : Nat → Nat) (len f : Nat) : Nat := dfT (aEq K D X Y) (prT ms) (ftT K ow ms) (slT ow) f (len * 10)
def mtA (K : Nat → Int32) (ow ms : Nat → Nat) (len f g : Nat) : Prop := meT (prT ms) (ftT K ow ms) len f g
noncomputable def gsA (K D X Y : Nat → Int32) (ow ms : Nat → Nat) (len : Nat) : GS := gsT (dfA K D X Y ow ms len) (mtA K ow ms len) 7
/-- what the class keeps of the fields -/
def FEC (K D X Y : Nat → Int32) (ow ms : Nat → Nat) (len : Nat) (vg vw vs : Int32) (g0 : Nat → Int32) : Prop := vg = nI (gsA K D X Y ow ms len).1 ∧ (∀ f, f < 7 → g0 f = (gsA K D X Y ow ms len).2.1 f) ∧ vw = nI (blN len + sumN (fun g => blN ((gsA K D X Y ow ms len).2.2 g)) (gsA K D X Y ow ms len).1) ∧ vs = nI (sumN (dfA K D X Y ow ms len) 7)
def FEv (K D X Y : Nat → Int32) (ow ms : Nat → Nat) (v vg vw vs : Int32) (g0 : Nat → Int32) : Prop := ∃ len, v = nI len ∧ len ≤ 120 ∧ FEC K D X Y ow ms len vg vw vs g0
theorem FEC_of {K D X Y : Nat → Int32} {ow ms dF aG : Nat → Nat} {len gr wb sn : Nat} {g0 : Nat → Int32} (hG : gr = (gsT dF (mtA K ow ms len) 7).1 ∧ (∀ f, f < 7 → g0 f = (gsT dF (mtA K ow ms len) 7).2.1 f) ∧ ∀ g, g < 7 → aG g = (gsT dF (mtA K ow ms len) 7).2.2 g) (hdF : ∀ f, f < 7 → dF f = dfT (aEq K D X Y) (prT ms) (ftT K ow ms) (slT ow) f (len * 10)) (hgr : gr ≤ 7) (hwb : wb = blN len + sumN (fun k => blN (aG k)) gr) (hsum : sumN dF 7 = sn) : FEC K D X Y ow ms len (nI gr) (nI wb) (nI sn) g0 := by
  have e : gsT dF (mtA K ow ms len) 7 = gsA K D X Y ow ms len := gsT_c 7 hdF (fun _ _ _ _ => Iff.rfl)
  rw [e] at hG
  obtain ⟨h1, h2, h3⟩ := hG
  refine ⟨by rw [h1], h2, ?_, ?_⟩
  · rw [hwb, ← h1, sumN_c gr (fun k hk => by rw [h3 k (by omega)])]
  · rw [← hsum, sumN_c 7 hdF]
    rfl
