-- THE STORE: fields of the reference
/-- is the act in field f of place p new? as far as the first i places say -/
def NWi (AE : Nat → Nat → Prop) (fa : Nat → Int32) (p f i : Nat) (is9 : Int32) : Prop := (is9 = 1 ∧ ∀ q, q < i → ¬ (0 ≤ (fa (7 * q + f)).toInt ∧ AE (fa (7 * p + f)).toNatClampNeg (fa (7 * q + f)).toNatClampNeg)) ∨ (is9 = 0 ∧ ∃ q, q < i ∧ (0 ≤ (fa (7 * q + f)).toInt ∧ AE (fa (7 * p + f)).toNatClampNeg (fa (7 * q + f)).toNatClampNeg))
theorem NWi_s {AE : Nat → Nat → Prop} {fa : Nat → Int32} {p f : Nat} : NWi AE fa p f 0 1 := Or.inl ⟨rfl, fun q h => absurd h (Nat.not_lt_zero q)⟩
theorem NWi_0 {AE : Nat → Nat → Prop} {fa : Nat → Int32} {p f i : Nat} {is9 : Int32} (h : NWi AE fa p f i is9) (h0 : is9 = 0) : NWi AE fa p f (i + 1) 0 := by
  rcases h with ⟨e, _⟩ | ⟨_, q, h1, h2⟩
  · rw [h0] at e
    exact absurd e (by decide)
  · exact Or.inr ⟨rfl, q, by omega, h2⟩
theorem NWi_1 {AE : Nat → Nat → Prop} {fa : Nat → Int32} {p f i : Nat} {is9 : Int32} (h : NWi AE fa p f i is9) (h0 : ¬ is9 = 0) (hn : ¬ (0 ≤ (fa (7 * i + f)).toInt ∧ AE (fa (7 * p + f)).toNatClampNeg (fa (7 * i + f)).toNatClampNeg)) : NWi AE fa p f (i + 1) 1 := by
  rcases h with ⟨_, h⟩ | ⟨e, _⟩
  · refine Or.inl ⟨rfl, fun q hq => ?_⟩
    by_cases c : q = i
    · rw [c]
      exact hn
    · exact h q (by omega)
  · exact absurd e h0
theorem NWi_2 {AE : Nat → Nat → Prop} {fa : Nat → Int32} {p f i : Nat} (hp : ¬ (fa (7 * i + f)).toInt < 0) (hs : AE (fa (7 * p + f)).toNatClampNeg (fa (7 * i + f)).toNatClampNeg) : NWi AE fa p f (i + 1) 0 := Or.inr ⟨rfl, i, by omega, by omega, hs⟩
theorem NWi_e {AE : Nat → Nat → Prop} {fa : Nat → Int32} {p f i : Nat} {is9 : Int32} (h : NWi AE fa p f i is9) (hi : i = p) : (is9 = 1 ∧ NWr AE fa p f) ∨ (is9 = 0 ∧ ¬ NWr AE fa p f) := by
  subst hi
  rcases h with ⟨e, h⟩ | ⟨e, q, h1, h2⟩
  · exact Or.inl ⟨e, h⟩
  · exact Or.inr ⟨e, fun z => z q h1 h2⟩
def IMi (g0 : Nat → Int32) (m g i : Nat) (is9 : Int32) : Prop := (is9 = 1 ∧ iMt g0 m i g) ∨ (is9 = 0 ∧ ¬ iMt g0 m i g)
theorem IMi_s {g0 : Nat → Int32} {m g : Nat} : IMi g0 m g 0 0 := Or.inr ⟨rfl, fun ⟨f, h, _⟩ => absurd h (Nat.not_lt_zero f)⟩
theorem IMi_1 {g0 : Nat → Int32} {m g i : Nat} {is9 : Int32} (h : IMi g0 m g i is9) (h0 : ¬ is9 = 0) : IMi g0 m g (i + 1) 1 := by
  rcases h with ⟨_, f, h1, h2⟩ | ⟨e, _⟩
  · exact Or.inl ⟨rfl, f, by omega, h2⟩
  · exact absurd e h0
theorem IMi_in {g0 : Nat → Int32} {m g i : Nat} (h1 : g0 i = nI g) (h2 : mBt m i = 1) : IMi g0 m g (i + 1) 1 := Or.inl ⟨rfl, i, by omega, h1, mBt_1.mp h2⟩
theorem IMi_no {g0 : Nat → Int32} {m g i : Nat} {is9 : Int32} (h : IMi g0 m g i is9) (h0 : is9 = 0) (hn : ¬ (g0 i = nI g ∧ mBt m i = 1)) : IMi g0 m g (i + 1) 0 := by
  rcases h with ⟨e, _⟩ | ⟨_, h⟩
  · rw [h0] at e
    exact absurd e (by decide)
  · refine Or.inr ⟨rfl, ?_⟩
    rintro ⟨f, h1, h2, h3⟩
    by_cases c : f = i
    · rw [c] at h2 h3
      exact hn ⟨h2, mBt_1.mpr h3⟩
    · exact h ⟨f, by omega, h2, h3⟩
theorem zr_step {f : Nat → Int32} {i : Nat} {v : Int32} (h : ∀ j, j < i → f j = 0) (hv : v = 0) : ∀ j, j < i + 1 → upd f i v j = 0 := by
  intro j hj
  by_cases c : j = i
  · rw [c, pk_us, hv]
  · rw [pk_un c]
    exact h j (by omega)
theorem cI_gp {f : Nat → Int32} {base : Nat} {w : Int32} {k : Nat} : ∀ n, k ≤ n → cI f base w n ≤ cI f base w k → ∀ b, k ≤ b → b < n → ¬ (f (base + b)).toInt = w.toInt
  | 0, _, _, b, _, hb => absurd hb (Nat.not_lt_zero b)
  | n + 1, hk, hc, b, h1, h2 => by
    intro z
    have m1 := cI_mono f base w (i := b + 1) (n + 1) (by omega)
    have m2 := cI_mono f base w (i := k) b h1
    rw [cI_in z] at m1
    omega
theorem cB_eq {K f : Nat → Int32} {i m n : Nat} {w : Int32} (hn : n ≤ 10) (h : ∀ b, b < n → (m.testBit b = true ↔ (f (i * 10 + b)).toInt = w.toInt)) : ∀ k, k ≤ n → cB K f (i * 10) w k = pcn (iP K i) m 0 k
  | 0, _ => rfl
  | k + 1, hk => by
    have ih := cB_eq (K := K) hn h k (by omega)
    by_cases c : (f (i * 10 + k)).toInt = w.toInt ∧ pN (K (i * 10 + k)) = 0
    · rw [cB_in c.1 c.2, pcn_in ((h k (by omega)).mpr c.1) (by rw [iP_at (by omega)]; exact c.2), ih]
    · rw [cB_no c, pcn_no (fun z => c ⟨(h k (by omega)).mp z.1, by have z2 := z.2; rw [iP_at (by omega)] at z2; exact z2⟩), ih]
/-- the masks of the places, as the reference's words have them -/
def MKp (f15 L g21 : Nat → Int32) (pR ms : Nat → Nat) (len : Nat) : Prop := ∀ p, p < len → ∃ w, g21 p = nI w ∧ MKm f15 L (pR p) w (ms p)
theorem MKp_iff {f15 L g21 : Nat → Int32} {pR ms : Nat → Nat} {len p : Nat} (h : MKp f15 L g21 pR ms len) (hp : p < len) : ms p < 2 ^ lenN L (pR p) ∧ ∀ b, b < lenN L (pR p) → ((ms p).testBit b = true ↔ (f15 (pR p * 10 + b)).toInt = (g21 p).toInt) := by
  obtain ⟨w, e, h1, h2⟩ := h p hp
  rw [e]
  exact ⟨h1, h2⟩
theorem FIL_nx {K f15 L g21 fa : Nat → Int32} {pR ms : Nat → Nat} {len p k b fd : Nat} {v : Int32} (hM : MKp f15 L g21 pR ms len) (hU : UQt (prT ms) (ftT K pR ms) len) (hp : p < len) (hn : lenN L (pR p) ≤ 10) (h : FIL (prT ms) (ftT K pR ms) (slT pR) fa p k) (hkb : k ≤ b) (hb : b < lenN L (pR p)) (hc : cI f15 (pR p * 10) (g21 p) b ≤ cI f15 (pR p * 10) (g21 p) k) (hy : (f15 (pR p * 10 + b)).toInt = (g21 p).toInt) (hf : fd = fld K (pR p) (ms p) b) (hv : v = nI (pR p * 10 + b)) : FIL (prT ms) (ftT K pR ms) (slT pR) (upd fa (7 * p + fd) v) p (b + 1) := by
  obtain ⟨m1, m2⟩ := MKp_iff hM hp
  have g := FIL_gap h hkb (fun c h1 h2 z => by
    have z := (prT_at (by omega)).mp z
    exact cI_gp b hkb hc c h1 h2 ((m2 c (by omega)).mp z))
  refine FIL_in g hU hp (by omega) ((prT_at (by omega)).mpr ((m2 b hb).mpr hy)) ?_ ?_
  · rw [ftT_at (by omega), hf]
  · rw [slT_at (by omega), hv]
theorem FIL_end {K f15 L g21 fa : Nat → Int32} {pR ms : Nat → Nat} {len p k : Nat} (hM : MKp f15 L g21 pR ms len) (hp : p < len) (hn : lenN L (pR p) ≤ 10) (h : FIL (prT ms) (ftT K pR ms) (slT pR) fa p k) (hk : k ≤ lenN L (pR p)) (hc : cI f15 (pR p * 10) (g21 p) (lenN L (pR p)) ≤ cI f15 (pR p * 10) (g21 p) k) : FIL (prT ms) (ftT K pR ms) (slT pR) fa p 10 := by
  obtain ⟨m1, m2⟩ := MKp_iff hM hp
  refine FIL_gap h (by omega) (fun c h1 h2 z => ?_)
  have z := (prT_at h2).mp z
  have hl := mBit_lt m1 z
  exact cI_gp _ hk hc c h1 hl ((m2 c hl).mp z)
theorem FIL_u {K : Nat → Int32} {pR ms : Nat → Nat} {fa : Nat → Int32} {p fd : Nat} {v : Int32} (h : ∀ q, q < p → FIL (prT ms) (ftT K pR ms) (slT pR) fa q 10) (hf : fd < 7) : ∀ q, q < p → FIL (prT ms) (ftT K pR ms) (slT pR) (upd fa (7 * p + fd) v) q 10 := fun q hq => FIL_oth (h q hq) (by omega) hf
theorem fm_step {fa : Nat → Int32} {p f : Nat} {v : Int32} (h : ∀ k, k < f → fa (7 * p + k) = -1) (hv : v = -1) : ∀ k, k < f + 1 → upd fa (7 * p + f) v (7 * p + k) = -1 := by
  intro k hk
  by_cases c : k = f
  · rw [c, pk_us, hv]
  · rw [pk_un (by omega)]
    exact h k (by omega)
theorem slT_lt {pR : Nat → Nat} (h : pRok pR) : ∀ t, t < 1200 → slT pR t < 2147483648 := by
  intro t ht
  unfold slT
  have := h (t / 10) (by omega)
  omega
/-- different acts, while the fields of place p are gone through: those below f are -/
def DFi (AE : Nat → Nat → Prop) (pr : Nat → Prop) (ft sl : Nat → Nat) (p f : Nat) (dF : Nat → Nat) : Prop := ∀ g, g < 7 → dF g = dfT AE pr ft sl g ((if g < f then p + 1 else p) * 10)
theorem DFi_0 {AE : Nat → Nat → Prop} {pr : Nat → Prop} {ft sl : Nat → Nat} {p : Nat} {dF : Nat → Nat} (h : ∀ g, g < 7 → dF g = dfT AE pr ft sl g (p * 10)) : DFi AE pr ft sl p 0 dF := by
  intro g hg
  rw [if_neg (Nat.not_lt_zero g)]
  exact h g hg
theorem DFi_e {AE : Nat → Nat → Prop} {pr : Nat → Prop} {ft sl : Nat → Nat} {p : Nat} {dF : Nat → Nat} (h : DFi AE pr ft sl p 7 dF) : ∀ g, g < 7 → dF g = dfT AE pr ft sl g ((p + 1) * 10) := by
  intro g hg
  have z := h g hg
  rw [if_pos hg] at z
  exact z
theorem DFi_no {AE : Nat → Nat → Prop} {pr : Nat → Prop} {ft sl : Nat → Nat} {p f : Nat} {dF : Nat → Nat} (h : DFi AE pr ft sl p f dF) (hn : ¬ prs pr ft p f) : DFi AE pr ft sl p (f + 1) dF := by
  intro g hg
  by_cases c : g = f
  · subst c
    rw [if_pos (by omega), dfT_none hn]
    have z := h g hg
    rw [if_neg (Nat.lt_irrefl g)] at z
    exact z
  · have z := h g hg
    by_cases d : g < f
    · rw [if_pos d] at z
      rw [if_pos (by omega)]
      exact z
    · rw [if_neg d] at z
      rw [if_neg (by omega)]
      exact z
theorem DFi_s {AE : Nat → Nat → Prop} {pr : Nat → Prop} {ft sl : Nat → Nat} {fa : Nat → Int32} {p f len v : Nat} {dF : Nat → Nat} (hsy : ∀ x y, AE x y → AE y x) (hs : ∀ t, t < 1200 → sl t < 2147483648) (hl : len ≤ 120) (hF : ∀ q, q ≤ p → FIL pr ft sl fa q 10) (hU : UQt pr ft len) (hp : p < len) (hf : f < 7) (h : DFi AE pr ft sl p f dF) (hn : ¬ (fa (7 * p + f)).toInt < 0) (hv : (NWr AE fa p f ∧ v = 1) ∨ (¬ NWr AE fa p f ∧ v = 0)) : DFi AE pr ft sl p (f + 1) (mUpd dF f (dF f + v)) := by
  intro g hg
  by_cases c : g = f
  · subst c
    obtain ⟨b, b1, b2, b3, b4⟩ := FIL_pos (hF p (Nat.le_refl _)) hg hn
    have nw := NW_iff hsy hs hl hF hU hp hg b1 b2 b3
    rw [mUpd_s, if_pos (by omega), dfT_one (v := v) hU hp b1 b2 b3 (by rw [nw]; exact hv)]
    have z := h g hg
    rw [if_neg (Nat.lt_irrefl g)] at z
    rw [z]
  · rw [mUpd_n c]
    have z := h g hg
    by_cases d : g < f
    · rw [if_pos d] at z
      rw [if_pos (by omega)]
      exact z
    · rw [if_neg d] at z
      rw [if_neg (by omega)]
      exact z
/-- meetings, while the fields of place p are gone through -/
def MEi (pr : Nat → Prop) (ft : Nat → Nat) (p f : Nat) (mt : Nat → Nat) : Prop := ∀ h, h < 7 → mt h < 128 ∧ ∀ g, g < 7 → ((mt h).testBit g = true ↔ g ≠ h ∧ (meT pr ft p h g ∨ (h < f ∧ prs pr ft p h ∧ prs pr ft p g)))
theorem MEi_0 {pr : Nat → Prop} {ft : Nat → Nat} {p : Nat} {mt : Nat → Nat} (h : MEr pr ft p mt) : MEi pr ft p 0 mt := by
  intro k hk
  refine ⟨(h k hk).1, fun g hg => ?_⟩
  rw [(h k hk).2 g hg]
  constructor
  · exact fun z => ⟨z.1, Or.inl z.2⟩
  · rintro ⟨z, q | q⟩
    · exact ⟨z, q⟩
    · exact absurd q.1 (Nat.not_lt_zero k)
theorem MEi_e {pr : Nat → Prop} {ft : Nat → Nat} {p : Nat} {mt : Nat → Nat} (h : MEi pr ft p 7 mt) : MEr pr ft (p + 1) mt := by
  intro k hk
  refine ⟨(h k hk).1, fun g hg => ?_⟩
  rw [(h k hk).2 g hg, meT_s]
  constructor
  · rintro ⟨z, q | q⟩
    · exact ⟨z, Or.inl q⟩
    · exact ⟨z, Or.inr q.2⟩
  · rintro ⟨z, q | q⟩
    · exact ⟨z, Or.inl q⟩
    · exact ⟨z, Or.inr ⟨hk, q⟩⟩
theorem MEi_no {pr : Nat → Prop} {ft : Nat → Nat} {p f : Nat} {mt : Nat → Nat} (h : MEi pr ft p f mt) (hn : ¬ prs pr ft p f) : MEi pr ft p (f + 1) mt := by
  intro k hk
  refine ⟨(h k hk).1, fun g hg => ?_⟩
  rw [(h k hk).2 g hg]
  constructor
  · rintro ⟨z, q | q⟩
    · exact ⟨z, Or.inl q⟩
    · exact ⟨z, Or.inr ⟨by omega, q.2⟩⟩
  · rintro ⟨z, q | q⟩
    · exact ⟨z, Or.inl q⟩
    · refine ⟨z, Or.inr ⟨?_, q.2⟩⟩
      by_cases c : k = f
      · rw [c] at q
        exact absurd q.2.1 hn
      · omega
/-- meetings of field f with the fields below g of place p -/
def MEg (pr : Nat → Prop) (ft : Nat → Nat) (p f g : Nat) (mt mg : Nat → Nat) : Prop := (∀ h, h ≠ f → mg h = mt h) ∧ mg f < 128 ∧ ∀ k, k < 7 → ((mg f).testBit k = true ↔ (mt f).testBit k = true ∨ (k < g ∧ k ≠ f ∧ prs pr ft p k))
theorem MEg_0 {pr : Nat → Prop} {ft : Nat → Nat} {p f : Nat} {mt : Nat → Nat} (h : mt f < 128) : MEg pr ft p f 0 mt mt := ⟨fun _ _ => rfl, h, fun k _ => ⟨Or.inl, fun z => z.elim id (fun q => absurd q.1 (Nat.not_lt_zero k))⟩⟩
theorem MEg_y {pr : Nat → Prop} {ft : Nat → Nat} {p f g : Nat} {mt mg : Nat → Nat} (h : MEg pr ft p f g mt mg) (hg : g < 7) (hn : g ≠ f) (hp : prs pr ft p g) : MEg pr ft p f (g + 1) mt (mUpd mg f (mg f ||| 2 ^ g)) := by
  obtain ⟨h1, h2, h3⟩ := h
  refine ⟨fun k hk => by rw [mUpd_n hk]; exact h1 k hk, by rw [mUpd_s]; exact mm_or_lt (n := 7) h2 (Nat.pow_lt_pow_right (by decide) hg), fun k hk => ?_⟩
  rw [mUpd_s, mOr_t, mPow_t, h3 k hk]
  constructor
  · rintro ((z | z) | z)
    · exact Or.inl z
    · exact Or.inr ⟨by omega, z.2⟩
    · subst z
      exact Or.inr ⟨by omega, hn, hp⟩
  · rintro (z | z)
    · exact Or.inl (Or.inl z)
    · by_cases c : k = g
      · exact Or.inr c.symm
      · exact Or.inl (Or.inr ⟨by omega, z.2⟩)
theorem MEg_n {pr : Nat → Prop} {ft : Nat → Nat} {p f g : Nat} {mt mg : Nat → Nat} (h : MEg pr ft p f g mt mg) (hn : ¬ (g ≠ f ∧ prs pr ft p g)) : MEg pr ft p f (g + 1) mt (mUpd mg f (mg f ||| 0)) := by
  obtain ⟨h1, h2, h3⟩ := h
  rw [Nat.or_zero]
  refine ⟨fun k hk => by rw [mUpd_n hk]; exact h1 k hk, by rw [mUpd_s]; exact h2, fun k hk => ?_⟩
  rw [mUpd_s, h3 k hk]
  constructor
  · rintro (z | z)
    · exact Or.inl z
    · exact Or.inr ⟨by omega, z.2⟩
  · rintro (z | z)
    · exact Or.inl z
    · by_cases c : k = g
      · rw [c] at z
        exact absurd z.2 hn
      · exact Or.inr ⟨by omega, z.2⟩
theorem MEi_s {pr : Nat → Prop} {ft : Nat → Nat} {p f : Nat} {mt mg : Nat → Nat} (h : MEi pr ft p f mt) (hg : MEg pr ft p f 7 mt mg) (hf : f < 7) (hp : prs pr ft p f) : MEi pr ft p (f + 1) mg := by
  intro k hk
  by_cases c : k = f
  · subst c
    refine ⟨hg.2.1, fun g hg7 => ?_⟩
    rw [hg.2.2 g hg7, (h k hk).2 g hg7]
    constructor
    · rintro (⟨z, q | q⟩ | z)
      · exact ⟨z, Or.inl q⟩
      · exact absurd q.1 (Nat.lt_irrefl k)
      · exact ⟨z.2.1, Or.inr ⟨by omega, hp, z.2.2⟩⟩
    · rintro ⟨z, q | q⟩
      · exact Or.inl ⟨z, Or.inl q⟩
      · exact Or.inr ⟨hg7, z, q.2.2⟩
  · rw [hg.1 k c]
    refine ⟨(h k hk).1, fun g hg7 => ?_⟩
    rw [(h k hk).2 g hg7]
    constructor
    · rintro ⟨z, q | q⟩
      · exact ⟨z, Or.inl q⟩
      · exact ⟨z, Or.inr ⟨by omega, q.2⟩⟩
    · rintro ⟨z, q | q⟩
      · exact ⟨z, Or.inl q⟩
      · exact ⟨z, Or.inr ⟨by omega, q.2⟩⟩
/-- what the reference keeps of the fields -/
def FER (K D X Y : Nat → Int32) (pR ms : Nat → Nat) (len gr : Nat) (g0 : Nat → Int32) (gA dF : Nat → Nat) : Prop := gr = (gsA K D X Y pR ms len).1 ∧ (∀ f, f < 7 → g0 f = (gsA K D X Y pR ms len).2.1 f) ∧ (∀ g, g < gr → gA g = (gsA K D X Y pR ms len).2.2 g) ∧ ∀ f, f < 7 → dF f = dfA K D X Y pR ms len f
theorem FER_of {K D X Y : Nat → Int32} {pR ms dF gA : Nat → Nat} {len gr : Nat} {g0 : Nat → Int32} (hG : gr = (gsT dF (mtA K pR ms len) 7).1 ∧ (∀ f, f < 7 → g0 f = (gsT dF (mtA K pR ms len) 7).2.1 f) ∧ ∀ g, g < gr → gA g = (gsT dF (mtA K pR ms len) 7).2.2 g) (hdF : ∀ f, f < 7 → dF f = dfT (aEq K D X Y) (prT ms) (ftT K pR ms) (slT pR) f (len * 10)) : FER K D X Y pR ms len gr g0 gA dF := by
  have e : gsT dF (mtA K pR ms len) 7 = gsA K D X Y pR ms len := gsT_c 7 hdF (fun _ _ _ _ => Iff.rfl)
  rw [e] at hG
  exact ⟨hG.1, hG.2.1, hG.2.2, hdF⟩
/-- rooms of a place's word -/
theorem UQ_of {K : Nat → Int32} {pR ms : Nat → Nat} {len : Nat} (hR : ∀ p, p < len → pcn (iP K (pR p)) (ms p) 0 10 ≤ 3 ∧ ∀ t, t < 5 → t ≠ 0 → pcn (iP K (pR p)) (ms p) t 10 ≤ 1) : UQt (prT ms) (ftT K pR ms) len := by
  intro p b c hp hb hc h1 h2 h3
  have h1 := (prT_at hb).mp h1
  have h2 := (prT_at hc).mp h2
  rw [ftT_at hb, ftT_at hc] at h3
  obtain ⟨r0, r1⟩ := hR p hp
  have kb := pN_l (K (pR p * 10 + b))
  have kc := pN_l (K (pR p * 10 + c))
  have ib : iP K (pR p) b = pN (K (pR p * 10 + b)) := iP_at hb
  have ic : iP K (pR p) c = pN (K (pR p * 10 + c)) := iP_at hc
  unfold fld at h3
  have lt : ∀ x t, x < 10 → (ms p).testBit x = true → iP K (pR p) x = t → pcn (iP K (pR p)) (ms p) t x < pcn (iP K (pR p)) (ms p) t 10 := fun x t hx hb ht => by
    have z := pcn_up (iP K (pR p)) (ms p) t (i := x + 1) 10 (by omega)
    rw [pcn_in hb ht] at z
    omega
  have mono : ∀ x y t, x < y → (ms p).testBit x = true → iP K (pR p) x = t → pcn (iP K (pR p)) (ms p) t x < pcn (iP K (pR p)) (ms p) t y := fun x y t hx hb ht => by
    have z := pcn_up (iP K (pR p)) (ms p) t (i := x + 1) y (by omega)
    rw [pcn_in hb ht] at z
    omega
  by_cases zb : pN (K (pR p * 10 + b)) = 0
  · rw [if_pos zb] at h3
    have lb := lt b 0 hb h1 (by rw [ib]; exact zb)
    by_cases zc : pN (K (pR p * 10 + c)) = 0
    · rw [if_pos zc] at h3
      rcases Nat.lt_trichotomy b c with q | q | q
      · have := mono b c 0 q h1 (by rw [ib]; exact zb)
        omega
      · exact q
      · have := mono c b 0 q h2 (by rw [ic]; exact zc)
        omega
    · rw [if_neg zc] at h3
      omega
  · rw [if_neg zb] at h3
    by_cases zc : pN (K (pR p * 10 + c)) = 0
    · rw [if_pos zc] at h3
      have lc := lt c 0 hc h2 (by rw [ic]; exact zc)
      omega
    · rw [if_neg zc] at h3
      have e : pN (K (pR p * 10 + c)) = pN (K (pR p * 10 + b)) := by omega
      have r2 := r1 _ (by omega) zb
      have lb := lt b _ hb h1 ib
      have lc := lt c _ hc h2 (ic.trans e)
      rcases Nat.lt_trichotomy b c with q | q | q
      · have := mono b c _ q h1 ib
        omega
      · exact q
      · have := mono c b _ q h2 (ic.trans e)
        omega
theorem FIL_prs {pr : Nat → Prop} {ft sl : Nat → Nat} {fa : Nat → Int32} {p f : Nat} (h : FIL pr ft sl fa p 10) (hf : f < 7) (hn : ¬ (fa (7 * p + f)).toInt < 0) : prs pr ft p f := by
  obtain ⟨b, b1, b2, b3, _⟩ := FIL_pos h hf hn
  exact ⟨b, b1, b2, b3⟩
theorem FIL_all {pr : Nat → Prop} {ft sl : Nat → Nat} {fa : Nat → Int32} {p : Nat} (h : ∀ q, q < p → FIL pr ft sl fa q 10) (h1 : FIL pr ft sl fa p 10) : ∀ q, q ≤ p → FIL pr ft sl fa q 10 := by
  intro q hq
  by_cases e : q = p
  · rw [e]
    exact h1
  · exact h q (by omega)
theorem PK8_rm {K D X Y L8 WC : Nat → Int32} {wd : Nat → Nat} {bs i w : Nat} (hL : IL L8) (hi : i < 12) (hb : bs ≤ 3) (h : PK8 K D X Y L8 WC wd bs i) (hw : w < cnL K (rR K X Y) (rW K D) L8 bs i) : pcn (iP K i) (cnA K (rR K X Y) (rW K D) L8 bs i w) 0 10 ≤ 3 ∧ ∀ t, t < 5 → t ≠ 0 → pcn (iP K i) (cnA K (rR K X Y) (rW K D) L8 bs i w) t 10 ≤ 1 := by
  obtain ⟨c1, c2, c3, c4⟩ := PK8_can h
  have hn := (IL_n hL hi).2
  have hw : w < pkL (iQ K (rR K X Y) (rW K D) (lenN L8 i) i bs) := hw
  have z : ∃ d', mLW (iQ K (rR K X Y) (rW K D) (lenN L8 i) i bs) d' (cnA K (rR K X Y) (rW K D) L8 bs i w) := by
    rcases mPW_room _ _ _ c3 w (Nat.zero_le _) (by omega) with z | z
    · exact ⟨_, z⟩
    · exact z
  obtain ⟨d', z⟩ := z
  have far : ∀ t, t < 5 → pcn (iP K i) (cnA K (rR K X Y) (rW K D) L8 bs i w) t 10 ≤ pRoom bs t := fun t ht => by
    have z1 : pcn (iP K i) (cnA K (rR K X Y) (rW K D) L8 bs i w) t (lenN L8 i) ≤ pRoom bs t := z.2.2.2.1 t ht
    have z2 := pcn_far (iP K i) (cnA K (rR K X Y) (rW K D) L8 bs i w) t (n := lenN L8 i) z.2.1 (10 - lenN L8 i)
    rw [show lenN L8 i + (10 - lenN L8 i) = 10 by omega] at z2
    omega
  refine ⟨Nat.le_trans (far 0 (by decide)) ?_, fun t ht h0 => Nat.le_trans (far t ht) ?_⟩
  · show (if 0 = 0 then bs else 1) ≤ 3
    rw [if_pos rfl]
    exact hb
  · show (if t = 0 then bs else 1) ≤ 1
    rw [if_neg h0]
    exact Nat.le_refl 1
/-- the fields of the reference, over its places -/
def FERv (K D X Y L : Nat → Int32) (bs len : Nat) (pR : Nat → Nat) (g21 : Nat → Int32) (gr : Nat) (g0 : Nat → Int32) (gA dF : Nat → Nat) : Prop := FER K D X Y pR (fun p => cnA K (rR K X Y) (rW K D) L bs (pR p) (g21 p).toNatClampNeg) len gr g0 gA dF
/-- two scans that agree -/
theorem dfT_c {AE AE' : Nat → Nat → Prop} {pr pr' : Nat → Prop} {ft sl ft' sl' : Nat → Nat} {f : Nat} : ∀ n, (∀ t, t < n → (pr t ↔ pr' t) ∧ ft t = ft' t) → (∀ t u, t < n → u < n → (AE (sl t) (sl u) ↔ AE' (sl' t) (sl' u))) → dfT AE pr ft sl f n = dfT AE' pr' ft' sl' f n
  | 0, _, _ => by rw [dfT_0, dfT_0]
  | n + 1, h1, h2 => by
    have ih := dfT_c (f := f) n (fun t ht => h1 t (by omega)) (fun t u ht hu => h2 t u (by omega) (by omega))
    have en : nwT AE pr ft sl n ∧ ft n = f ↔ nwT AE' pr' ft' sl' n ∧ ft' n = f := by
      rw [(h1 n (by omega)).2]
      have e : nwT AE pr ft sl n ↔ nwT AE' pr' ft' sl' n := by
        unfold nwT
        rw [(h1 n (by omega)).1, (h1 n (by omega)).2]
        constructor
        · exact fun z => ⟨z.1, fun u hu hp hf hA => z.2 u hu ((h1 u (by omega)).1.mpr hp) (by rw [(h1 u (by omega)).2]; exact hf) ((h2 u n (by omega) (by omega)).mpr hA)⟩
        · exact fun z => ⟨z.1, fun u hu hp hf hA => z.2 u hu ((h1 u (by omega)).1.mp hp) (by rw [← (h1 u (by omega)).2]; exact hf) ((h2 u n (by omega) (by omega)).mp hA)⟩
      rw [e]
    by_cases c : nwT AE pr ft sl n ∧ ft n = f
    · rw [dfT_y c, dfT_y (en.mp c), ih]
    · rw [dfT_n c, dfT_n (fun z => c (en.mpr z)), ih]
theorem meT_c {pr pr' : Nat → Prop} {ft ft' : Nat → Nat} {n f g : Nat} (h : ∀ t, t < n * 10 → (pr t ↔ pr' t) ∧ ft t = ft' t) : meT pr ft n f g ↔ meT pr' ft' n f g := by
  have e : ∀ p k, p < n → (prs pr ft p k ↔ prs pr' ft' p k) := by
    intro p k hp
    unfold prs
    constructor
    · rintro ⟨b, h1, h2, h3⟩
      have z := h (p * 10 + b) (by omega)
      exact ⟨b, h1, z.1.mp h2, by rw [← z.2]; exact h3⟩
    · rintro ⟨b, h1, h2, h3⟩
      have z := h (p * 10 + b) (by omega)
      exact ⟨b, h1, z.1.mpr h2, by rw [z.2]; exact h3⟩
  unfold meT
  constructor
  · rintro ⟨p, h1, h2, h3⟩
    exact ⟨p, h1, (e p f h1).mp h2, (e p g h1).mp h3⟩
  · rintro ⟨p, h1, h2, h3⟩
    exact ⟨p, h1, (e p f h1).mpr h2, (e p g h1).mpr h3⟩
theorem fld_c {K K' : Nat → Int32} {r m b : Nat} (hr : r < 12) (hb : b < 10) (jK : ∀ j, j < 120 → K j = K' j) : fld K r m b = fld K' r m b := by
  have e : iP K r = iP K' r := by
    funext a
    unfold iP
    by_cases c : a < 10
    · rw [if_pos c, if_pos c, jK _ (by omega)]
    · rw [if_neg c, if_neg c]
  unfold fld
  rw [e, jK _ (by omega)]
/-- places that agree have the same fields -/
theorem gsA_c {K D X Y K' D' X' Y' : Nat → Int32} {ow ms ow' ms' : Nat → Nat} {len : Nat} (jK : ∀ j, j < 120 → K j = K' j) (jD : ∀ j, j < 120 → D j = D' j) (jX : ∀ j, j < 120 → X j = X' j) (jY : ∀ j, j < 120 → Y j = Y' j) (hp : ∀ p, p < len → ow p = ow' p ∧ ow p < 12 ∧ ms p = ms' p) : (∀ f, dfA K D X Y ow ms len f = dfA K' D' X' Y' ow' ms' len f) ∧ gsA K D X Y ow ms len = gsA K' D' X' Y' ow' ms' len := by
  have h1 : ∀ t, t < len * 10 → (prT ms t ↔ prT ms' t) ∧ ftT K ow ms t = ftT K' ow' ms' t := by
    intro t ht
    obtain ⟨a, b, c⟩ := hp (t / 10) (by omega)
    unfold prT ftT
    rw [← c, ← a]
    exact ⟨Iff.rfl, fld_c b (by omega) jK⟩
  have h2 : ∀ t u, t < len * 10 → u < len * 10 → (aEq K D X Y (slT ow t) (slT ow u) ↔ aEq K' D' X' Y' (slT ow' t) (slT ow' u)) := by
    intro t u ht hu
    obtain ⟨a, b, c⟩ := hp (t / 10) (by omega)
    obtain ⟨a', b', c'⟩ := hp (u / 10) (by omega)
    unfold slT
    rw [← a, ← a']
    exact aEq_c (by omega) (by omega) jK jD jX jY
  have e : ∀ f, dfA K D X Y ow ms len f = dfA K' D' X' Y' ow' ms' len f := fun f => dfT_c (f := f) _ h1 h2
  exact ⟨e, gsT_c 7 (fun f _ => e f) (fun f g _ _ => meT_c h1)⟩
theorem FERv_of {K D X Y L : Nat → Int32} {bs len : Nat} {pR pw : Nat → Nat} {g21 : Nat → Int32} {gr : Nat} {g0 : Nat → Int32} {gA dF : Nat → Nat} (hlen : len ≤ 120) (hpR : pRok pR) (hw : ∀ p, p < len → g21 p = nI (pw p) ∧ pw p < 1000) (h : FER K D X Y pR (fun p => cnA K (rR K X Y) (rW K D) L bs (pR p) (pw p)) len gr g0 gA dF) : FERv K D X Y L bs len pR g21 gr g0 gA dF := by
  have e := gsA_c (K := K) (D := D) (X := X) (Y := Y) (K' := K) (D' := D) (X' := X) (Y' := Y) (ow := pR) (ow' := pR) (ms := fun p => cnA K (rR K X Y) (rW K D) L bs (pR p) (pw p)) (ms' := fun p => cnA K (rR K X Y) (rW K D) L bs (pR p) (g21 p).toNatClampNeg) (len := len) (fun _ _ => rfl) (fun _ _ => rfl) (fun _ _ => rfl) (fun _ _ => rfl) (fun p hp => ⟨rfl, hpR p (by omega), by
    show cnA K (rR K X Y) (rW K D) L bs (pR p) (pw p) = cnA K (rR K X Y) (rW K D) L bs (pR p) (g21 p).toNatClampNeg
    rw [(hw p hp).1, nI_clamp (by have := (hw p hp).2; omega)]⟩)
  obtain ⟨h1, h2, h3, h4⟩ := h
  unfold FERv FER
  rw [← e.2]
  exact ⟨h1, h2, h3, fun f hf => by rw [← e.1]; exact h4 f hf⟩
