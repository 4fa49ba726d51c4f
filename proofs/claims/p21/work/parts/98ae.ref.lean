-- the reference does acts: the same
theorem kpow2 : ∀ n : Fin 33, ((1 : Int64) <<< ((nI n.val).toInt64 &&& 63)).toInt = 2 ^ n.val := by decide +kernel
theorem kcut_val {n : Nat} {v : Int64} (hn : n < 33) (h0 : 0 ≤ v.toInt) : (kcut (nI n) v).toInt = v.toInt % 2 ^ n := by
  obtain ⟨a, ha, rfl⟩ := wb_of v
  have hs : a < 9223372036854775808 := by
    apply Decidable.byContradiction
    intro hx
    have e : (lN a).toInt = (a : Int) - 18446744073709551616 := by
      show (lN a).toBitVec.toInt = _
      rw [wb_tb, BitVec.toInt_ofNat']
      simp only [Int.bmod]
      omega
    omega
  have z := kmask ⟨n, hn⟩
  unfold kcut
  rw [z.1, fb_andL, Nat.and_two_pow_sub_one_eq_mod, pk_lT (by have := Nat.mod_le a (2 ^ n); omega), pk_lT (by omega)]
  simp
theorem kadd_top {x y : Int64} {W : Int32} (hx : 0 ≤ x.toInt ∧ x.toInt < 4294967296) (hy : 0 ≤ y.toInt ∧ y.toInt < 4294967296) (h1 : 1 ≤ W.toInt) (h2 : W.toInt ≤ 32) : (x + y = kcut W (x + y)) ↔ (x + y).toInt < ((1 : Int64) <<< (W.toInt64 &&& 63)).toInt := by
  obtain ⟨n, hn, rfl⟩ : ∃ n : Nat, n < 33 ∧ W = nI n := ⟨W.toInt.toNat, by omega, by
    rw [fa_eq, nI_toInt (by omega)]
    omega⟩
  have es : (x + y).toInt = x.toInt + y.toInt := by
    rw [Int64.toInt_add]
    exact fb_bmodL (by omega) (by omega)
  have hp : (0 : Int) < 2 ^ n := by
    have : (0 : Nat) < 2 ^ n := Nat.two_pow_pos n
    exact_mod_cast this
  rw [fa_eq64, kcut_val hn (by omega), kpow2 ⟨n, hn⟩]
  constructor
  · intro h
    have := Int.emod_lt_of_pos (x + y).toInt hp
    rw [← h] at this
    exact this
  · intro h
    exact (Int.emod_eq_of_lt (by omega) h).symm
theorem kcell_id {v : Int64} (h0 : 0 ≤ v.toInt) (h1 : v.toInt < 4294967296) : v &&& 4294967295 = v := by
  have z := kcut_val (n := 32) (v := v) (by decide) h0
  have e : kcut (nI 32) v = v &&& 4294967295 := by
    unfold kcut
    rw [show ((1 : Int64) <<< ((nI 32).toInt64 &&& 63)) - 1 = 4294967295 by decide]
  rw [← e, fa_eq64, z]
  exact Int.emod_eq_of_lt h0 (by omega)
theorem gput_id {w : Nat → Int32} {M : Nat → Int64} {p : Int32} {v : Int64} (hp : ¬ p.toInt < 8) (h0 : 0 ≤ v.toInt) (h1 : v.toInt < 4294967296) : gput w M p v = vp_updL M p.toNatClampNeg v := by rw [gput_cell hp, kcell_id h0 h1]
theorem gput_e {w : Nat → Int32} {z M : Nat → Int64} {d : Int32} {G : Int64} (h : z = gput w M d G) : z d.toNatClampNeg = kput w d G := by
  rw [h]
  exact if_pos rfl
theorem flag_in {c : Prop} [Decidable c] : 0 ≤ (if c then (1 : Int64) else 0).toInt ∧ (if c then (1 : Int64) else 0).toInt < 4294967296 := by
  split <;> decide
theorem wk_ref {w : Nat → Int32} {k d : Int32} {a b G v8 v9 : Int64} {z M : Nat → Int64} (eG : wNum k a b = G) (hz : z = gput w M d G) (e8 : v8 = if kput w d G = 0 then 1 else 0) (e9 : v9 = wTop w k d G a b) : vp_updL (vp_updL z 8 v8) 9 v9 = wPut w k d a b M := by
  rw [← wk_eq eG e8 e9 M, hz]
  have i8 : 0 ≤ v8.toInt ∧ v8.toInt < 4294967296 := by rw [e8]; exact flag_in
  have i9 : 0 ≤ v9.toInt ∧ v9.toInt < 4294967296 := by rw [e9]; exact flag_in
  rw [gput_id (p := 8) (by decide) i8.1 i8.2, gput_id (p := 9) (by decide) i9.1 i9.2]
  rfl
theorem wT_a {w : Nat → Int32} {k d : Int32} {a b : Int64} (hw : IW w) (hd : 0 ≤ d.toInt ∧ d.toInt < 8) (ha : 0 ≤ a.toInt ∧ a.toInt < 4294967296) (hb : 0 ≤ b.toInt ∧ b.toInt < 4294967296) (hk : k.toInt = 2) : wTop w k d (a + b) a b = if (a + b).toInt < ((1 : Int64) <<< ((w d.toNatClampNeg).toInt64 &&& 63)).toInt then 0 else 1 := by
  have h9 := IW_at hw hd
  have z := kadd_top ha hb h9.1 h9.2
  unfold wTop
  rw [kput_reg hd.2]
  by_cases c : (a + b).toInt < ((1 : Int64) <<< ((w d.toNatClampNeg).toInt64 &&& 63)).toInt
  · rw [if_pos c, if_neg (fun q => q.elim (fun q => q.2 (z.mpr c)) (fun q => by omega))]
  · rw [if_neg c, if_pos (Or.inl ⟨hk, fun q => c (z.mp q)⟩)]
theorem wT_l {w : Nat → Int32} {k d : Int32} {G a b : Int64} (hk : k.toInt = 3) : wTop w k d G a b = if a.toInt < b.toInt then 1 else 0 := by
  unfold wTop
  by_cases c : a.toInt < b.toInt
  · rw [if_pos c, if_pos (Or.inr ⟨hk, c⟩)]
  · rw [if_neg c, if_neg (fun q => q.elim (fun q => by omega) (fun q => c q.2))]
theorem wT_o {w : Nat → Int32} {k d : Int32} {G a b : Int64} (h2 : ¬ k.toInt = 2) (h3 : ¬ k.toInt = 3) : wTop w k d G a b = 0 := by
  unfold wTop
  rw [if_neg (fun q => q.elim (fun q => h2 q.1) (fun q => h3 q.1))]
theorem hl_f {N : Nat → Int64} {k x y : Int32} (h : 9 ≤ k.toInt ∧ k.toInt ≤ 10) : (¬ aRes N k x y = 0) ↔ (N (8 + x).toNatClampNeg).toInt = y.toInt := by
  rcases (show k.toInt = 9 ∨ k.toInt = 10 by omega) with e | e
  · rw [aRes_sk e]
    split <;> simp_all
  · rw [aRes_ck e]
    split <;> simp_all
theorem hl_s {N : Nat → Int64} {k x y : Int32} (h : k.toInt = 7 ∨ k.toInt = 8) : (¬ aRes N k x y = 0) ↔ 63 < (N x.toNatClampNeg).toInt := by
  rw [aRes_fs h]
  split <;> simp_all
theorem IN_wPut {w : Nat → Int32} {k d : Int32} {a b : Int64} {M : Nat → Int64} (hw : IW w) (hM : IN M) (hd : 0 ≤ d.toInt) : IN (wPut w k d a b M) := by
  unfold wPut
  exact IN_gput hw (IN_gput hw (IN_gput hw hM hd) (by decide)) (by decide)
theorem IN_aPut {w : Nat → Int32} {N M : Nat → Int64} {k d x y : Int32} (hw : IW w) (hN : IN N) (hM : IN M) (hA : kAct k d x y) : IN (aPut w N M k d x y) := by
  have hk := kA_k hA
  by_cases c9 : 9 ≤ k.toInt
  · rw [aPut_f c9]
    exact hM
  · by_cases c8 : k.toInt = 8
    · rw [aPut_8 c8]
      split
      · exact hM
      · rename_i h63
        have hx := kA_x hA (by omega) (by omega)
        have hc := IN_at hN hx.1 (by omega)
        refine IN_gput hw hM ?_
        have e1 : (N x.toNatClampNeg).toInt32.toInt = (N x.toNatClampNeg).toInt := kl2i hc.1 (by omega)
        rw [Int32.toInt_add, e1]
        rw [show (10 : Int32).toInt = 10 by decide, fb_bmod (by omega) (by omega)]
        omega
    · have hd := kA_d hA (by omega)
      by_cases c7 : k.toInt = 7
      · rw [aPut_7 c7]
        split
        · exact hM
        · exact IN_gput hw hM hd.1
      · by_cases c6 : k.toInt = 6
        · rw [aPut_6 c6]
          exact IN_gput hw hM hd.1
        · by_cases c2 : 2 ≤ k.toInt ∧ k.toInt ≤ 5
          · rw [aPut_w c2]
            exact IN_wPut hw hM hd.1
          · by_cases c1 : k.toInt = 1
            · rw [aPut_1 c1]
              exact IN_gput hw hM hd.1
            · rw [aPut_0 (by omega)]
              exact IN_gput hw hM hd.1
-- words of one act
theorem tkT_one {N : Nat → Int64} {K X Y : Nat → Int32} {base n : Nat} : ∀ k, tkT N K X Y base (2 ^ n) k = if n < k ∧ aRes N (K (base + n)) (X (base + n)) (Y (base + n)) = 2 then nI n else -1
  | 0 => by rw [if_neg (by omega), tkT_z]
  | k + 1 => by
    have ih := tkT_one (N := N) (K := K) (X := X) (Y := Y) (base := base) (n := n) k
    by_cases e : n = k
    · subst e
      rw [if_neg (by omega)] at ih
      by_cases c : aRes N (K (base + n)) (X (base + n)) (Y (base + n)) = 2
      · rw [if_pos ⟨by omega, c⟩, tkT_1 ih ((mPow_t n n).mpr rfl) c]
      · rw [if_neg (fun z => c z.2), tkT_0 (fun z => c z.2.2)]
        exact ih
    · rw [tkT_0 (fun z => e ((mPow_t n k).mp z.2.1)), ih]
      by_cases c : n < k ∧ aRes N (K (base + n)) (X (base + n)) (Y (base + n)) = 2
      · rw [if_pos c, if_pos ⟨by omega, c.2⟩]
      · rw [if_neg c, if_neg (fun z => c ⟨by omega, z.2⟩)]
theorem tkS_one {N : Nat → Int64} {K X Y : Nat → Int32} {base n : Nat} : ∀ k, tkS N K X Y base (2 ^ n) k = if n < k ∧ aRes N (K (base + n)) (X (base + n)) (Y (base + n)) = 1 then 1 else 0
  | 0 => by rw [if_neg (by omega), tkS_z]
  | k + 1 => by
    have ih := tkS_one (N := N) (K := K) (X := X) (Y := Y) (base := base) (n := n) k
    by_cases e : n = k
    · subst e
      rw [if_neg (by omega)] at ih
      by_cases c : aRes N (K (base + n)) (X (base + n)) (Y (base + n)) = 1
      · rw [if_pos ⟨by omega, c⟩, tkS_1 ((mPow_t n n).mpr rfl) c]
      · rw [if_neg (fun z => c z.2), tkS_0 (fun z => c z.2)]
        exact ih
    · rw [tkS_0 (fun z => e ((mPow_t n k).mp z.1)), ih]
      by_cases c : n < k ∧ aRes N (K (base + n)) (X (base + n)) (Y (base + n)) = 1
      · rw [if_pos c, if_pos ⟨by omega, c.2⟩]
      · rw [if_neg c, if_neg (fun z => c ⟨by omega, z.2⟩)]
theorem tkF_one {w : Nat → Int32} {N M : Nat → Int64} {K D X Y : Nat → Int32} {base n : Nat} : ∀ k, tkF w N K D X Y base (2 ^ n) k M = if n < k then aPut w N M (K (base + n)) (D (base + n)) (X (base + n)) (Y (base + n)) else M
  | 0 => by rw [if_neg (by omega), tkF_z]
  | k + 1 => by
    have ih := tkF_one (w := w) (N := N) (M := M) (K := K) (D := D) (X := X) (Y := Y) (base := base) (n := n) k
    by_cases e : n = k
    · subst e
      rw [if_neg (by omega)] at ih
      rw [if_pos (by omega), tkF_in ((mPow_t n n).mpr rfl), ih]
    · rw [tkF_no (fun z => e ((mPow_t n k).mp z)), ih]
      by_cases c : n < k
      · rw [if_pos c, if_pos (by omega)]
      · rw [if_neg c, if_neg (by omega)]
/-- plainly: an act goes on, skips, traps -/
theorem pl_go {w : Nat → Int32} {K D X Y : Nat → Int32} {base : Nat} {N0 g : Nat → Int64} {n a o : Nat} {t : Int32} (hn : n < 10) (h : rnS w K D X Y base (fun j => 2 ^ j) N0 n = (0, g, a, o, t)) (e : aRes g (K (base + n)) (X (base + n)) (Y (base + n)) = 0) : rnS w K D X Y base (fun j => 2 ^ j) N0 (n + 1) = (0, aPut w g g (K (base + n)) (D (base + n)) (X (base + n)) (Y (base + n)), a + 1, o + 1, -1) := by
  have t1 : tkT g K X Y base (2 ^ n) 10 = -1 := by rw [tkT_one, if_neg (fun z => by omega)]
  rw [rnS_go h]
  show (wdH g K X Y base (2 ^ n), wdN w N0 g K D X Y base (2 ^ n), a + mCnt (2 ^ n) 10, o + 1, tkT g K X Y base (2 ^ n) 10) = _
  rw [wdH_g t1, wdN_g t1, t1, tkS_one, if_neg (fun z => by omega), tkF_one, if_pos hn, mCnt_pow, if_pos hn]
theorem pl_skip {w : Nat → Int32} {K D X Y : Nat → Int32} {base : Nat} {N0 g : Nat → Int64} {n a o : Nat} {t : Int32} (hn : n < 10) (h : rnS w K D X Y base (fun j => 2 ^ j) N0 n = (0, g, a, o, t)) (e : aRes g (K (base + n)) (X (base + n)) (Y (base + n)) = 1) : rnS w K D X Y base (fun j => 2 ^ j) N0 (n + 1) = (1, g, a + 1, o + 1, -1) := by
  have t1 : tkT g K X Y base (2 ^ n) 10 = -1 := by rw [tkT_one, if_neg (fun z => by omega)]
  rw [rnS_go h]
  show (wdH g K X Y base (2 ^ n), wdN w N0 g K D X Y base (2 ^ n), a + mCnt (2 ^ n) 10, o + 1, tkT g K X Y base (2 ^ n) 10) = _
  rw [wdH_g t1, wdN_g t1, t1, tkS_one, if_pos ⟨hn, e⟩, tkF_one, if_pos hn, aPut_no (by omega), mCnt_pow, if_pos hn]
theorem pl_trap {w : Nat → Int32} {K D X Y : Nat → Int32} {base : Nat} {N0 g : Nat → Int64} {n a o : Nat} {t : Int32} (hn : n < 10) (h : rnS w K D X Y base (fun j => 2 ^ j) N0 n = (0, g, a, o, t)) (e : aRes g (K (base + n)) (X (base + n)) (Y (base + n)) = 2) : rnS w K D X Y base (fun j => 2 ^ j) N0 (n + 1) = (2, N0, a + 1, o + 1, nI n) := by
  have t1 : tkT g K X Y base (2 ^ n) 10 = nI n := by rw [tkT_one, if_pos ⟨hn, e⟩]
  have t2 : ¬ tkT g K X Y base (2 ^ n) 10 = -1 := by
    rw [t1, fa_eq, nI_toInt (by omega)]
    show ¬ (n : Int) = -1
    omega
  rw [rnS_go h]
  show (wdH g K X Y base (2 ^ n), wdN w N0 g K D X Y base (2 ^ n), a + mCnt (2 ^ n) 10, o + 1, tkT g K X Y base (2 ^ n) 10) = _
  rw [wdH_t t2, wdN_t t2, t1, mCnt_pow, if_pos hn]
-- words: acts beyond the row are in none
theorem tkF_up {w : Nat → Int32} {N M : Nat → Int64} {K D X Y : Nat → Int32} {base m n : Nat} (h : m < 2 ^ n) : ∀ k, tkF w N K D X Y base m (n + k) M = tkF w N K D X Y base m n M
  | 0 => rfl
  | k + 1 => by
    show tkF w N K D X Y base m (n + k + 1) M = _
    rw [tkF_no (fun z => by have := mBit_lt h z; omega)]
    exact tkF_up h k
theorem tkS_up {N : Nat → Int64} {K X Y : Nat → Int32} {base m n : Nat} (h : m < 2 ^ n) : ∀ k, tkS N K X Y base m (n + k) = tkS N K X Y base m n
  | 0 => rfl
  | k + 1 => by
    show tkS N K X Y base m (n + k + 1) = _
    rw [tkS_0 (fun z => by have := mBit_lt h z.1; omega)]
    exact tkS_up h k
theorem tkT_up {N : Nat → Int64} {K X Y : Nat → Int32} {base m n : Nat} (h : m < 2 ^ n) : ∀ k, tkT N K X Y base m (n + k) = tkT N K X Y base m n
  | 0 => rfl
  | k + 1 => by
    show tkT N K X Y base m (n + k + 1) = _
    rw [tkT_0 (fun z => by have := mBit_lt h z.2.1; omega)]
    exact tkT_up h k
theorem mCnt_up {m n : Nat} (h : m < 2 ^ n) : ∀ k, mCnt m (n + k) = mCnt m n
  | 0 => rfl
  | k + 1 => by
    show mCnt m (n + k + 1) = _
    rw [mCnt_no (fun z => by have := mBit_lt h z; omega)]
    exact mCnt_up h k
/-- the packing of q -/
noncomputable def pkL (q : mPI) : Nat := @dite Nat (∃ L, mMW q 0 L) (Classical.propDecidable _) (fun h => Classical.choose h) (fun _ => 0)
noncomputable def pkA (q : mPI) : Nat → Nat := @dite (Nat → Nat) (∃ A, mPW q A (pkL q) 0 0) (Classical.propDecidable _) (fun h => Classical.choose h) (fun _ _ => 0)
theorem pk_L {q : mPI} {L : Nat} (h : mMW q 0 L) : pkL q = L := by
  have hx : ∃ L, mMW q 0 L := ⟨L, h⟩
  unfold pkL
  rw [dif_pos hx]
  exact mMW_unique (Classical.choose_spec hx) h
theorem pk_W {q : mPI} {L : Nat} {A : Nat → Nat} (h : mMW q 0 L) (hA : mPW q A L 0 0) : mPW q (pkA q) (pkL q) 0 0 := by
  have hx : ∃ A, mPW q A (pkL q) 0 0 := ⟨A, by rw [pk_L h]; exact hA⟩
  unfold pkA
  rw [dif_pos hx]
  exact Classical.choose_spec hx
theorem pk_A {q : mPI} {L : Nat} {A : Nat → Nat} (h : mMW q 0 L) (hA : mPW q A L 0 0) : ∀ j, j < L → pkA q j = A j := by
  intro j hj
  have z := pk_W h hA
  rw [pk_L h] at z
  exact mPW_unique q L 0 0 z hA j (Nat.zero_le _) (by omega)
theorem PK8_can {K D X Y L8 WC : Nat → Int32} {wd : Nat → Nat} {bs i : Nat} (h : PK8 K D X Y L8 WC wd bs i) : WC i = nI (pkL (iQ K (rR K X Y) (rW K D) (lenN L8 i) i bs)) ∧ pkL (iQ K (rR K X Y) (rW K D) (lenN L8 i) i bs) ≤ 10 ∧ mPW (iQ K (rR K X Y) (rW K D) (lenN L8 i) i bs) (pkA (iQ K (rR K X Y) (rW K D) (lenN L8 i) i bs)) (pkL (iQ K (rR K X Y) (rW K D) (lenN L8 i) i bs)) 0 0 ∧ WD (pkA (iQ K (rR K X Y) (rW K D) (lenN L8 i) i bs)) wd (i * 10) (pkL (iQ K (rR K X Y) (rW K D) (lenN L8 i) i bs)) := by
  obtain ⟨L, A, e1, e2, e3, e4, e5⟩ := h
  have z := pk_L e3
  refine ⟨by rw [z]; exact e1, by omega, pk_W e3 e4, ?_⟩
  intro j hj b hb
  rw [z] at hj
  rw [pk_A e3 e4 j hj] at hb
  exact e5 j hj b hb
theorem PK1_can {K R W L5 L3 : Nat → Int32} {aO : Nat → Nat} {bs i : Nat} (h : PK1 K R W L5 L3 aO bs i) : L3 i = nI (pkL (iQ K R W (lenN L5 i) i bs)) ∧ pkL (iQ K R W (lenN L5 i) i bs) ≤ 10 ∧ mPW (iQ K R W (lenN L5 i) i bs) (pkA (iQ K R W (lenN L5 i) i bs)) (pkL (iQ K R W (lenN L5 i) i bs)) 0 0 ∧ ∀ j, j < pkL (iQ K R W (lenN L5 i) i bs) → aO (i * 10 + j) = pkA (iQ K R W (lenN L5 i) i bs) j := by
  obtain ⟨L, e1, e2, e3, e4⟩ := h
  have z := pk_L e3
  refine ⟨by rw [z]; exact e1, by omega, pk_W e3 e4, ?_⟩
  intro j hj
  rw [z] at hj
  exact (pk_A e3 e4 j hj).symm
theorem WD_lt {q : mPI} {A wd : Nat → Nat} {base L b : Nat} (hP : mPW q A L 0 0) (hD : WD A wd base L) (hb : b < q.1) : wd (base + b) < L := by
  obtain ⟨j, h1, h2, h3⟩ := mPW_cov L 0 0 hP b hb (Nat.zero_testBit b)
  rw [hD j (by omega) b h3]
  omega
theorem WD_iff {q : mPI} {A wd : Nat → Nat} {base L b w : Nat} (hP : mPW q A L 0 0) (hD : WD A wd base L) (hb : b < q.1) (hw : w < L) : (A w).testBit b = true ↔ wd (base + b) = w := by
  constructor
  · exact hD w hw b
  · intro h
    obtain ⟨j, h1, h2, h3⟩ := mPW_cov L 0 0 hP b hb (Nat.zero_testBit b)
    have := hD j (by omega) b h3
    rw [← h, this]
    exact h3
