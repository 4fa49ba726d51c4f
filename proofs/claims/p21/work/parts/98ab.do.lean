-- what acts do, exactly; both sides are tied to these
/-- kinds 2 .. 5: the number that d gets, the flag TOP, all that is put -/
def wNum (k : Int32) (a b : Int64) : Int64 := if k.toInt = 2 then a + b else if k.toInt = 3 then a - b else if k.toInt = 4 then a &&& b else a ^^^ b
def wTop (w : Nat → Int32) (k d : Int32) (G a b : Int64) : Int64 := if (k.toInt = 2 ∧ ¬ G = kput w d G) ∨ (k.toInt = 3 ∧ a.toInt < b.toInt) then 1 else 0
def wPut (w : Nat → Int32) (k d : Int32) (a b : Int64) (M : Nat → Int64) : Nat → Int64 := gput w (gput w (gput w M d (wNum k a b)) 8 (if kput w d (wNum k a b) = 0 then 1 else 0)) 9 (wTop w k d (wNum k a b) a b)
theorem wk_eq {w : Nat → Int32} {k d : Int32} {a b G v8 v9 : Int64} (eG : wNum k a b = G) (e8 : v8 = if kput w d G = 0 then 1 else 0) (e9 : v9 = wTop w k d G a b) : ∀ M, gput w (gput w (gput w M d G) 8 v8) 9 v9 = wPut w k d a b M := by
  intro M
  rw [e8, e9, ← eG]
  rfl
/-- what act (k, d, x, y) does where the numbers are N: 0 it goes on, 1 it skips, 2 it traps -/
def aRes (N : Nat → Int64) (k x y : Int32) : Nat :=
  if k.toInt = 7 ∨ k.toInt = 8 then (if 63 < (N x.toNatClampNeg).toInt then 2 else 0)
  else if k.toInt = 9 then (if (N (8 + x).toNatClampNeg).toInt = y.toInt then 1 else 0)
  else if k.toInt = 10 then (if (N (8 + x).toNatClampNeg).toInt = y.toInt then 2 else 0) else 0
/-- what it writes, read at N, into M (only where it goes ov) -/
def aPut (w : Nat → Int32) (N M : Nat → Int64) (k d x y : Int32) : Nat → Int64 :=
  if ¬ aRes N k x y = 0 then M
  else if k.toInt = 0 then gput w M d x.toInt64
  else if k.toInt = 1 then gput w M d (N x.toNatClampNeg)
  else if k.toInt = 6 then gput w M d (if y.toInt < 0 then N x.toNatClampNeg >>> ((-y).toInt64 &&& 63) else N x.toNatClampNeg <<< (y.toInt64 &&& 63))
  else if k.toInt = 7 then gput w M d (N (10 + (N x.toNatClampNeg).toInt32).toNatClampNeg)
  else if k.toInt = 8 then gput w M (10 + (N x.toNatClampNeg).toInt32) (N y.toNatClampNeg)
  else if 2 ≤ k.toInt ∧ k.toInt ≤ 5 then wPut w k d (N x.toNatClampNeg) (N y.toNatClampNeg) M
  else M
theorem aRes_le (N : Nat → Int64) (k x y : Int32) : aRes N k x y ≤ 2 := by
  unfold aRes
  (repeat' split) <;> omega
theorem aRes_go {N : Nat → Int64} {k x y : Int32} (h : k.toInt < 7) : aRes N k x y = 0 := by
  unfold aRes
  rw [if_neg (by omega), if_neg (by omega), if_neg (by omega)]
theorem aRes_fs {N : Nat → Int64} {k x y : Int32} (h : k.toInt = 7 ∨ k.toInt = 8) : aRes N k x y = if 63 < (N x.toNatClampNeg).toInt then 2 else 0 := if_pos h
theorem aRes_sk {N : Nat → Int64} {k x y : Int32} (h : k.toInt = 9) : aRes N k x y = if (N (8 + x).toNatClampNeg).toInt = y.toInt then 1 else 0 := by
  unfold aRes
  rw [if_neg (by omega), if_pos h]
theorem aRes_ck {N : Nat → Int64} {k x y : Int32} (h : k.toInt = 10) : aRes N k x y = if (N (8 + x).toNatClampNeg).toInt = y.toInt then 2 else 0 := by
  unfold aRes
  rw [if_neg (by omega), if_neg (by omega), if_pos h]
theorem aRes_9 {N : Nat → Int64} {k x y : Int32} (h : ¬ aRes N k x y = 0) : (aRes N k x y = 1 ↔ k.toInt = 9) := by
  unfold aRes at h ⊢
  by_cases h1 : k.toInt = 7 ∨ k.toInt = 8
  · rw [if_pos h1] at h ⊢
    split <;> omega
  · rw [if_neg h1] at h ⊢
    by_cases h2 : k.toInt = 9
    · rw [if_pos h2] at h ⊢
      split
      · omega
      · rename_i h3
        rw [if_neg h3] at h
        omega
    · rw [if_neg h2] at h ⊢
      by_cases h3 : k.toInt = 10
      · rw [if_pos h3] at h ⊢
        split <;> omega
      · rw [if_neg h3] at h
        exact absurd rfl h
theorem aPut_no {w : Nat → Int32} {N M : Nat → Int64} {k d x y : Int32} (h : ¬ aRes N k x y = 0) : aPut w N M k d x y = M := if_pos h
theorem aPut_0 {w : Nat → Int32} {N M : Nat → Int64} {k d x y : Int32} (h : k.toInt = 0) : aPut w N M k d x y = gput w M d x.toInt64 := by
  unfold aPut
  rw [if_neg (fun z => z (aRes_go (by omega))), if_pos h]
theorem aPut_1 {w : Nat → Int32} {N M : Nat → Int64} {k d x y : Int32} (h : k.toInt = 1) : aPut w N M k d x y = gput w M d (N x.toNatClampNeg) := by
  unfold aPut
  rw [if_neg (fun z => z (aRes_go (by omega))), if_neg (by omega), if_pos h]
theorem aPut_6 {w : Nat → Int32} {N M : Nat → Int64} {k d x y : Int32} (h : k.toInt = 6) : aPut w N M k d x y = gput w M d (if y.toInt < 0 then N x.toNatClampNeg >>> ((-y).toInt64 &&& 63) else N x.toNatClampNeg <<< (y.toInt64 &&& 63)) := by
  unfold aPut
  rw [if_neg (fun z => z (aRes_go (by omega))), if_neg (by omega), if_neg (by omega), if_pos h]
theorem aPut_6n {w : Nat → Int32} {N M : Nat → Int64} {k d x y : Int32} (h : k.toInt = 6) (hy : y.toInt < 0) : aPut w N M k d x y = gput w M d (N x.toNatClampNeg >>> ((-y).toInt64 &&& 63)) := by rw [aPut_6 h, if_pos hy]
theorem aPut_6p {w : Nat → Int32} {N M : Nat → Int64} {k d x y : Int32} (h : k.toInt = 6) (hy : ¬ y.toInt < 0) : aPut w N M k d x y = gput w M d (N x.toNatClampNeg <<< (y.toInt64 &&& 63)) := by rw [aPut_6 h, if_neg hy]
theorem aPut_7 {w : Nat → Int32} {N M : Nat → Int64} {k d x y : Int32} (h : k.toInt = 7) : aPut w N M k d x y = if 63 < (N x.toNatClampNeg).toInt then M else gput w M d (N (10 + (N x.toNatClampNeg).toInt32).toNatClampNeg) := by
  unfold aPut
  rw [aRes_fs (Or.inl h)]
  by_cases c : 63 < (N x.toNatClampNeg).toInt
  · rw [if_pos c, if_pos c, if_pos (by decide)]
  · rw [if_neg c, if_neg c, if_neg (by decide), if_neg (by omega), if_neg (by omega), if_neg (by omega), if_pos h]
theorem aPut_8 {w : Nat → Int32} {N M : Nat → Int64} {k d x y : Int32} (h : k.toInt = 8) : aPut w N M k d x y = if 63 < (N x.toNatClampNeg).toInt then M else gput w M (10 + (N x.toNatClampNeg).toInt32) (N y.toNatClampNeg) := by
  unfold aPut
  rw [aRes_fs (Or.inr h)]
  by_cases c : 63 < (N x.toNatClampNeg).toInt
  · rw [if_pos c, if_pos c, if_pos (by decide)]
  · rw [if_neg c, if_neg c, if_neg (by decide), if_neg (by omega), if_neg (by omega), if_neg (by omega), if_neg (by omega), if_pos h]
theorem aPut_w {w : Nat → Int32} {N M : Nat → Int64} {k d x y : Int32} (h : 2 ≤ k.toInt ∧ k.toInt ≤ 5) : aPut w N M k d x y = wPut w k d (N x.toNatClampNeg) (N y.toNatClampNeg) M := by
  unfold aPut
  rw [if_neg (fun z => z (aRes_go (by omega))), if_neg (by omega), if_neg (by omega), if_neg (by omega), if_neg (by omega), if_neg (by omega), if_pos h]
theorem aPut_f {w : Nat → Int32} {N M : Nat → Int64} {k d x y : Int32} (h : 9 ≤ k.toInt) : aPut w N M k d x y = M := by
  unfold aPut
  split
  · rfl
  · rw [if_neg (by omega), if_neg (by omega), if_neg (by omega), if_neg (by omega), if_neg (by omega), if_neg (by omega)]
/-- the acts b < n of a word (its acts are the bits of m), read at N, put into M -/
def tkF (w : Nat → Int32) (N : Nat → Int64) (K D X Y : Nat → Int32) (base m n : Nat) (M : Nat → Int64) : Nat → Int64 :=
  match n with
  | 0 => M
  | b + 1 => if m.testBit b = true then aPut w N (tkF w N K D X Y base m b M) (K (base + b)) (D (base + b)) (X (base + b)) (Y (base + b)) else tkF w N K D X Y base m b M
termination_by n
/-- one of them skips -/
def tkS (N : Nat → Int64) (K X Y : Nat → Int32) (base m n : Nat) : Nat :=
  match n with
  | 0 => 0
  | b + 1 => if m.testBit b = true ∧ aRes N (K (base + b)) (X (base + b)) (Y (base + b)) = 1 then 1 else tkS N K X Y base m b
termination_by n
/-- the first of them that traps, or -1 -/
def tkT (N : Nat → Int64) (K X Y : Nat → Int32) (base m n : Nat) : Int32 :=
  match n with
  | 0 => -1
  | b + 1 => if tkT N K X Y base m b = -1 ∧ m.testBit b = true ∧ aRes N (K (base + b)) (X (base + b)) (Y (base + b)) = 2 then nI b else tkT N K X Y base m b
termination_by n
theorem tkF_z {w : Nat → Int32} {N M : Nat → Int64} {K D X Y : Nat → Int32} {base m : Nat} : tkF w N K D X Y base m 0 M = M := by rw [tkF]
theorem tkS_z {N : Nat → Int64} {K X Y : Nat → Int32} {base m : Nat} : tkS N K X Y base m 0 = 0 := by rw [tkS]
theorem tkT_z {N : Nat → Int64} {K X Y : Nat → Int32} {base m : Nat} : tkT N K X Y base m 0 = -1 := by rw [tkT]
theorem tkF_s {w : Nat → Int32} {N M : Nat → Int64} {K D X Y : Nat → Int32} {base m b : Nat} : tkF w N K D X Y base m (b + 1) M = if m.testBit b = true then aPut w N (tkF w N K D X Y base m b M) (K (base + b)) (D (base + b)) (X (base + b)) (Y (base + b)) else tkF w N K D X Y base m b M := by rw [tkF]
theorem tkS_s {N : Nat → Int64} {K X Y : Nat → Int32} {base m b : Nat} : tkS N K X Y base m (b + 1) = if m.testBit b = true ∧ aRes N (K (base + b)) (X (base + b)) (Y (base + b)) = 1 then 1 else tkS N K X Y base m b := by rw [tkS]
theorem tkT_s {N : Nat → Int64} {K X Y : Nat → Int32} {base m b : Nat} : tkT N K X Y base m (b + 1) = if tkT N K X Y base m b = -1 ∧ m.testBit b = true ∧ aRes N (K (base + b)) (X (base + b)) (Y (base + b)) = 2 then nI b else tkT N K X Y base m b := by rw [tkT]
theorem tkF_in {w : Nat → Int32} {N M : Nat → Int64} {K D X Y : Nat → Int32} {base m b : Nat} (h : m.testBit b = true) : tkF w N K D X Y base m (b + 1) M = aPut w N (tkF w N K D X Y base m b M) (K (base + b)) (D (base + b)) (X (base + b)) (Y (base + b)) := by rw [tkF_s, if_pos h]
theorem tkF_no {w : Nat → Int32} {N M : Nat → Int64} {K D X Y : Nat → Int32} {base m b : Nat} (h : ¬ m.testBit b = true) : tkF w N K D X Y base m (b + 1) M = tkF w N K D X Y base m b M := by rw [tkF_s, if_neg h]
theorem tkS_le {N : Nat → Int64} {K X Y : Nat → Int32} {base m : Nat} : ∀ b, tkS N K X Y base m b ≤ 1
  | 0 => by
    rw [tkS_z]
    exact Nat.zero_le _
  | b + 1 => by
    have := tkS_le (N := N) (K := K) (X := X) (Y := Y) (base := base) (m := m) b
    rw [tkS_s]
    split <;> omega
theorem tkS_1 {N : Nat → Int64} {K X Y : Nat → Int32} {base m b : Nat} (h : m.testBit b = true) (e : aRes N (K (base + b)) (X (base + b)) (Y (base + b)) = 1) : tkS N K X Y base m (b + 1) = 1 := by rw [tkS_s, if_pos ⟨h, e⟩]
theorem tkS_0 {N : Nat → Int64} {K X Y : Nat → Int32} {base m b : Nat} (h : ¬ (m.testBit b = true ∧ aRes N (K (base + b)) (X (base + b)) (Y (base + b)) = 1)) : tkS N K X Y base m (b + 1) = tkS N K X Y base m b := by rw [tkS_s, if_neg h]
theorem tkT_1 {N : Nat → Int64} {K X Y : Nat → Int32} {base m b : Nat} (h0 : tkT N K X Y base m b = -1) (h : m.testBit b = true) (e : aRes N (K (base + b)) (X (base + b)) (Y (base + b)) = 2) : tkT N K X Y base m (b + 1) = nI b := by rw [tkT_s, if_pos ⟨h0, h, e⟩]
theorem tkT_0 {N : Nat → Int64} {K X Y : Nat → Int32} {base m b : Nat} (h : ¬ (tkT N K X Y base m b = -1 ∧ m.testBit b = true ∧ aRes N (K (base + b)) (X (base + b)) (Y (base + b)) = 2)) : tkT N K X Y base m (b + 1) = tkT N K X Y base m b := by rw [tkT_s, if_neg h]
theorem tkT_rng {N : Nat → Int64} {K X Y : Nat → Int32} {base m : Nat} : ∀ b, b ≤ 100 → tkT N K X Y base m b = -1 ∨ (0 ≤ (tkT N K X Y base m b).toInt ∧ (tkT N K X Y base m b).toInt < b)
  | 0, _ => Or.inl tkT_z
  | b + 1, hb => by
    have ih := tkT_rng (N := N) (K := K) (X := X) (Y := Y) (base := base) (m := m) b (by omega)
    rw [tkT_s]
    split
    · refine Or.inr ?_
      rw [nI_toInt (by omega)]
      omega
    · rcases ih with e | e
      · exact Or.inl e
      · exact Or.inr (by omega)
/-- a word: how it ends, what the numbers are behind it (N0: where the instruction began) -/
def wdH (N : Nat → Int64) (K X Y : Nat → Int32) (base m : Nat) : Nat := if tkT N K X Y base m 10 = -1 then tkS N K X Y base m 10 else 2
def wdN (w : Nat → Int32) (N0 N : Nat → Int64) (K D X Y : Nat → Int32) (base m : Nat) : Nat → Int64 := if tkT N K X Y base m 10 = -1 then tkF w N K D X Y base m 10 N else N0
/-- one word more: how it ended, numbers, acts done, words done, the act that trapped -/
def rn1 (w : Nat → Int32) (K D X Y : Nat → Int32) (base m : Nat) (N0 : Nat → Int64) (S : Nat × (Nat → Int64) × Nat × Nat × Int32) : Nat × (Nat → Int64) × Nat × Nat × Int32 :=
  if S.1 = 0 then (wdH S.2.1 K X Y base m, wdN w N0 S.2.1 K D X Y base m, S.2.2.1 + mCnt m 10, S.2.2.2.1 + 1, tkT S.2.1 K X Y base m 10) else S
/-- the first n words of an instruction -/
def rnS (w : Nat → Int32) (K D X Y : Nat → Int32) (base : Nat) (A : Nat → Nat) (N0 : Nat → Int64) (n : Nat) : Nat × (Nat → Int64) × Nat × Nat × Int32 :=
  match n with
  | 0 => (0, N0, 0, 0, -1)
  | n + 1 => rn1 w K D X Y base (A n) N0 (rnS w K D X Y base A N0 n)
termination_by n
theorem rnS_0 {w : Nat → Int32} {K D X Y : Nat → Int32} {base : Nat} {A : Nat → Nat} {N0 : Nat → Int64} : rnS w K D X Y base A N0 0 = (0, N0, 0, 0, -1) := by rw [rnS]
theorem rnS_s {w : Nat → Int32} {K D X Y : Nat → Int32} {base : Nat} {A : Nat → Nat} {N0 : Nat → Int64} {n : Nat} : rnS w K D X Y base A N0 (n + 1) = rn1 w K D X Y base (A n) N0 (rnS w K D X Y base A N0 n) := by rw [rnS]
theorem rn1_go {w : Nat → Int32} {K D X Y : Nat → Int32} {base m : Nat} {N0 : Nat → Int64} {S : Nat × (Nat → Int64) × Nat × Nat × Int32} (h : S.1 = 0) : rn1 w K D X Y base m N0 S = (wdH S.2.1 K X Y base m, wdN w N0 S.2.1 K D X Y base m, S.2.2.1 + mCnt m 10, S.2.2.2.1 + 1, tkT S.2.1 K X Y base m 10) := if_pos h
theorem rn1_st {w : Nat → Int32} {K D X Y : Nat → Int32} {base m : Nat} {N0 : Nat → Int64} {S : Nat × (Nat → Int64) × Nat × Nat × Int32} (h : ¬ S.1 = 0) : rn1 w K D X Y base m N0 S = S := if_neg h
theorem rnS_go {w : Nat → Int32} {K D X Y : Nat → Int32} {base : Nat} {A : Nat → Nat} {N0 g : Nat → Int64} {n a o : Nat} {t : Int32} (h : rnS w K D X Y base A N0 n = (0, g, a, o, t)) : rnS w K D X Y base A N0 (n + 1) = (wdH g K X Y base (A n), wdN w N0 g K D X Y base (A n), a + mCnt (A n) 10, o + 1, tkT g K X Y base (A n) 10) := by
  rw [rnS_s, h, rn1_go rfl]
theorem rnS_st {w : Nat → Int32} {K D X Y : Nat → Int32} {base : Nat} {A : Nat → Nat} {N0 : Nat → Int64} {n : Nat} (h : ¬ (rnS w K D X Y base A N0 n).1 = 0) : ∀ k, rnS w K D X Y base A N0 (n + k) = rnS w K D X Y base A N0 n
  | 0 => rfl
  | k + 1 => by
    have ih := rnS_st h k
    rw [← Nat.add_assoc, rnS_s, ih, rn1_st h]
theorem rnS_end {w : Nat → Int32} {K D X Y : Nat → Int32} {base : Nat} {A : Nat → Nat} {N0 g : Nat → Int64} {n m ho a o : Nat} {t : Int32} (h : rnS w K D X Y base A N0 n = (ho, g, a, o, t)) (hn : n ≤ m) (he : n = m ∨ ¬ ho = 0) : rnS w K D X Y base A N0 m = (ho, g, a, o, t) := by
  rcases he with e | e
  · rw [← e]
    exact h
  · obtain ⟨k, rfl⟩ : ∃ k, m = n + k := ⟨m - n, by omega⟩
    rw [rnS_st (by rw [h]; exact e) k]
    exact h
/-- while it goes on, nothing has trapped -/
theorem rnS_T {w : Nat → Int32} {K D X Y : Nat → Int32} {base : Nat} {A : Nat → Nat} {N0 : Nat → Int64} : ∀ n, (rnS w K D X Y base A N0 n).1 = 0 → (rnS w K D X Y base A N0 n).2.2.2.2 = -1
  | 0, _ => by rw [rnS_0]
  | n + 1, h => by
    rw [rnS_s] at h ⊢
    by_cases c : (rnS w K D X Y base A N0 n).1 = 0
    · rw [rn1_go c] at h ⊢
      have h : wdH (rnS w K D X Y base A N0 n).2.1 K X Y base (A n) = 0 := h
      show tkT (rnS w K D X Y base A N0 n).2.1 K X Y base (A n) 10 = -1
      unfold wdH at h
      by_cases q : tkT (rnS w K D X Y base A N0 n).2.1 K X Y base (A n) 10 = -1
      · exact q
      · rw [if_neg q] at h
        exact absurd h (by decide)
    · rw [rn1_st c] at h
      exact absurd h c
theorem rnS_A {w : Nat → Int32} {K D X Y : Nat → Int32} {base : Nat} {A : Nat → Nat} {N0 : Nat → Int64} : ∀ n, (rnS w K D X Y base A N0 n).2.2.1 ≤ sumN (fun j => mCnt (A j) 10) n
  | 0 => by
    rw [rnS_0]
    exact Nat.zero_le _
  | n + 1 => by
    have ih := rnS_A (w := w) (K := K) (D := D) (X := X) (Y := Y) (base := base) (A := A) (N0 := N0) n
    rw [rnS_s]
    show _ ≤ sumN (fun j => mCnt (A j) 10) n + mCnt (A n) 10
    by_cases c : (rnS w K D X Y base A N0 n).1 = 0
    · rw [rn1_go c]
      show (rnS w K D X Y base A N0 n).2.2.1 + mCnt (A n) 10 ≤ _
      omega
    · rw [rn1_st c]
      omega
theorem sumN_up {f : Nat → Nat} {n : Nat} : ∀ m, n ≤ m → sumN f n ≤ sumN f m
  | 0, h => by
    have : n = 0 := by omega
    subst this
    exact Nat.le_refl _
  | m + 1, h => by
    by_cases e : n = m + 1
    · subst e
      exact Nat.le_refl _
    · have := sumN_up (f := f) (n := n) m (by omega)
      show sumN f n ≤ sumN f m + f m
      omega
theorem mCnt_in {m k : Nat} (h : m.testBit k = true) : mCnt m (k + 1) = mCnt m k + 1 := by
  show mCnt m k + (if m.testBit k = true then 1 else 0) = _
  rw [if_pos h]
theorem mCnt_no {m k : Nat} (h : ¬ m.testBit k = true) : mCnt m (k + 1) = mCnt m k := by
  show mCnt m k + (if m.testBit k = true then 1 else 0) = _
  rw [if_neg h]
  rfl
theorem mCnt_or {a b : Nat} : ∀ k, (∀ i, a.testBit i = true → b.testBit i = false) → mCnt (b ||| a) k = mCnt b k + mCnt a k
  | 0, _ => rfl
  | k + 1, h => by
    have ih := mCnt_or (a := a) (b := b) k h
    by_cases ca : a.testBit k = true
    · have cb := h k ca
      rw [mCnt_in ((mOr_t b a k).mpr (Or.inr ca)), mCnt_in ca, mCnt_no (by rw [cb]; decide), ih]
      omega
    · by_cases cb : b.testBit k = true
      · rw [mCnt_in ((mOr_t b a k).mpr (Or.inl cb)), mCnt_in cb, mCnt_no ca, ih]
        omega
      · rw [mCnt_no (fun z => ((mOr_t b a k).mp z).elim cb ca), mCnt_no cb, mCnt_no ca, ih]
theorem mCnt_pow {k : Nat} : ∀ n, mCnt (2 ^ k) n = if k < n then 1 else 0
  | 0 => by rw [if_neg (by omega)]; rfl
  | n + 1 => by
    have ih := mCnt_pow (k := k) n
    by_cases e : k = n
    · rw [mCnt_in ((mPow_t k n).mpr e), ih, if_neg (by omega), if_pos (by omega)]
    · rw [mCnt_no (fun z => e ((mPow_t k n).mp z)), ih]
      by_cases c : k < n
      · rw [if_pos c, if_pos (by omega)]
      · rw [if_neg c, if_neg (by omega)]
theorem mPW_cnt {q : mPI} {A : Nat → Nat} : ∀ (L d w : Nat), mPW q A L d w → d = dnA A w → ∀ j, w ≤ j → j < w + L → ∀ i, (A j).testBit i = true → (dnA A j).testBit i = false
  | 0, _, _, _, _, j, h1, h2 => by omega
  | L + 1, d, w, h, hd, j, h1, h2 => by
    by_cases e : j = w
    · subst e
      rw [← hd]
      exact h.1.1.2.2.1
    · exact mPW_cnt L (d ||| A w) (w + 1) h.2 (by rw [hd]; rfl) j (by omega) (by omega)
theorem sumN_dn {A : Nat → Nat} : ∀ n, (∀ j, j < n → ∀ i, (A j).testBit i = true → (dnA A j).testBit i = false) → sumN (fun j => mCnt (A j) 10) n = mCnt (dnA A n) 10
  | 0, _ => by
    show 0 = mCnt 0 10
    decide
  | n + 1, h => by
    have ih := sumN_dn (A := A) n (fun j hj => h j (by omega))
    show sumN (fun j => mCnt (A j) 10) n + mCnt (A n) 10 = mCnt (dnA A n ||| A n) 10
    rw [ih, mCnt_or 10 (h n (by omega))]
/-- the words of a packing have ten acts at most, all told -/
theorem mPW_ten {q : mPI} {A : Nat → Nat} {L : Nat} (h : mPW q A L 0 0) : sumN (fun j => mCnt (A j) 10) L ≤ 10 := by
  rw [sumN_dn L (fun j hj => mPW_cnt L 0 0 h rfl j (Nat.zero_le _) (by omega))]
  exact mCnt_le _ 10
theorem sum_one {n : Nat} : ∀ k, k ≤ n → n ≤ 10 → sumN (fun j => mCnt (2 ^ j) 10) k = k
  | 0, _, _ => rfl
  | k + 1, h, hn => by
    have ih := sum_one (n := n) k (by omega) hn
    show sumN (fun j => mCnt (2 ^ j) 10) k + mCnt (2 ^ k) 10 = k + 1
    rw [ih, mCnt_pow, if_pos (by omega)]
/-- going back: the latest first -/
def undo (op : Nat → Int32) (ov : Nat → Int64) : Nat → (Nat → Int64) → (Nat → Int64)
  | 0, M => M
  | n + 1, M => undo op ov n (vp_updL M (op n).toNatClampNeg (ov n))
theorem undo_s {op : Nat → Int32} {ov M : Nat → Int64} {n : Nat} : undo op ov (n + 1) M = undo op ov n (vp_updL M (op n).toNatClampNeg (ov n)) := rfl
theorem undo_far {op : Nat → Int32} {ov : Nat → Int64} {k : Nat} {p : Int32} {v : Int64} : ∀ n M, n ≤ k → undo (upd op k p) (vp_updL ov k v) n M = undo op ov n M
  | 0, _, _ => rfl
  | n + 1, M, h => by
    have e : vp_updL ov k v n = ov n := if_neg (by omega)
    rw [undo_s, undo_s, undo_far n _ (by omega), pk_un (by omega), e]
theorem updL_back {M : Nat → Int64} {j : Nat} {v : Int64} : vp_updL (vp_updL M j v) j (M j) = M := by
  funext k
  unfold vp_updL
  by_cases e : k = j
  · rw [if_pos e, e]
  · rw [if_neg e, if_neg e]
theorem undo_push {w op : Nat → Int32} {ov M N0 : Nat → Int64} {n : Nat} {p : Int32} {v : Int64} (h : undo op ov n M = N0) : undo (upd op n p) (vp_updL ov n (M p.toNatClampNeg)) (n + 1) (gput w M p v) = N0 := by
  have e : vp_updL ov n (M p.toNatClampNeg) n = M p.toNatClampNeg := if_pos rfl
  have e2 : vp_updL (gput w M p v) p.toNatClampNeg (M p.toNatClampNeg) = M := updL_back
  rw [undo_s, undo_far n _ (Nat.le_refl _), pk_us, e, e2]
  exact h
theorem undo_dn {op : Nat → Int32} {ov g N0 : Nat → Int64} {x y : Int32} (h0 : 0 ≤ x.toInt) (hy : y.toInt = x.toInt - 1) (h : undo op ov (x.toInt + 1).toNat g = N0) : undo op ov (y.toInt + 1).toNat (vp_updL g (op x.toNatClampNeg).toNatClampNeg (ov x.toNatClampNeg)) = N0 := by
  have e1 : (x.toInt + 1).toNat = x.toNatClampNeg + 1 := by unfold Int32.toNatClampNeg; omega
  have e2 : (y.toInt + 1).toNat = x.toNatClampNeg := by unfold Int32.toNatClampNeg; omega
  rw [e1] at h
  rw [e2]
  exact h
theorem undo_z {op : Nat → Int32} {ov g N0 : Nat → Int64} {x : Int32} (h0 : x.toInt < 0) (h : undo op ov (x.toInt + 1).toNat g = N0) : g = N0 := by
  have e1 : (x.toInt + 1).toNat = 0 := by omega
  rw [e1] at h
  exact h
/-- the first n waiting numbers put into M, in their order -/
def wFold (w wp : Nat → Int32) (wn : Nat → Int64) : Nat → (Nat → Int64) → (Nat → Int64)
  | 0, M => M
  | n + 1, M => gput w (wFold w wp wn n M) (wp n) (wn n)
theorem wFold_far {w wp : Nat → Int32} {wn : Nat → Int64} {k : Nat} {p : Int32} {v : Int64} {M : Nat → Int64} : ∀ n, n ≤ k → wFold w (upd wp k p) (vp_updL wn k v) n M = wFold w wp wn n M
  | 0, _ => rfl
  | n + 1, h => by
    show gput w (wFold w (upd wp k p) (vp_updL wn k v) n M) (upd wp k p n) (vp_updL wn k v n) = gput w (wFold w wp wn n M) (wp n) (wn n)
    rw [wFold_far n (by omega), pk_un (by omega), show vp_updL wn k v n = wn n from if_neg (by omega)]
theorem wFold_push {w wp : Nat → Int32} {wn : Nat → Int64} {n : Nat} {p : Int32} {v : Int64} {M : Nat → Int64} : wFold w (upd wp n p) (vp_updL wn n v) (n + 1) M = gput w (wFold w wp wn n M) p v := by
  show gput w (wFold w (upd wp n p) (vp_updL wn n v) n M) (upd wp n p n) (vp_updL wn n v n) = _
  rw [wFold_far n (Nat.le_refl _), pk_us, show vp_updL wn n v n = v from if_pos rfl]
/-- some more waits: what it comes to -/
def WX (w : Nat → Int32) (wp : Nat → Int32) (wn : Nat → Int64) (n : Nat) (wp' : Nat → Int32) (wn' : Nat → Int64) (n' c : Nat) (F : (Nat → Int64) → Nat → Int64) : Prop := n ≤ n' ∧ n' ≤ n + c ∧ ∀ M, wFold w wp' wn' n' M = F (wFold w wp wn n M)
theorem WX_0 {w wp : Nat → Int32} {wn : Nat → Int64} {n c : Nat} : WX w wp wn n wp wn n c (fun M => M) := ⟨Nat.le_refl _, by omega, fun _ => rfl⟩
theorem WX_1 {w wp : Nat → Int32} {wn : Nat → Int64} {n : Nat} {p : Int32} {v : Int64} : WX w wp wn n (upd wp n p) (vp_updL wn n v) (n + 1) 1 (fun M => gput w M p v) := ⟨by omega, by omega, fun _ => wFold_push⟩
theorem WX_t {w wp wp1 wp2 : Nat → Int32} {wn wn1 wn2 : Nat → Int64} {n n1 n2 c d : Nat} {F G : (Nat → Int64) → Nat → Int64} (h1 : WX w wp wn n wp1 wn1 n1 c F) (h2 : WX w wp1 wn1 n1 wp2 wn2 n2 d G) : WX w wp wn n wp2 wn2 n2 (c + d) (fun M => G (F M)) := by
  obtain ⟨a1, a2, a3⟩ := h1
  obtain ⟨b1, b2, b3⟩ := h2
  exact ⟨by omega, by omega, fun M => by rw [b3, a3]⟩
theorem WX_c {w wp wp1 : Nat → Int32} {wn wn1 : Nat → Int64} {n n1 c d : Nat} {F G : (Nat → Int64) → Nat → Int64} (h : WX w wp wn n wp1 wn1 n1 c F) (hc : c ≤ d) (e : ∀ M, F M = G M) : WX w wp wn n wp1 wn1 n1 d G := ⟨h.1, by have := h.2.1; omega, fun M => by rw [h.2.2 M, e]⟩
/-- the waiting numbers are those of the first i acts of word m -/
def WA (w wp : Nat → Int32) (wn : Nat → Int64) (n : Nat) (N : Nat → Int64) (K D X Y : Nat → Int32) (base m i : Nat) : Prop := n ≤ 3 * mCnt m i ∧ ∀ M, wFold w wp wn n M = tkF w N K D X Y base m i M
theorem WA_0 {w wp : Nat → Int32} {wn N : Nat → Int64} {K D X Y : Nat → Int32} {base m : Nat} : WA w wp wn 0 N K D X Y base m 0 := ⟨Nat.zero_le _, fun _ => tkF_z.symm⟩
theorem WA_in {w wp wp' : Nat → Int32} {wn wn' N : Nat → Int64} {K D X Y : Nat → Int32} {base m i n n' : Nat} (h : WA w wp wn n N K D X Y base m i) (hb : m.testBit i = true) (hx : WX w wp wn n wp' wn' n' 3 (fun M => aPut w N M (K (base + i)) (D (base + i)) (X (base + i)) (Y (base + i)))) : WA w wp' wn' n' N K D X Y base m (i + 1) := by
  obtain ⟨h1, h2⟩ := h
  obtain ⟨x1, x2, x3⟩ := hx
  refine ⟨by rw [mCnt_in hb]; omega, fun M => ?_⟩
  rw [x3 M, h2 M, tkF_in hb]
theorem WA_no {w wp : Nat → Int32} {wn N : Nat → Int64} {K D X Y : Nat → Int32} {base m i n : Nat} (h : WA w wp wn n N K D X Y base m i) (hb : ¬ m.testBit i = true) : WA w wp wn n N K D X Y base m (i + 1) := ⟨by rw [mCnt_no hb]; exact h.1, fun M => by rw [h.2 M, tkF_no hb]⟩
/-- words or acts: the mask of word w, the number of words -/
def mkA (p : Int32) (aO : Nat → Nat) (i w : Nat) : Nat := if p.toInt = 0 then 2 ^ w else aO (i * 10 + w)
def mkL (p : Int32) (L5 L3 : Nat → Int32) (i : Nat) : Nat := if p.toInt = 0 then lenN L5 i else lenN L3 i
theorem wdH_t {N : Nat → Int64} {K X Y : Nat → Int32} {base m : Nat} (h : ¬ tkT N K X Y base m 10 = -1) : wdH N K X Y base m = 2 := if_neg h
theorem wdH_g {N : Nat → Int64} {K X Y : Nat → Int32} {base m : Nat} (h : tkT N K X Y base m 10 = -1) : wdH N K X Y base m = tkS N K X Y base m 10 := if_pos h
theorem wdN_t {w : Nat → Int32} {N0 N : Nat → Int64} {K D X Y : Nat → Int32} {base m : Nat} (h : ¬ tkT N K X Y base m 10 = -1) : wdN w N0 N K D X Y base m = N0 := if_neg h
theorem wdN_g {w : Nat → Int32} {N0 N : Nat → Int64} {K D X Y : Nat → Int32} {base m : Nat} (h : tkT N K X Y base m 10 = -1) : wdN w N0 N K D X Y base m = tkF w N K D X Y base m 10 N := if_pos h
theorem or1 {s : Nat} (h : s ≤ 1) : s ||| 1 = 1 := by
  have : s = 0 ∨ s = 1 := by omega
  rcases this with e | e <;> rw [e] <;> decide
theorem wdH_le {N : Nat → Int64} {K X Y : Nat → Int32} {base m : Nat} : wdH N K X Y base m ≤ 2 := by
  unfold wdH
  split
  · have := tkS_le (N := N) (K := K) (X := X) (Y := Y) (base := base) (m := m) 10
    omega
  · omega
theorem rnS_le {w : Nat → Int32} {K D X Y : Nat → Int32} {base : Nat} {A : Nat → Nat} {N0 : Nat → Int64} : ∀ n, (rnS w K D X Y base A N0 n).1 ≤ 2
  | 0 => by
    rw [rnS_0]
    exact Nat.zero_le _
  | n + 1 => by
    have ih := rnS_le (w := w) (K := K) (D := D) (X := X) (Y := Y) (base := base) (A := A) (N0 := N0) n
    rw [rnS_s]
    by_cases c : (rnS w K D X Y base A N0 n).1 = 0
    · rw [rn1_go c]
      exact wdH_le
    · rw [rn1_st c]
      exact ih
