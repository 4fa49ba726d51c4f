-- numbers of the inside: what is put, what stays in range
theorem wb_tb (n : Nat) : (lN n).toBitVec = BitVec.ofNat 64 n := rfl
theorem wb_inj {a b : Int64} (h : a.toBitVec = b.toBitVec) : a = b := Int64.toBitVec_inj.mp h
theorem wb_of (x : Int64) : ∃ n, n < 2 ^ 64 ∧ x = lN n := ⟨x.toBitVec.toNat, x.toBitVec.isLt, wb_inj (by rw [wb_tb]; simp)⟩
theorem fb_andL (a b : Nat) : lN a &&& lN b = lN (a &&& b) := by
  apply Int64.toBitVec_inj.1
  show BitVec.ofNat 64 a &&& BitVec.ofNat 64 b = BitVec.ofNat 64 (a &&& b)
  apply BitVec.eq_of_getLsbD_eq
  intro i hi
  simp [hi]
theorem kand_in (v : Int64) {m : Nat} (hm : m < 4294967296) : 0 ≤ (v &&& lN m).toInt ∧ (v &&& lN m).toInt < 4294967296 := by
  obtain ⟨a, -, rfl⟩ := wb_of v
  have h1 : a &&& m ≤ m := Nat.and_le_right
  rw [fb_andL, pk_lT (by omega)]
  omega
def IW (w : Nat → Int32) : Prop := ∀ k, k < 8 → 1 ≤ (w k).toInt ∧ (w k).toInt ≤ 32
def IN (f : Nat → Int64) : Prop := ∀ k, k < 74 → 0 ≤ (f k).toInt ∧ (f k).toInt < 4294967296
theorem kmask : ∀ n : Fin 33, ((1 : Int64) <<< ((nI n.val).toInt64 &&& 63)) - 1 = lN (2 ^ n.val - 1) ∧ 2 ^ n.val - 1 < 4294967296 := by decide +kernel
theorem kcut_in {w : Int32} (v : Int64) (h0 : 1 ≤ w.toInt) (h1 : w.toInt ≤ 32) : 0 ≤ (kcut w v).toInt ∧ (kcut w v).toInt < 4294967296 := by
  obtain ⟨n, hn, rfl⟩ : ∃ n : Nat, n < 33 ∧ w = nI n := ⟨w.toInt.toNat, by omega, by
    rw [fa_eq, nI_toInt (by omega)]
    omega⟩
  have z := kmask ⟨n, hn⟩
  unfold kcut
  rw [z.1]
  exact kand_in v z.2
theorem kput_in {w : Nat → Int32} {x : Int32} (v : Int64) (hw : IW w) (h0 : 0 ≤ x.toInt) : 0 ≤ (kput w x v).toInt ∧ (kput w x v).toInt < 4294967296 := by
  unfold kput
  split
  · have hk : x.toNatClampNeg < 8 := by unfold Int32.toNatClampNeg; omega
    exact kcut_in v (hw _ hk).1 (hw _ hk).2
  · exact kand_in v (m := 4294967295) (by decide)
/-- place x gets v, cut -/
def gput (w : Nat → Int32) (f : Nat → Int64) (x : Int32) (v : Int64) : Nat → Int64 := vp_updL f x.toNatClampNeg (kput w x v)
theorem IN_gput {w : Nat → Int32} {f : Nat → Int64} {x : Int32} {v : Int64} (hw : IW w) (hf : IN f) (h0 : 0 ≤ x.toInt) : IN (gput w f x v) := by
  intro k hk
  unfold gput vp_updL
  split
  · exact kput_in v hw h0
  · exact hf k hk
theorem IW_upd {w : Nat → Int32} {j : Nat} {x : Int32} (hw : IW w) (h0 : 1 ≤ x.toInt) (h1 : x.toInt ≤ 32) : IW (upd w j x) := by
  intro k hk
  unfold upd
  split
  · exact ⟨h0, h1⟩
  · exact hw k hk
/-- how many of the first n aren't 0 -/
def kcnt (f : Nat → Int64) : Nat → Nat
  | 0 => 0
  | n + 1 => kcnt f n + (if f n = 0 then 0 else 1)
theorem kcnt_le (f : Nat → Int64) : ∀ n, kcnt f n ≤ n
  | 0 => Nat.le_refl 0
  | n + 1 => by
    have := kcnt_le f n
    unfold kcnt
    split <;> omega
theorem kcnt_0 {f : Nat → Int64} {n : Nat} (h : f n = 0) : kcnt f (n + 1) = kcnt f n := by
  show kcnt f n + (if f n = 0 then 0 else 1) = _
  rw [if_pos h]
  rfl
theorem kcnt_1 {f : Nat → Int64} {n : Nat} (h : ¬ f n = 0) : kcnt f (n + 1) = kcnt f n + 1 := by
  show kcnt f n + (if f n = 0 then 0 else 1) = _
  rw [if_neg h]
theorem kput_reg {w : Nat → Int32} {x : Int32} {v : Int64} (h : x.toInt < 8) : kput w x v = kcut (w x.toNatClampNeg) v := if_pos h
theorem kput_cell {w : Nat → Int32} {x : Int32} {v : Int64} (h : ¬ x.toInt < 8) : kput w x v = v &&& 4294967295 := if_neg h
theorem gput_reg {w : Nat → Int32} {f : Nat → Int64} {x : Int32} {v : Int64} (h : x.toInt < 8) : gput w f x v = vp_updL f x.toNatClampNeg (kcut (w x.toNatClampNeg) v) := by unfold gput; rw [kput_reg h]
theorem gput_cell {w : Nat → Int32} {f : Nat → Int64} {x : Int32} {v : Int64} (h : ¬ x.toInt < 8) : gput w f x v = vp_updL f x.toNatClampNeg (v &&& 4294967295) := by unfold gput; rw [kput_cell h]
theorem kone : (1 : Int64) &&& 4294967295 = 1 := by decide
theorem kzero : (0 : Int64) &&& 4294967295 = 0 := by decide
/-- what lay() answers: it asks for nothing but its numbers -/
def an_lay (p0 p1 : Int32) : Int32 := if p1.toInt < 0 then -4 else if 0 ≤ p0.toInt ∧ p0.toInt + p1.toInt ≤ 64 then p1 else -3
/-- every place of a row of shorts holds a short -/
def IS (f : Nat → Int32) : Prop := ∀ k, k < 64 → fits .short (.int (f k)) = true
theorem IS_upd {f : Nat → Int32} {j : Nat} {x : Int32} (h : IS f) (hx : fits .short (.int x) = true) : IS (upd f j x) := by
  intro k hk
  unfold upd
  split
  · exact hx
  · exact h k hk
theorem krest {w : Nat → Int32} {g x : Nat → Int64} {i : Nat} (hi : i < 2147483648) (h : ∀ j, j < i → g j = kput w (nI j) (x j)) : ∀ j, j < i + 1 → gput w g (nI i) (x i) j = kput w (nI j) (x j) := by
  intro j hj
  unfold gput vp_updL
  rw [nI_clamp hi]
  by_cases e : j = i
  · rw [if_pos e, e]
  · rw [if_neg e]
    exact h j (by omega)
theorem krest8 {g F : Nat → Int64} {i : Nat} {x : Int64} (h : ∀ j, j < i → g j = F j) (hx : x = F i) : ∀ j, j < i + 1 → vp_updL g i x j = F j := by
  intro j hj
  unfold vp_updL
  by_cases e : j = i
  · rw [if_pos e, hx, e]
  · rw [if_neg e]
    exact h j (by omega)
