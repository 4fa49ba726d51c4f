/-- what restore() leaves, what it answers -/
def rsF (w : Nat → Int32) (x : Nat → Int64) : Nat → Int64 := fun j => if j < 74 then kput w (nI j) (x j) else 0
def chN (a b : Nat → Int64) : Nat → Nat
  | 0 => 0
  | n + 1 => chN a b n + (if a n = b n then 0 else 1)
theorem chN_le (a b : Nat → Int64) : ∀ n, chN a b n ≤ n
  | 0 => Nat.le_refl 0
  | n + 1 => by
    have := chN_le a b n
    unfold chN
    split <;> omega
theorem rsF_at {w : Nat → Int32} {x : Nat → Int64} {i : Nat} (h : i < 74) : rsF w x i = kput w (nI i) (x i) := if_pos h
theorem rs_up {w : Nat → Int32} {g f x : Nat → Int64} {i : Nat} {v : Int64} (hi : i < 74) (h : ∀ j, i ≤ j → g j = f j) : ∀ j, i + 1 ≤ j → vp_updL g i v j = f j := by
  intro j hj
  unfold vp_updL
  rw [if_neg (by omega)]
  exact h j (by omega)
theorem rs_pt {w : Nat → Int32} {g x : Nat → Int64} {i : Nat} {v : Int64} (hv : v = rsF w x i) (h : ∀ j, j < i → g j = rsF w x j) : ∀ j, j < i + 1 → vp_updL g i v j = rsF w x j := by
  intro j hj
  unfold vp_updL
  by_cases e : j = i
  · rw [if_pos e, e, hv]
  · rw [if_neg e]
    exact h j (by omega)
theorem gput_nI {w : Nat → Int32} {g x : Nat → Int64} {i : Nat} (hi : i < 74) : gput w g (nI i) (x i) = vp_updL g i (rsF w x i) := by
  unfold gput
  rw [nI_clamp (by omega), rsF_at hi]
theorem rs_reg {w : Nat → Int32} {x : Nat → Int64} {i : Nat} (hi : i < 8) : kcut (w i) (x i) = rsF w x i := by
  rw [rsF_at (by omega), kput_reg (by rw [nI_toInt (by omega)]; omega), nI_clamp (by omega)]
theorem rs_cell {w : Nat → Int32} {x : Nat → Int64} {i : Nat} (hx : IN x) (hi : ¬ i < 8) (h74 : i < 74) : x i = rsF w x i := by
  have z := hx i h74
  rw [rsF_at h74, kput_cell (by rw [nI_toInt (by omega)]; omega), kcell_id z.1 z.2]
theorem IN_rsF {w : Nat → Int32} {x : Nat → Int64} (hw : IW w) : IN (rsF w x) := by
  intro k hk
  rw [rsF_at hk]
  exact kput_in _ hw (by rw [nI_toInt (by omega)]; omega)
/-- a number as the row of shorts has it -/
def shv (v : Int64) : Int32 := v.toInt32.toInt16.toInt32
theorem shv_eq (v : Int64) : (if 32767 < ((v &&& 65535).toInt32).toInt then (v &&& 65535).toInt32 - 65536 else (v &&& 65535).toInt32) = shv v := by
  obtain ⟨a, ha, rfl⟩ := wb_of v
  have e1 : lN a &&& 65535 = lN (a % 65536) := by
    have z : lN a &&& lN 65535 = lN (a &&& 65535) := fb_andL a 65535
    have y : a &&& 65535 = a % 65536 := Nat.and_two_pow_sub_one_eq_mod a 16
    rw [y] at z
    exact z
  have hm : a % 65536 < 65536 := Nat.mod_lt _ (by decide)
  have e2 : (lN (a % 65536)).toInt = ((a % 65536 : Nat) : Int) := pk_lT (by omega)
  have e3 : (lN (a % 65536)).toInt32.toInt = ((a % 65536 : Nat) : Int) := by
    rw [kl2i (by omega) (by omega), e2]
  have e4 : (shv (lN a)).toInt = ((a : Int)).bmod 65536 := by
    unfold shv
    rw [Int16.toInt_toInt32, Int32.toInt_toInt16, Int64.toInt_toInt32]
    have e5 : (lN a).toInt = ((a : Int)).bmod 18446744073709551616 := by
      show (lN a).toBitVec.toInt = _
      rw [wb_tb, BitVec.toInt_ofNat']
    rw [e5]
    rw [Int.bmod_bmod_of_dvd (by decide), Int.bmod_bmod_of_dvd (by decide)]
  rw [e1, fa_eq, e4]
  have eb : ((a : Int)).bmod 65536 = if a % 65536 < 32768 then ((a % 65536 : Nat) : Int) else ((a % 65536 : Nat) : Int) - 65536 := by
    simp only [Int.bmod]
    split <;> split <;> omega
  rw [eb]
  by_cases c : 32767 < (lN (a % 65536)).toInt32.toInt
  · rw [if_pos c, if_neg (by omega), Int32.toInt_sub, e3, show (65536 : Int32).toInt = 65536 by decide]
    exact fb_bmod (by omega) (by omega)
  · rw [if_neg c, if_pos (by omega)]
    exact e3
theorem ly_up {g : Nat → Int32} {F : Nat → Int32} {i : Nat} {v : Int32} (hv : v = F i) (h : ∀ j, j < i → g j = F j) : ∀ j, j < i + 1 → upd g i v j = F j := by
  intro j hj
  by_cases e : j = i
  · rw [e, pk_us, hv]
  · rw [pk_un e]
    exact h j (by omega)
