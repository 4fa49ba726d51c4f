theorem kslot {x : Int32} {i : Nat} (h0 : 0 ≤ x.toInt ∧ x.toInt < 12) (hi : i ≤ 10) : (x * 10 + nI i).toInt = x.toInt * 10 + i := by
  have e1 : (x * 10).toInt = x.toInt * 10 := by rw [Int32.toInt_mul]; exact fb_bmod (z := x.toInt * 10) (by omega) (by omega)
  have e2 : (nI i).toInt = i := nI_toInt (by omega)
  rw [Int32.toInt_add, e1, e2]
  exact fb_bmod (by omega) (by omega)