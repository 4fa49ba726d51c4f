theorem kfill {g : Nat → Int32} {i : Nat} {v : Int32} (h : ∀ j, j < i → g j = v) : ∀ j, j < i + 1 → upd g i v j = v := by
  intro j hj
  unfold upd
  by_cases e : j = i
  · rw [if_pos e]
  · rw [if_neg e]
    exact h j (by omega)
