theorem ti_min {x y z : Int32} (h : z = if y < x then y else x) : z.toInt ≤ x.toInt ∧ z.toInt ≤ y.toInt ∧ (z.toInt = x.toInt ∨ z.toInt = y.toInt) := by
  by_cases c : y < x
  · rw [if_pos c] at h; subst h; have := q_lt c; omega
  · rw [if_neg c] at h; subst h; have := q_nlt c; omega
theorem ti_max {x y z : Int32} (h : z = if x < y then y else x) : x.toInt ≤ z.toInt ∧ y.toInt ≤ z.toInt ∧ (z.toInt = x.toInt ∨ z.toInt = y.toInt) := by
  by_cases c : x < y
  · rw [if_pos c] at h; subst h; have := q_lt c; omega
  · rw [if_neg c] at h; subst h; have := q_nlt c; omega
