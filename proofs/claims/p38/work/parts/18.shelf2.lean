/-! shelves: shelf, all, move, how many hold a row -/
theorem s_max (x y : Nat) (hx : x < 2 ^ 31) (hy : y < 2 ^ 31) (μ : Mm) : m_jM_max (nI x) (nI y) μ = some (some (.int (nI (max x y))), μ) := by
  rw [e_jM_max, d_lt hx hy]
  by_cases q : x < y
  · rw [bt (decide_eq_true q), Nat.max_eq_right (by omega)]
  · rw [bf (decide_eq_false q), Nat.max_eq_left (by omega)]
