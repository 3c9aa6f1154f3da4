/-! the start: what new objects hold is held by both sides -/
theorem st_g : tG 0 = 0 ∧ pG 0 = 2 ∧ nG 0 = 1 ∧ npG 0 = 0 ∧ adG 0 0 0 = 0 ∧ raG 0 0 = 0 := by decide +kernel
theorem st_ch : ∀ i, i < 36 → ∀ j, j < 31 → 7 ≤ j → rp (chL i) j = lN 0 := by decide +kernel
