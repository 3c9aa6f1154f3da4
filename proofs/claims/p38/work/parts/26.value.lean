/-! automorphisms, chains; whole, value: both sides -/
theorem sz_lt : ∀ {t}, t < 19 → sizN t < 6 := by
  intro t
  revert t
  decide +kernel
