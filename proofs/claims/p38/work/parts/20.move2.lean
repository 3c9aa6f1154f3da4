/-! shelves: move; how many hold a row -/
theorem lN_ltb {a b : Nat} (ha : a < 2 ^ 63) (hb : b < 2 ^ 63) : decide (lN a < lN b) = decide (a < b) := by
  by_cases h : a < b
  · rw [decide_eq_true h]
    apply decide_eq_true
    rw [Int64.lt_iff_toInt_lt]
    show (Int64.ofNat a).toInt < (Int64.ofNat b).toInt
    rw [Int64.toInt_ofNat_of_lt ha, Int64.toInt_ofNat_of_lt hb]
    omega
  · rw [decide_eq_false h]
    apply decide_eq_false
    rw [Int64.lt_iff_toInt_lt]
    show ¬ (Int64.ofNat a).toInt < (Int64.ofNat b).toInt
    rw [Int64.toInt_ofNat_of_lt ha, Int64.toInt_ofNat_of_lt hb]
    omega
