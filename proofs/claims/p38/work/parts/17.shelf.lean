/-! a bool as an int -/
theorem b2i_n (b : Bool) : decide (nI (b2i b) = nI 0) = !b := b2i_0 b
