/-! shelves: both sides tied to one picture (sort + 1, width, type + 1 of each place) -/
section BOTHS
variable {v : Sv} {μ : Mm}
theorem b2i_n (b : Bool) : decide (nI (b2i b) = nI 0) = !b := b2i_0 b
end BOTHS
