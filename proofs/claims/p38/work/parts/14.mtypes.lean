/-! the types, the reference's side; the calls type, of, in of both -/
section MTY
variable {μ : Mm}
/-- an int is below 0, or a number -/
theorem i_cases (x : Int32) : x < nI 0 ∨ ∃ n, n < 2 ^ 31 ∧ x = nI n := by
  by_cases h : x < nI 0
  · exact Or.inl h
  · exact Or.inr (nI_of (by rw [← nI_0]; exact h))
theorem neg1 : decide ((-1 : Int32) = (-1 : Int32)) = true := by decide
end MTY
