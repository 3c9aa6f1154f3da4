/-! sums: the form, the reference's side (nothing is worked out) -/
/-- only where it stands and what is wrong change -/
def F2 (μ μ' : Mm) : Prop := Fr (fun k => k = 306) μ μ' ∧ ∀ j, j ≠ 24 → j ≠ 25 → j ≠ 26 → μ'.1 306 j = μ.1 306 j
theorem F2.rf {μ : Mm} : F2 μ μ := ⟨Fr.rf, fun _ _ _ _ => rfl⟩
theorem F2.tr {a b d : Mm} (h : F2 a b) (k : F2 b d) : F2 a d := ⟨h.1.t2 k.1, fun j h1 h2 h3 => (k.2 j h1 h2 h3).trans (h.2 j h1 h2 h3)⟩
theorem F2.I {μ : Mm} {j : Nat} {v : Int32} (hj : j = 24 ∨ j = 25 ∨ j = 26) : F2 μ (sI μ 306 j v) := ⟨Fr.sI rfl, fun i h1 h2 h3 => by rw [sI_s, up_o (by omega)]⟩
