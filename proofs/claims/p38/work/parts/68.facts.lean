/-! what the law holds of each group, by the kernel -/
/-- how many coefficients of the first n are told from the top on -/
def dgF (A : List Int) : Nat → Nat
  | 0 => 0
  | n + 1 => if rp A n = lN 0 then dgF A n else n + 1
theorem dg_deg (A : List Int) : ∀ n, degF (rp A) n = if dgF A n = 0 then (-5 : Int32) else nI (dgF A n - 1)
  | 0 => rfl
  | n + 1 => by
    show (if rp A n = lN 0 then degF (rp A) n else nI n) = if (if rp A n = lN 0 then dgF A n else n + 1) = 0 then (-5 : Int32) else nI ((if rp A n = lN 0 then dgF A n else n + 1) - 1)
    by_cases q : rp A n = lN 0
    · rw [if_pos q, if_pos q, dg_deg A n]
    · rw [if_neg q, if_neg q, if_neg (by omega), Nat.add_sub_cancel]
theorem dg_le (A : List Int) : ∀ n, dgF A n ≤ n
  | 0 => Nat.le_refl _
  | n + 1 => by
    show (if rp A n = lN 0 then dgF A n else n + 1) ≤ n + 1
    have := dg_le A n
    split <;> omega
/-- the counter of a loop from the top on, n rounds before its end -/
def Kc (n : Nat) (k : Int32) : Prop := (n = 0 ∧ k < 0) ∨ (0 < n ∧ k = nI (n - 1))
theorem kc_0 (A : List Int) : Kc (dgF A 31) (prt (rp A) (-1 : Int32)).toInt32 := by
  have e : (prt (rp A) (-1 : Int32)).toInt32 = degF (rp A) 31 := by
    unfold prt
    rw [if_pos rfl, Int32.toInt32_toInt64]
  rw [e, dg_deg]
  by_cases q : dgF A 31 = 0
  · rw [if_pos q]
    exact Or.inl ⟨q, by decide⟩
  · rw [if_neg q]
    exact Or.inr ⟨by omega, rfl⟩
theorem prt_n (f : Nat → Int64) {k : Nat} (hk : k < 31) : prt f (nI k) = f k := by
  have h : ¬ nI k = (-1 : Int32) := of_decide_eq_false (d_e1 (by omega))
  unfold prt
  rw [if_neg h, nI_clamp (by omega)]
/-- how many are of a type, of a type and cotype -/
def c1G (g t : Nat) : Nat := cnF g t none (lenG g) 0 0
def c2G (g t u : Nat) : Nat := cnF g u (some t) (lenG g) 0 0
def vP (g : Nat) (A : List Int) : Int64 := val (rp A) (lN (pG g)) (dgF A 31) (lN 0)
theorem f_val : ∀ g, g < 32 → val (rp (sumF (tG g) 19 0 [])) (lN (pG g)) 31 (lN 0) = lN (lenG g) := by decide +kernel
theorem f_sub : ∀ g, g < 32 → ∀ t, t < 19 → (vP g (subC (tG g) t) = lN (c1G g t) ∧ c1G g t ≤ 374) ∧ (c1G g t = 0 ∨ liesN t (tG g) = true) := by decide +kernel
def smG (g : Nat) : Nat → Nat
  | 0 => 0
  | n + 1 => smG g n + c1G g n
theorem f_sum : ∀ g, g < 32 → smG g 19 = lenG g := by decide +kernel
theorem f_lie : ∀ g, g < 32 → ∀ i, i < lenG g → (liesN (tyG g i) (tG g) = true ∧ liesN (coG g i) (tG g) = true) ∧ sizN (tyG g i) + sizN (coG g i) = sizN (tG g) := by decide +kernel
theorem f_hall1 : ∀ g, g < 17 → ∀ t, t < 19 → ∀ u, u < 19 → vP g (hL t u (tG g)) = lN (c2G g t u) := by decide +kernel
theorem f_hall2 : ∀ t, t < 19 → ∀ u, u < 19 → vP 17 (hL t u (tG 17)) = lN (c2G 17 t u) := by decide +kernel
theorem f_hall3 : ∀ t, t < 19 → ∀ u, u < 19 → vP 18 (hL t u (tG 18)) = lN (c2G 18 t u) := by decide +kernel
theorem f_hall4 : ∀ h, h < 13 → ∀ t, t < 19 → ∀ u, u < 19 → vP (h + 19) (hL t u (tG (h + 19))) = lN (c2G (h + 19) t u) := by decide +kernel
theorem f_hall {g t u : Nat} (hg : g < 32) (ht : t < 19) (hu : u < 19) : vP g (hL t u (tG g)) = lN (c2G g t u) := by
  by_cases h1 : g < 17
  · exact f_hall1 g h1 t ht u hu
  · by_cases h2 : g = 17
    · subst h2
      exact f_hall2 t ht u hu
    · by_cases h3 : g = 18
      · subst h3
        exact f_hall3 t ht u hu
      · obtain ⟨h, rfl⟩ : ∃ h, g = h + 19 := ⟨g - 19, by omega⟩
        exact f_hall4 h (by omega) t ht u hu
theorem cn_le (g t : Nat) (c : Option Nat) : ∀ f i a, cnF g t c f i a ≤ a + f
  | 0, i, a => Nat.le_refl _
  | f + 1, i, a => by
    have h1 := cn_le g t c f (i + 1) a
    have h2 := cn_le g t c f (i + 1) (a + 1)
    unfold cnF
    split <;> omega
/-- the list is in order -/
theorem f_ord {g i : Nat} (hg : g < 32) (hi : i + 1 < lenG g) : pcF 32 (LG g i) < pcF 32 (LG g (i + 1)) ∨ pcF 32 (LG g (i + 1)) = pcF 32 (LG g i) ∧ LG g i < LG g (i + 1) := by
  have h := (ky_lt hg (a := i) (b := i + 1) (by omega) hi).mpr (by omega)
  have l1 := lg_lt hg (i := i) (by omega)
  have l2 := lg_lt hg hi
  unfold kyG at h
  omega
