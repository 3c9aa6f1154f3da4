/-! what the law holds of each group, by the kernel -/
/-- how many coefficients of the first n are told from the top on -/
def dgF (A : List Int) : Nat → Nat
  | 0 => 0
  | n + 1 => if rp A n = lN 0 then dgF A n else n + 1
theorem dg_deg (A : List Int) : ∀ n, degF (rp A) n = if dgF A n = 0 then (-5 : Int32) else nI (dgF A n - 1)
  | 0 => rfl
  | n + 1 => by
    show (if rp A n = lN 0 then degF (rp A) n else nI n) = if (if rp A n = lN 0 then dgF A n else n + 1) = 0 then (-5 : Int32) else nI ((if rp A n = lN 0 then dgF A n else n + 1) - 1)
    by_cases q : rp A n = lN 0
    · rw [if_pos q, if_pos q, dg_deg A n]
    · rw [if_neg q, if_neg q, if_neg (by omega), Nat.add_sub_cancel]
theorem dg_le (A : List Int) : ∀ n, dgF A n ≤ n
  | 0 => Nat.le_refl _
  | n + 1 => by
    show (if rp A n = lN 0 then dgF A n else n + 1) ≤ n + 1
    have := dg_le A n
    split <;> omega
/-- the counter of a loop from the top on, n rounds before its end -/
def Kc (n : Nat) (k : Int32) : Prop := (n = 0 ∧ k < 0) ∨ (0 < n ∧ k = nI (n - 1))
theorem kc_0 (A : List Int) : Kc (dgF A 31) (prt (rp A) (-1 : Int32)).toInt32 := by
  have e : (prt (rp A) (-1 : Int32)).toInt32 = degF (rp A) 31 := by
    unfold prt
    rw [if_pos rfl, Int32.toInt32_toInt64]
  rw [e, dg_deg]
  by_cases q : dgF A 31 = 0
  · rw [if_pos q]
    exact Or.inl ⟨q, by decide⟩
  · rw [if_neg q]
    exact Or.inr ⟨by omega, rfl⟩
theorem prt_n (f : Nat → Int64) {k : Nat} (hk : k < 31) : prt f (nI k) = f k := by
  have h : ¬ nI k = (-1 : Int32) := of_decide_eq_false (d_e1 (by omega))
  unfold prt
  rw [if_neg h, nI_clamp (by omega)]
/-- how many are of a type, of a type and cotype -/
def c1G (g t : Nat) : Nat := cnF g t none (lenG g) 0 0
def c2G (g t u : Nat) : Nat := cnF g u (some t) (lenG g) 0 0
def vP (g : Nat) (A : List Int) : Int64 := val (rp A) (lN (pG g)) (dgF A 31) (lN 0)
theorem f_val : ∀ g, g < 32 → val (rp (sumF (tG g) 19 0 [])) (lN (pG g)) 31 (lN 0) = lN (lenG g) := by decide +kernel
/-! counts by places (the kernel counts in them) -/
def cnP (g t : Nat) (c : Option Nat) : Nat → Nat
  | 0 => 0
  | n + 1 => cnP g t c n + (bif cnB g t c n then 1 else 0)
theorem cn_P (g t : Nat) (c : Option Nat) : ∀ f i a, cnF g t c f i a + cnP g t c i = a + cnP g t c (i + f)
  | 0, i, a => rfl
  | f + 1, i, a => by
    have h := cn_P g t c f (i + 1) (if cnB g t c i then a + 1 else a)
    have e : cnP g t c (i + 1) = cnP g t c i + (bif cnB g t c i then 1 else 0) := rfl
    rw [show i + 1 + f = i + (f + 1) by omega, e] at h
    show cnF g t c f (i + 1) (if cnB g t c i then a + 1 else a) + cnP g t c i = a + cnP g t c (i + (f + 1))
    by_cases q : cnB g t c i = true
    · rw [if_pos q, q, cond_true] at h
      rw [if_pos q]
      omega
    · rw [if_neg q, eq_false_of_ne_true q, cond_false] at h
      rw [if_neg q]
      omega
theorem cn_PP (g t : Nat) (c : Option Nat) (n : Nat) : cnF g t c n 0 0 = cnP g t c n := by
  have h := cn_P g t c n 0 0
  have z : cnP g t c 0 = 0 := rfl
  rw [z, Nat.add_zero, Nat.zero_add, Nat.zero_add] at h
  exact h
theorem f_subP : ∀ g, g < 32 → ∀ t, t < 19 → (vP g (subC (tG g) t) = lN (cnP g t none (lenG g)) ∧ cnP g t none (lenG g) ≤ 374) ∧ (cnP g t none (lenG g) = 0 ∨ liesN t (tG g) = true) := by decide +kernel
theorem f_sub (g : Nat) (hg : g < 32) (t : Nat) (ht : t < 19) : (vP g (subC (tG g) t) = lN (c1G g t) ∧ c1G g t ≤ 374) ∧ (c1G g t = 0 ∨ liesN t (tG g) = true) := by
  have e : c1G g t = cnP g t none (lenG g) := cn_PP g t none _
  rw [e]
  exact f_subP g hg t ht
def smG (g : Nat) : Nat → Nat
  | 0 => 0
  | n + 1 => smG g n + c1G g n
def smP (g : Nat) : Nat → Nat
  | 0 => 0
  | n + 1 => smP g n + cnP g n none (lenG g)
theorem sm_P (g : Nat) : ∀ n, smG g n = smP g n
  | 0 => rfl
  | n + 1 => by
    have e : c1G g n = cnP g n none (lenG g) := cn_PP g n none _
    show smG g n + c1G g n = smP g n + cnP g n none (lenG g)
    rw [sm_P g n, e]
theorem f_sumP : ∀ g, g < 32 → smP g 19 = lenG g := by decide +kernel
theorem f_sum (g : Nat) (hg : g < 32) : smG g 19 = lenG g := (sm_P g 19).trans (f_sumP g hg)
theorem f_lie : ∀ g, g < 32 → ∀ i, i < lenG g → (liesN (tyG g i) (tG g) = true ∧ liesN (coG g i) (tG g) = true) ∧ sizN (tyG g i) + sizN (coG g i) = sizN (tG g) := by decide +kernel
theorem f_hallP : ∀ g, g < 32 → ∀ t, t < 19 → ∀ u, u < 19 → sizN t + sizN u = sizN (tG g) → vP g (hL t u (tG g)) = lN (cnP g u (some t) (lenG g)) := by decide +kernel
/-- sizes that don't make up that of the group: none there -/
theorem cn_0 {g t u : Nat} (hg : g < 32) (q : ¬ sizN t + sizN u = sizN (tG g)) : ∀ n, n ≤ lenG g → cnP g u (some t) n = 0
  | 0, _ => rfl
  | n + 1, h => by
    have h1 := cn_0 hg q n (by omega)
    have h2 := (f_lie g hg n (by omega)).2
    have e2 : cnB g u (some t) n = false := by
      apply eq_false_of_ne_true
      intro w
      unfold cnB at w
      rw [cnC_s] at w
      obtain ⟨w1, w2⟩ := Bool.and_eq_true_iff.mp w
      rw [of_decide_eq_true w1, of_decide_eq_true w2] at h2
      omega
    show cnP g u (some t) n + (bif cnB g u (some t) n then 1 else 0) = 0
    rw [h1, e2]
    rfl
theorem f_hall {g t u : Nat} (hg : g < 32) (ht : t < 19) (hu : u < 19) : vP g (hL t u (tG g)) = lN (c2G g t u) := by
  have e : c2G g t u = cnP g u (some t) (lenG g) := cn_PP g u (some t) _
  rw [e]
  by_cases q : sizN t + sizN u = sizN (tG g)
  · exact f_hallP g hg t ht u hu q
  · have d : dgF [] 31 = 0 := by decide +kernel
    have e2 : hL t u (tG g) = [] := by
      unfold hL
      exact if_neg q
    rw [cn_0 hg q _ (Nat.le_refl _), e2]
    unfold vP
    rw [d]
    rfl
theorem cn_le (g t : Nat) (c : Option Nat) : ∀ f i a, cnF g t c f i a ≤ a + f
  | 0, i, a => Nat.le_refl _
  | f + 1, i, a => by
    have h1 := cn_le g t c f (i + 1) a
    have h2 := cn_le g t c f (i + 1) (a + 1)
    unfold cnF
    split <;> omega
/-- the list is in order -/
theorem f_ord {g i : Nat} (hg : g < 32) (hi : i + 1 < lenG g) : pcF 32 (LG g i) < pcF 32 (LG g (i + 1)) ∨ pcF 32 (LG g (i + 1)) = pcF 32 (LG g i) ∧ LG g i < LG g (i + 1) := by
  have h := (ky_lt hg (a := i) (b := i + 1) (by omega) hi).mpr (by omega)
  have l1 := lg_lt hg (i := i) (by omega)
  have l2 := lg_lt hg hi
  unfold kyG at h
  omega
