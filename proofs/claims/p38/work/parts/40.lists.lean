/-! the list of subgroups: how the reference makes it; list, listed -/
def kyG (g i : Nat) : Nat := pcF 32 (LG g i) * 4294967296 + LG g i
theorem ky_ok : ∀ g, g < 32 → ∀ i, i < lenG g - 1 → kyG g i < kyG g (i + 1) := by decide +kernel
theorem ky_mono {g : Nat} (hg : g < 32) (i : Nat) : ∀ d, i + d + 1 < lenG g → kyG g i < kyG g (i + d + 1)
  | 0, h => ky_ok g hg i (by omega)
  | d + 1, h => Nat.lt_trans (ky_mono hg i d (by omega)) (ky_ok g hg (i + d + 1) (by omega))
theorem ky_lt {g a b : Nat} (hg : g < 32) (ha : a < lenG g) (hb : b < lenG g) : kyG g a < kyG g b ↔ a < b := by
  constructor
  · intro h
    rcases Nat.lt_trichotomy a b with q | q | q
    · exact q
    · rw [q] at h
      exact absurd h (Nat.lt_irrefl _)
    · have := ky_mono hg b (a - b - 1) (by omega)
      rw [show b + (a - b - 1) + 1 = a by omega] at this
      omega
  · intro h
    have := ky_mono hg a (b - a - 1) (by omega)
    rw [show a + (b - a - 1) + 1 = b by omega] at this
    exact this
theorem lg_inj {g a b : Nat} (hg : g < 32) (ha : a < lenG g) (hb : b < lenG g) (h : LG g a = LG g b) : a = b := by
  have e : kyG g a = kyG g b := by unfold kyG; rw [h]
  have h1 := ky_lt hg ha hb
  have h2 := ky_lt hg hb ha
  omega
/-! the same, with the members as bits -/
section RLS
variable {g : Nat} {μ : Mm}
/-- how many are of a type and a cotype -/
def cnC (g : Nat) (c : Option Nat) (i : Nat) : Bool := match c with
  | none => true
  | some u => decide (coG g i = u)
theorem cnC_n (g i : Nat) : cnC g none i = true := rfl
theorem cnC_s (g u i : Nat) : cnC g (some u) i = decide (coG g i = u) := rfl
def cnB (g t : Nat) (c : Option Nat) (i : Nat) : Bool := decide (tyG g i = t) && cnC g c i
def cnF (g t : Nat) (c : Option Nat) : Nat → Nat → Nat → Nat
  | 0, _, a => a
  | f + 1, i, a => cnF g t c f (i + 1) (if cnB g t c i then a + 1 else a)
theorem s_cnt_5 (hg : g < 32) (hL : LCd g μ) {t : Nat} (ht : t < 19) (c : Option Nat) (hc : ∀ u, c = some u → u < 19) : ∀ (f i a : Nat), i + f = lenG g → m_Gr_countOf_5 (nI t) (oc c) (nI a) (nI i) μ = some (some (.int (nI (cnF g t c f i a))), μ)
  | 0, i, a, e => by
    have l2 := (len_ok g hg).2
    obtain rfl : i = lenG g := by omega
    rw [e_Gr_countOf_5, hL.1, bLf (by omega) (by omega)]
    rfl
  | f + 1, i, a, e => by
    have l2 := (len_ok g hg).2
    obtain ⟨-, t1, t2⟩ := hL.2 i (by omega)
    obtain ⟨⟨o1, -⟩, ⟨o2, -⟩⟩ := tb_ok g hg i (by omega)
    unfold cnF cnB
    rw [e_Gr_countOf_5, hL.1, bLt (by omega) (by omega), bLt (by omega) (by omega), gi (by omega) (by omega), kl (by omega), t1, gi (by omega) (by omega), t2, nI_p1, nI_p1, d_eq (by omega) (by omega)]
    by_cases q : tyG g i = t
    · rw [decide_eq_true q, cond_true, Bool.true_and]
      cases c with
      | none =>
        rw [show oc none = (-1 : Int32) from rfl, bt neg1, cnC_n, if_pos rfl]
        exact s_cnt_5 hg hL ht none hc f (i + 1) _ (by omega)
      | some u =>
        have hu := hc u rfl
        rw [show oc (some u) = nI u from rfl, bf (d_e1 (by omega)), d_eq (by omega) (by omega), cnC_s]
        by_cases q2 : coG g i = u
        · rw [decide_eq_true q2, cond_true, if_pos rfl]
          exact s_cnt_5 hg hL ht (some u) hc f (i + 1) _ (by omega)
        · rw [decide_eq_false q2, cond_false, if_neg (by decide)]
          exact s_cnt_5 hg hL ht (some u) hc f (i + 1) _ (by omega)
    · rw [decide_eq_false q, cond_false, Bool.false_and, if_neg (by decide)]
      exact s_cnt_5 hg hL ht c hc f (i + 1) _ (by omega)
end RLS
