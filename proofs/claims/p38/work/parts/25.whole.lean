/-! choices, subgroups, whole, value: both sides -/
/-- a part of a polynomial: its degree, or a coefficient -/
def prt (f : Nat → Int64) (x : Int32) : Int64 := if x = (-1 : Int32) then (degF f 31).toInt64 else f x.toNatClampNeg
theorem prt_congr {f g : Nat → Int64} {x : Int32} (hx : x = (-1 : Int32) ∨ ∃ k, k < 31 ∧ x = nI k) (h : ∀ j, j < 31 → f j = g j) : prt f x = prt g x := by
  unfold prt
  rcases hx with rfl | ⟨k, hk, rfl⟩
  · rw [if_pos rfl, if_pos rfl, degF_congr 31 h]
  · rw [if_neg (of_decide_eq_false (d_e1 (by omega))), if_neg (of_decide_eq_false (d_e1 (by omega))), kl (by omega), h k hk]
theorem degF_cut {f : Nat → Int64} {n : Nat} : ∀ m, n ≤ m → degF (cut n f) m = degF f n
  | 0, h => by
    obtain rfl : n = 0 := by omega
    rfl
  | m + 1, h => by
    by_cases q : n = m + 1
    · subst q
      exact degF_congr _ (fun j hj => if_pos hj)
    · show (if cut n f m = lN 0 then degF (cut n f) m else nI m) = _
      rw [show cut n f m = lN 0 from if_neg (by omega), if_pos rfl]
      exact degF_cut m (by omega)
theorem s_partOf {k n : Nat} (hk : shK k = 1) (hn : shN k = n) (hN : n ≤ 31) (h0 : 0 < n) {x : Int32} (hx : x = (-1 : Int32) ∨ ∃ j, j < 31 ∧ x = nI j) (μ : Mm) : m_Po_partOf k x μ = some (some (.long (prt (cut n (μ.2 k)) x)), μ) := by
  unfold prt
  rcases hx with rfl | ⟨j, hj, rfl⟩
  · rw [if_pos rfl, e_Po_partOf, bt (by decide), s_degree hk hn (by omega) h0, cI_s, degF_cut 31 hN]
  · rw [if_neg (of_decide_eq_false (d_e1 (by omega))), kl (by omega), s_partOf_n hk hn (by omega) (by omega)]
theorem s_part31 {k : Nat} (h1 : shK k = 1) (h2 : shN k = 31) {A : List Int} {μ : Mm} (h : HL k A μ) {x : Int32} (hx : x = (-1 : Int32) ∨ ∃ j, j < 31 ∧ x = nI j) : m_Po_partOf k x μ = some (some (.long (prt (rp A) x)), μ) := by
  rw [s_partOf h1 h2 (by omega) (by omega) hx]
  rw [prt_congr (g := rp A) hx (fun j hj => by
    unfold cut
    rw [if_pos hj]
    exact h j hj)]
theorem val_congr {f g : Nat → Int64} {p : Int64} : ∀ n v, (∀ j, j < n → f j = g j) → val f p n v = val g p n v
  | 0, _, _ => rfl
  | n + 1, v, h => by
    show val f p n (v * p + f n) = val g p n (v * p + g n)
    rw [h n (by omega)]
    exact val_congr n _ (fun j hj => h j (by omega))
theorem s_value31 {k : Nat} (h1 : shK k = 1) (h2 : shN k = 31) {A : List Int} {μ : Mm} (h : HL k A μ) (p : Int32) : m_Po_valueAt k p μ = some (some (.long (val (rp A) p.toInt64 31 (lN 0))), μ) := by
  rw [s_valueAt h1 h2 (by omega) (by omega), val_congr 31 _ h]
/-- a call of polynomials: the same long on both sides, but for rows nothing changed -/
abbrev cP (k : Nat) : Prop := k = 59 ∨ k = 60 ∨ k = 274 ∨ k = 310 ∨ k = 311 ∨ k = 317 ∨ k = 318
theorem k274 : shK 274 = 1 := by decide
theorem n274 : shN 274 = 31 := by decide
/-- all subgroups -/
def sumF (l : Nat) : Nat → Nat → List Int → List Int
  | 0, _, A => A
  | f + 1, m, A => sumF l f (m + 1) (addP A (subC l m))
theorem i64_1 (x : Int64) : Int64.ofInt 1 * x = x := by
  rw [show Int64.ofInt 1 = 1 by decide, Int64.one_mul]
theorem c_add1 {k b : Nat} {μ : Mm} {A B : List Int} (h1 : shK k = 1) (h2 : shN k = 31) (hb1 : shK b = 1) (hb2 : shN b = 31) (hkb : k ≠ b) (h : HL k A μ) (hB : HL b B μ) : ∃ μ', m_Po_add k b (lN 1) μ = some (none, μ') ∧ Fr (fun c => c = k) μ μ' ∧ HL k (addP A B) μ' := by
  obtain ⟨μ', g1, g2, g3⟩ := c_add (x := lN 1) (z := 1) h1 h2 hb1 hb2 hkb (by decide) h hB
  refine ⟨μ', g1, g2, fun j hj => ?_⟩
  rw [g3 j hj, rp_add, rp_add, rp_sca, i64_1]
theorem s_allSub_6 {k l : Nat} (h1 : shK k = 1) (h2 : shN k = 31) (hk : 60 < k) (hl : l < 19) : ∀ (f m : Nat) (A : List Int) (μ : Mm), m + f = 19 → CT μ → HL k A μ → ∃ μ', m_Co_writeAllSubgroups_6 k (nI l) (nI m) μ = some (none, μ') ∧ Fr (fun c => c = k ∨ c = 59) μ μ' ∧ HL k (sumF l f m A) μ'
  | 0, m, A, μ, e, hC, h => by
    obtain rfl : m = 19 := by omega
    refine ⟨μ, ?_, Fr.rf, h⟩
    rw [e_Co_writeAllSubgroups_6, bLf (by omega) (by omega)]
  | f + 1, m, A, μ, e, hC, h => by
    obtain ⟨μ1, g1, g2, g3⟩ := s_writeSubgroups (k := 59) (by decide) (by decide) (by omega) hl (show m < 19 by omega) hC
    obtain ⟨μ2, g4, g5, g6⟩ := c_add1 (b := 59) h1 h2 (by decide) (by decide) (by omega) (h.fr g2 (by omega)) g3
    have F2 := (g2.w (T := fun c => c = k ∨ c = 59) (fun c hc => Or.inr hc)).t2 (g5.w (fun c hc => Or.inl hc))
    obtain ⟨μ3, k1, k2, k3⟩ := s_allSub_6 h1 h2 hk hl f (m + 1) _ μ2 (by omega) (hC.fr F2 (fun c a b => by omega) (fun q => q.elim (not312 h2) (by omega))) g6
    refine ⟨μ3, ?_, F2.t2 k2, k3⟩
    rw [e_Co_writeAllSubgroups_6, bLt (by omega) (by omega), g1, cV_s, g4, cV_s, nI_p1, k1]
theorem s_allSub {l : Nat} (hl : l < 19) {μ : Mm} (hC : CT μ) : ∃ μ', m_Co_writeAllSubgroups 274 (nI l) μ = some (none, μ') ∧ Fr cP μ μ' ∧ HL 274 (sumF l 19 0 []) μ' := by
  obtain ⟨μ1, g1, g2, g3⟩ := c_zero k274 n274 μ
  obtain ⟨μ2, k1, k2, k3⟩ := s_allSub_6 k274 n274 (by omega) hl 19 0 [] μ1 rfl (hC.fr g2 (fun c a b => by omega) (by omega)) g3
  refine ⟨μ2, ?_, (g2.w (fun c hc => by omega)).t2 (k2.w (fun c hc => by omega)), k3⟩
  rw [e_Co_writeAllSubgroups, g1, cV_s, k1]
