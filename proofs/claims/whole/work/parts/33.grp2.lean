/-! the group in hand: made anew, both sides; group, sum, times, order, figure -/
theorem s_elsOf {p : Nat} (s : Nat) (hs : s < 2 ^ 31) (μ : Mm) : ∀ (f i x : Nat), i + f = s → m_Gr_elementsOf_10 (nI p) (nI x) (nI s) (nI i) μ = some (some (.int (nI (x * p ^ f))), μ)
  | 0, i, x, e => by
    obtain rfl : i = s := by omega
    rw [e_Gr_elementsOf_10, bLf (by omega) hs, Nat.pow_zero, Nat.mul_one]
  | f + 1, i, x, e => by
    rw [e_Gr_elementsOf_10, bLt (by omega) hs, nI_mul, nI_p1, s_elsOf s hs μ f (i + 1) _ (by omega), Nat.pow_succ, Nat.mul_comm (p ^ f) p, Nat.mul_assoc]
theorem s_elementsOf {t p : Nat} (ht : t < 19) (μ : Mm) : m_Gr_elementsOf (nI t) (nI p) μ = some (some (.int (nI (p ^ sizN t))), μ) := by
  have := sz_lt ht
  rw [e_Gr_elementsOf, s_Ty_size ht, cI_s, s_elsOf (sizN t) (by omega) μ (sizN t) 0 1 (by omega), Nat.one_mul]
theorem s_pow_4 {p : Nat} (s : Nat) (hs : s < 2 ^ 31) (μ : Mm) : ∀ (f i x : Nat), i + f = s → m_Mo_power_4 (nI p) (nI s) (nI x) (nI i) μ = some (some (.int (nI (x * p ^ f))), μ)
  | 0, i, x, e => by
    obtain rfl : i = s := by omega
    rw [e_Mo_power_4, bLf (by omega) hs, Nat.pow_zero, Nat.mul_one]
  | f + 1, i, x, e => by
    rw [e_Mo_power_4, bLt (by omega) hs, nI_mul, nI_p1, s_pow_4 s hs μ f (i + 1) _ (by omega), Nat.pow_succ, Nat.mul_comm (p ^ f) p, Nat.mul_assoc]
theorem s_power {p s : Nat} (hs : s < 2 ^ 31) (μ : Mm) : m_Mo_power (nI p) (nI s) μ = some (some (.int (nI (p ^ s))), μ) := by
  rw [e_Mo_power, s_pow_4 s hs μ s 0 1 (by omega), Nat.one_mul]
theorem s_partAt_4 {t i : Nat} (ht : t < 19) (hi : i < 2 ^ 31) (μ : Mm) : ∀ (f j c : Nat), j + f = 6 → m_Ty_partAt_4 (nI t) (nI i) (nI c) (nI j) μ = some (some (.int (nI (paF t i f j c))), μ)
  | 0, j, c, e => by
    obtain rfl : j = 6 := by omega
    rw [e_Ty_partAt_4, bLt (by omega) (by omega)]
    rfl
  | f + 1, j, c, e => by
    have h1 := col_lt ht (i := j) (by omega)
    rw [e_Ty_partAt_4, bLf (by omega) (by omega), s_Ty_column ht (by omega), cI_s, nI_p1, nI_p1]
    unfold paF
    by_cases q : i < colN t j
    · rw [bLt q (by omega), if_pos q]
      exact s_partAt_4 ht hi μ f (j + 1) _ (by omega)
    · rw [bLf (by omega) hi, if_neg q]
      exact s_partAt_4 ht hi μ f (j + 1) _ (by omega)
theorem s_partAt {t i : Nat} (ht : t < 19) (hi : i < 2 ^ 31) (μ : Mm) : m_Ty_partAt (nI t) (nI i) μ = some (some (.int (nI (paN t i))), μ) := by
  rw [e_Ty_partAt, s_partAt_4 ht hi μ 5 1 0 rfl]
  rfl
theorem pa_lt : ∀ t, t < 19 → ∀ i, i < 5 → paN t i < 6 := by decide +kernel
section BEC
variable {g : Nat} (hg : g < 32)
theorem s_lf_36 {p part i u : Nat} (hp : part < 6) (hi : i < 5) : ∀ (f k r : Nat) (μ : Mm), k + f = part → μ.1 61 1 = nI p → m_Gr_learnFigures_36 (nI u) (nI i) (nI r) (nI part) (nI k) μ = m_Gr_learnFigures_4 (nI (u * (r * p ^ f))) (nI (i + 1)) (sI (sI μ 63 i (nI u)) 62 i (nI (r * p ^ f)))
  | 0, k, r, μ, e, h => by
    obtain rfl : k = part := by omega
    rw [e_Gr_learnFigures_36, bLf (by omega) (by omega), gi hi (by omega), gi hi (by omega), kl (by omega), nI_mul, nI_p1, Nat.pow_zero, Nat.mul_one]
  | f + 1, k, r, μ, e, h => by
    rw [e_Gr_learnFigures_36, bLt (by omega) (by omega), h, nI_mul, nI_p1, s_lf_36 hp hi f (k + 1) _ μ (by omega) h, Nat.pow_succ, Nat.mul_comm (p ^ f) p, Nat.mul_assoc]
theorem s_lf_4 (hg : g < 32) : ∀ (f i : Nat) (μ : Mm), i + f = npG g → μ.1 61 0 = nI (tG g) → μ.1 61 1 = nI (pG g) → μ.1 61 3 = nI (npG g) → (∀ j, j < i → μ.1 62 j = nI (rdG g j) ∧ μ.1 63 j = nI (unG g j)) → ∃ μ', m_Gr_learnFigures_4 (nI (unG g i)) (nI i) μ = some (none, μ') ∧ Fr (fun k => k = 62 ∨ k = 63) μ μ' ∧ ∀ j, j < npG g → μ'.1 62 j = nI (rdG g j) ∧ μ'.1 63 j = nI (unG g j)
  | 0, i, μ, e, h0, h1, h3, hd => by
    obtain ⟨-, -, -, -, h5⟩ := g_1 g hg
    obtain rfl : i = npG g := by omega
    refine ⟨μ, ?_, Fr.rf, hd⟩
    rw [e_Gr_learnFigures_4, h3, bLf (by omega) (by omega)]
  | f + 1, i, μ, e, h0, h1, h3, hd => by
    obtain ⟨⟨ht, -⟩, -, -, -, h5⟩ := g_1 g hg
    obtain ⟨-, r5⟩ := g_2 g hg i (by omega)
    obtain ⟨r5, r6⟩ := r5 (by omega)
    have hp := pa_lt (tG g) ht i (by omega)
    obtain ⟨μ', k1, k2, k3⟩ := s_lf_4 hg f (i + 1) (sI (sI μ 63 i (nI (unG g i))) 62 i (nI (rdG g i))) (by omega) (by rw [sI_o (by omega), sI_o (by omega)]; exact h0) (by rw [sI_o (by omega), sI_o (by omega)]; exact h1) (by rw [sI_o (by omega), sI_o (by omega)]; exact h3) (fun j hj => by
      rw [sI_s, sI_o (by omega), sI_o (by omega), sI_s]
      by_cases q : j = i
      · rw [q, up_s, up_s]
        exact ⟨rfl, rfl⟩
      · rw [up_o q, up_o q]
        exact hd j (by omega))
    refine ⟨μ', ?_, ((Fr.sI (S := fun k => k = 62 ∨ k = 63) (Or.inr rfl)).t2 (Fr.sI (Or.inl rfl))).t2 k2, k3⟩
    rw [e_Gr_learnFigures_4, h3, bLt (by omega) (by omega), bLt (by omega) (by omega), h0, s_partAt ht (by omega), cI_s, s_lf_36 hp (show i < 5 by omega) (paN (tG g) i) 0 1 μ (by omega) h1, Nat.one_mul, ← r5, ← r6, k1]
theorem s_topF (hg : g < 32) {μ : Mm} (h : GF g μ) {b : Nat} (hb : b < 2 ^ 31) : ∀ (f i top : Nat), i + f = npG g → m_Gr_topFigure_4 (nI b) (nI top) (nI i) μ = some (some (.int (nI (tpF g b f i top))), μ)
  | 0, i, top, e => by
    obtain ⟨-, -, -, -, h5⟩ := g_1 g hg
    obtain rfl : i = npG g := by omega
    rw [e_Gr_topFigure_4, h.1, bLf (by omega) (by omega)]
    rfl
  | f + 1, i, top, e => by
    obtain ⟨-, -, -, -, h5⟩ := g_1 g hg
    obtain ⟨⟨r1, r2, r3, r4⟩, -⟩ := g_2 g hg i (by omega)
    rw [e_Gr_topFigure_4, h.1, bLt (by omega) (by omega), bLt (by omega) (by omega), gi (by omega) (by omega), kl (by omega), (h.2 i (by omega)).2, nI_p1]
    unfold tpF
    by_cases q : b < unG g i
    · rw [bLt q (by omega), if_pos q, s_topF hg h hb f (i + 1) _ (by omega)]
    · rw [bLf (by omega) hb, if_neg q, s_topF hg h hb f (i + 1) _ (by omega)]
theorem s_stepped (hg : g < 32) {μ : Mm} (h : GF g μ) {x i y : Nat} (hx : x < 2 ^ 31) (hi : i < npG g) (hs : spG g x i = some y) : m_Gr_stepped (nI x) (nI i) μ = some (some (.int (nI y)), μ) := by
  obtain ⟨-, -, -, -, h5⟩ := g_1 g hg
  obtain ⟨⟨r1, r2, r3, r4⟩, -⟩ := g_2 g hg i (by omega)
  have a1 := fg_lt hg (show i < 5 by omega) x
  unfold spG at hs
  rw [e_Gr_stepped, bf (nI_lt0 (by omega)), bLt (by omega) (by omega), s_figureOf hg h hx hi, cI_s, gi (by omega) (by omega), kl (by omega), (h.2 i hi).1, (h.2 i hi).2, nI_sub r1]
  by_cases q : fgG g x i = rdG g i - 1
  · rw [if_pos q] at hs
    by_cases q2 : unG g i * (rdG g i - 1) ≤ x
    · rw [if_pos q2] at hs
      cases hs
      rw [bEt q, bf (by decide), gi (by omega) (by omega), gi (by omega) (by omega), nI_mul, nI_sub q2]
    · rw [if_neg q2] at hs
      cases hs
  · rw [if_neg q] at hs
    cases hs
    rw [bEf q (Nat.lt_trans a1 (by omega)) (by omega), bt (by decide), gi (by omega) (by omega), nI_add]
def SU (g b : Nat) (μ : Mm) : Prop := ∀ a, a < nG g → ∀ c, c < b → μ.1 64 (a * 32 + c) = nI (adG g a c)
theorem s_ls_70 (hg : g < 32) {b : Nat} (hb : b < nG g) (h1 : 1 ≤ b) : ∀ (f a : Nat) (μ : Mm), a + f = nG g → GF g μ → μ.1 61 2 = nI (nG g) → SU g b μ → (∀ c, c < a → μ.1 64 (c * 32 + b) = nI (adG g c b)) → ∃ μ', m_Gr_learnSums_70 (nI b) (nI (tpG g b)) (nI (b - unG g (tpG g b))) (nI a) μ = m_Gr_learnSums_34 (nI (b + 1)) μ' ∧ Fr (fun k => k = 64) μ μ' ∧ SU g (b + 1) μ'
  | 0, a, μ, e, hF, hN, hS, hc => by
    obtain ⟨-, n1, n2, -, -⟩ := g_1 g hg
    obtain rfl : a = nG g := by omega
    refine ⟨μ, ?_, Fr.rf, fun c hc1 d hd => ?_⟩
    · rw [e_Gr_learnSums_70, hN, bLf (by omega) (by omega), nI_p1]
    · by_cases q : d = b
      · rw [q]; exact hc c hc1
      · exact hS c hc1 d (by omega)
  | f + 1, a, μ, e, hF, hN, hS, hc => by
    obtain ⟨-, n1, n2, -, -⟩ := g_1 g hg
    obtain ⟨⟨q1, q2⟩, q3⟩ := g_4 g hg b hb h1
    have q4 := q3 a (by omega)
    obtain ⟨-, -, -, -, h5⟩ := g_1 g hg
    obtain ⟨⟨-, -, r3, r4⟩, -⟩ := g_2 g hg (tpG g b) (by omega)
    have hv := (g_5 g hg a (by omega)).2 (b - unG g (tpG g b)) (by omega)
    obtain ⟨μ', k1, k2, k3⟩ := s_ls_70 hg hb h1 f (a + 1) (sI μ 64 (a * 32 + b) (nI (adG g a b))) (by omega) (hF.fr (Fr.sI (S := fun k => k = 64) rfl) (fun k x y => by omega)) (by rw [sI_o (by omega)]; exact hN) (fun c hc1 d hd => by
      rw [sI_s, up_o (by omega)]
      exact hS c hc1 d hd) (fun c hc1 => by
      rw [sI_s]
      by_cases q : c = a
      · rw [q, up_s]
      · rw [up_o (by omega)]
        exact hc c (by omega))
    refine ⟨μ', ?_, (Fr.sI (S := fun k => k = 64) rfl).t2 k2, k3⟩
    rw [e_Gr_learnSums_70, hN, bLt (by omega) (by omega), bLt (by omega) (by omega), nI_mul, nI_add, nI_add, gi (by omega) (by omega), kl (by omega), hS a (by omega) (b - unG g (tpG g b)) (by omega), s_stepped hg hF (by omega) q2 q4, cI_s, gi (by omega) (by omega), kl (by omega), nI_p1, k1]
theorem s_ls_34 (hg : g < 32) : ∀ (f b : Nat) (μ : Mm), b + f = nG g → 1 ≤ b → GF g μ → μ.1 61 2 = nI (nG g) → SU g b μ → ∃ μ', m_Gr_learnSums_34 (nI b) μ = some (none, μ') ∧ Fr (fun k => k = 64) μ μ' ∧ SU g (nG g) μ'
  | 0, b, μ, e, h1, hF, hN, hS => by
    obtain ⟨-, n1, n2, -, -⟩ := g_1 g hg
    obtain rfl : b = nG g := by omega
    refine ⟨μ, ?_, Fr.rf, hS⟩
    rw [e_Gr_learnSums_34, hN, bLf (by omega) (by omega)]
  | f + 1, b, μ, e, h1, hF, hN, hS => by
    obtain ⟨-, n1, n2, -, h5⟩ := g_1 g hg
    obtain ⟨⟨q1, q2⟩, q3⟩ := g_4 g hg b (by omega) h1
    obtain ⟨μ1, g1, g2, g3⟩ := s_ls_70 hg (show b < nG g by omega) h1 (nG g) 0 μ (by omega) hF hN hS (fun c hc => absurd hc (Nat.not_lt_zero c))
    obtain ⟨μ2, k1, k2, k3⟩ := s_ls_34 hg f (b + 1) μ1 (by omega) (by omega) (hF.fr g2 (fun k x y => by omega)) (by rw [(g2 61 (by omega)).1]; exact hN) g3
    refine ⟨μ2, ?_, g2.t2 k2, k3⟩
    rw [e_Gr_learnSums_34, hN, bLt (by omega) (by omega), bLt (by omega) (by omega), e_Gr_topFigure, s_topF hg hF (by omega) (npG g) 0 0 (by omega), cI_s, show tpF g b (npG g) 0 0 = tpG g b from rfl, gi (by omega) (by omega), kl (by omega), (hF.2 _ q2).2, nI_sub q1, s_max _ _ (by omega) (by omega), cI_s, show max 0 (b - unG g (tpG g b)) = b - unG g (tpG g b) by omega, g1, k1]
theorem s_ls_2 (hg : g < 32) : ∀ (f a : Nat) (μ : Mm), a + f = nG g → μ.1 61 2 = nI (nG g) → (∀ c, c < a → μ.1 64 (c * 32) = nI c) → ∃ μ', m_Gr_learnSums_2 (nI a) μ = m_Gr_learnSums_34 (nI 1) μ' ∧ Fr (fun k => k = 64) μ μ' ∧ ∀ c, c < nG g → μ'.1 64 (c * 32) = nI c
  | 0, a, μ, e, hN, hc => by
    obtain ⟨-, n1, n2, -, -⟩ := g_1 g hg
    obtain rfl : a = nG g := by omega
    refine ⟨μ, ?_, Fr.rf, hc⟩
    rw [e_Gr_learnSums_2, hN, bLf (by omega) (by omega)]
  | f + 1, a, μ, e, hN, hc => by
    obtain ⟨-, n1, n2, -, -⟩ := g_1 g hg
    obtain ⟨μ', k1, k2, k3⟩ := s_ls_2 hg f (a + 1) (sI μ 64 (a * 32) (nI a)) (by omega) (by rw [sI_o (by omega)]; exact hN) (fun c hc1 => by
      rw [sI_s]
      by_cases q : c = a
      · rw [q, up_s]
      · rw [up_o (by omega)]
        exact hc c (by omega))
    refine ⟨μ', ?_, (Fr.sI (S := fun k => k = 64) rfl).t2 k2, k3⟩
    rw [e_Gr_learnSums_2, hN, bLt (by omega) (by omega), bLt (by omega) (by omega), nI_mul, gi (by omega) (by omega), kl (by omega), nI_p1, k1]
theorem s_bec_54 (hg : g < 32) : ∀ (f a : Nat) (μ : Mm), a + f = nG g → GF g μ → μ.1 61 1 = nI (pG g) → μ.1 61 2 = nI (nG g) → (∀ c, c < a → μ.1 65 c = nI (raG g c)) → ∃ μ', m_Gr_become_54 (nI a) μ = some (none, sI μ' 61 8 (nI 0)) ∧ Fr (fun k => k = 65) μ μ' ∧ ∀ c, c < nG g → μ'.1 65 c = nI (raG g c)
  | 0, a, μ, e, hF, hp, hN, hc => by
    obtain ⟨-, n1, n2, -, -⟩ := g_1 g hg
    obtain rfl : a = nG g := by omega
    refine ⟨μ, ?_, Fr.rf, hc⟩
    rw [e_Gr_become_54, hN, bLf (by omega) (by omega), gd_h isb_0]
  | f + 1, a, μ, e, hF, hp, hN, hc => by
    obtain ⟨⟨-, hpp, -⟩, n1, n2, -, h5⟩ := g_1 g hg
    have hp8 : pG g < 8 := by omega
    have hra : asF g 0 a (nI (pG g)) (npG g) 0 (nI 0) = nI (raG g a) := asF_n hg (by omega) (npG g) 0 0 (by omega)
    obtain ⟨μ', k1, k2, k3⟩ := s_bec_54 hg f (a + 1) (sI μ 65 a (nI (raG g a))) (by omega) (hF.fr (Fr.sI (S := fun k => k = 65) rfl) (fun k x y => by omega)) (by rw [sI_o (by omega)]; exact hp) (by rw [sI_o (by omega)]; exact hN) (fun c hc1 => by
      rw [sI_s]
      by_cases q : c = a
      · rw [q, up_s]
      · rw [up_o (by omega)]
        exact hc c (by omega))
    refine ⟨μ', ?_, (Fr.sI (S := fun k => k = 65) rfl).t2 k2, k3⟩
    rw [e_Gr_become_54, hN, bLt (by omega) (by omega), bLt (by omega) (by omega), hp, s_multiplied hg hF (by omega), cI_s, hra, gi (by omega) (by omega), kl (by omega), nI_p1, k1]
abbrev fGr (k : Nat) : Prop := 61 ≤ k ∧ k < 66
theorem s_bec (hg : g < 32) (μ : Mm) : ∃ μ', (cI (m_Gr_elementsOf (nI (tG g)) (nI (pG g)) (sI (sI μ 61 0 (nI (tG g))) 61 1 (nI (pG g)))) fun v2 μ1 => cI (m_Ty_parts (nI (tG g)) (sI μ1 61 2 v2)) fun v4 μ3 => cV (m_Gr_learnFigures (sI μ3 61 3 v4)) fun μ5 => cV (m_Gr_learnSums μ5) fun μ6 => m_Gr_become_54 (nI 0) μ6) = some (none, μ') ∧ Fr fGr μ μ' ∧ GC g μ' ∧ μ'.1 61 8 = nI 0 := by
  obtain ⟨⟨ht, -, hpw⟩, n1, n2, hnp, h5⟩ := g_1 g hg
  have F0 : Fr fGr μ (sI (sI (sI (sI μ 61 0 (nI (tG g))) 61 1 (nI (pG g))) 61 2 (nI (nG g))) 61 3 (nI (npG g))) := (((Fr.sI (S := fGr) (by omega)).t2 (Fr.sI (by omega))).t2 (Fr.sI (by omega))).t2 (Fr.sI (by omega))
  have e0 : (sI (sI (sI (sI μ 61 0 (nI (tG g))) 61 1 (nI (pG g))) 61 2 (nI (nG g))) 61 3 (nI (npG g))).1 61 0 = nI (tG g) := by
    rw [sI_s, up_o (by omega), sI_s, up_o (by omega), sI_s, up_o (by omega), sI_s, up_s]
  have e1 : (sI (sI (sI (sI μ 61 0 (nI (tG g))) 61 1 (nI (pG g))) 61 2 (nI (nG g))) 61 3 (nI (npG g))).1 61 1 = nI (pG g) := by
    rw [sI_s, up_o (by omega), sI_s, up_o (by omega), sI_s, up_s]
  have e2 : (sI (sI (sI (sI μ 61 0 (nI (tG g))) 61 1 (nI (pG g))) 61 2 (nI (nG g))) 61 3 (nI (npG g))).1 61 2 = nI (nG g) := by
    rw [sI_s, up_o (by omega), sI_s, up_s]
  have e3 : (sI (sI (sI (sI μ 61 0 (nI (tG g))) 61 1 (nI (pG g))) 61 2 (nI (nG g))) 61 3 (nI (npG g))).1 61 3 = nI (npG g) := by
    rw [sI_s, up_s]
  obtain ⟨μ1, g1, g2, g3⟩ := s_lf_4 hg (npG g) 0 _ (by omega) e0 e1 e3 (fun j hj => absurd hj (Nat.not_lt_zero j))
  rw [g_3 g hg] at g1
  have c1 := (g2 61 (by omega)).1
  have hF1 : GF g μ1 := ⟨by rw [c1]; exact e3, g3⟩
  obtain ⟨μ2, k1, k2, k3⟩ := s_ls_2 hg (nG g) 0 μ1 (by omega) (by rw [c1]; exact e2) (fun c hc => absurd hc (Nat.not_lt_zero c))
  have c2 := (k2 61 (by omega)).1
  have hF2 := hF1.fr k2 (fun k x y => by omega)
  obtain ⟨μ3, l1, l2, l3⟩ := s_ls_34 hg (nG g - 1) 1 μ2 (by omega) (by omega) hF2 (by rw [c2, c1]; exact e2) (fun a ha c hc => by
    obtain rfl : c = 0 := by omega
    rw [Nat.add_zero, k3 a ha, (g_5 g hg a ha).1])
  have c3 := (l2 61 (by omega)).1
  have hF3 := hF2.fr l2 (fun k x y => by omega)
  obtain ⟨μ4, o1, o2, o3⟩ := s_bec_54 hg (nG g) 0 μ3 (by omega) hF3 (by rw [c3, c2, c1]; exact e1) (by rw [c3, c2, c1]; exact e2) (fun c hc => absurd hc (Nat.not_lt_zero c))
  have c4 := (o2 61 (by omega)).1
  have hF4 := hF3.fr o2 (fun k x y => by omega)
  refine ⟨sI μ4 61 8 (nI 0), ?_, ?_, ⟨⟨?_, ?_, ?_, ?_⟩, fun i hi => ?_, fun a ha b hb => ?_, fun a ha => ?_⟩, ?_⟩
  · rw [s_elementsOf ht, cI_s, s_Ty_parts ht, cI_s, ← hpw, ← hnp, e_Gr_learnFigures, g1, cV_s, e_Gr_learnSums, k1, l1, cV_s, o1]
  · exact ((((F0.t2 (g2.w (fun k hk => by omega))).t2 (k2.w (fun k hk => by omega))).t2 (l2.w (fun k hk => by omega))).t2 (o2.w (fun k hk => by omega))).t2 (Fr.sI (by omega))
  · rw [sI_s, up_o (by omega), c4, c3, c2, c1]; exact e0
  · rw [sI_s, up_o (by omega), c4, c3, c2, c1]; exact e1
  · rw [sI_s, up_o (by omega), c4, c3, c2, c1]; exact e2
  · rw [sI_s, up_o (by omega), c4, c3, c2, c1]; exact e3
  · rw [sI_o (by omega), sI_o (by omega)]; exact hF4.2 i hi
  · rw [sI_o (by omega), (o2 64 (by omega)).1]; exact l3 a ha b hb
  · rw [sI_o (by omega)]; exact o3 a ha
  · rw [sI_s, up_s]
theorem s_become {h : Nat} (hg : g < 32) (hh : h < 32) {μ : Mm} (hC : GC h μ) : ∃ μ', m_Gr_become (nI (tG g)) (nI (pG g)) μ = some (none, μ') ∧ Fr fGr μ μ' ∧ GC g μ' ∧ (μ'.1 61 8 = nI 0 ∨ h = g ∧ μ' = μ) := by
  obtain ⟨⟨ht, hp, -⟩, -⟩ := g_1 g hg
  obtain ⟨⟨ht2, hp2, -⟩, -⟩ := g_1 h hh
  rw [e_Gr_become, hC.1.1, hC.1.2.1, d_eq (by omega) (by omega), d_eq (by omega) (by omega)]
  by_cases q : tG g = tG h
  · rw [bt (decide_eq_true q)]
    by_cases q2 : pG g = pG h
    · rw [bt (decide_eq_true q2)]
      have := g_inj g hg h hh q q2
      subst this
      exact ⟨μ, rfl, Fr.rf, hC, Or.inr ⟨rfl, rfl⟩⟩
    · rw [bf (decide_eq_false q2)]
      obtain ⟨μ', g1, g2, g3, g4⟩ := s_bec hg μ
      exact ⟨μ', g1, g2, g3, Or.inl g4⟩
  · rw [bf (decide_eq_false q)]
    obtain ⟨μ', g1, g2, g3, g4⟩ := s_bec hg μ
    exact ⟨μ', g1, g2, g3, Or.inl g4⟩
end BEC
/-- the reference's figures, from the number told -/
def tkT (left : Nat) : Nat → Nat → Option Nat
  | 0, _ => none
  | f + 1, top => if left < top * 10 then some top else tkT left f (top * 10)
def tkF (p : Nat) : Nat → Nat → Nat → Option (List Nat)
  | 0, _, _ => none
  | f + 1, left, at' => if 0 < at' ∧ 0 < left then (match tkF p f (left % at') (at' / 10) with | none => none | some L => some (p ^ (left / at') :: L)) else some []
def tkP (L : List Nat) : Nat := L.foldr (· * ·) 1
theorem tk_ok : ∀ g, g < 32 → (match tkT (numN (tG g)) 7 1 with | none => false | some top => decide (top < 1000000) && (match tkF (pG g) 7 (numN (tG g)) top with | none => false | some L => decide (L = (List.range (npG g)).map (rdG g)) && decide (tkP L = nG g))) = true := by decide +kernel
theorem s_takes_30 {left : Nat} (hl : left < 2 ^ 31) (p : Int32) (μ : Mm) : ∀ (f top r : Nat), top ≤ 10 ^ (8 - f) → f ≤ 7 → tkT left f top = some r → m_Mo_takes_30 p (nI left) (nI top) μ = m_Mo_takes_53 p (nI left) (nI r) μ
  | 0, top, r, _, _, e => by cases e
  | f + 1, top, r, ht, hf, e => by
    have h1 : top ≤ 10 ^ 7 := Nat.le_trans ht (Nat.pow_le_pow_right (by omega) (by omega))
    unfold tkT at e
    rw [e_Mo_takes_30, nI_mul]
    by_cases q : left < top * 10
    · rw [if_pos q] at e
      cases e
      rw [bLt q (by omega)]
    · rw [if_neg q] at e
      have h2 : top * 10 ≤ 10 ^ (8 - f) := by
        rw [show 8 - f = (8 - (f + 1)) + 1 by omega, Nat.pow_succ]
        exact Nat.mul_le_mul_right 10 ht
      rw [bLf (by omega) hl]
      exact s_takes_30 hl p μ f (top * 10) r h2 (by omega) e
theorem s_takes_53 {p : Nat} : ∀ (f left at' j el : Nat) (L : List Nat) (μ : Mm), left < 2 ^ 31 → at' < 2 ^ 31 → tkF p f left at' = some L → j + L.length ≤ 5 → μ.1 306 18 = nI j → μ.1 306 16 = nI el → ∃ μ', m_Mo_takes_53 (nI p) (nI left) (nI at') μ = some (none, μ') ∧ Fr (fun k => k = 306 ∨ k = 319) μ μ' ∧ (∀ i, i ≠ 16 → i ≠ 18 → i ≠ 21 → μ'.1 306 i = μ.1 306 i) ∧ (μ'.1 306 18 = nI (j + L.length) ∧ μ'.1 306 16 = nI (el * tkP L) ∧ μ'.1 306 21 = nI 0) ∧ (∀ i, i < L.length → μ'.1 319 (j + i) = nI (L.getD i 0)) ∧ ∀ i, i < j → μ'.1 319 i = μ.1 319 i
  | 0, left, at', j, el, L, μ, _, _, e, _, _, _ => by cases e
  | f + 1, left, at', j, el, L, μ, hl, ha, e, hj, h18, h16 => by
    unfold tkF at e
    by_cases q : 0 < at' ∧ 0 < left
    · rw [if_pos q] at e
      cases hL : tkF p f (left % at') (at' / 10) with
      | none => rw [hL] at e; cases e
      | some L' =>
        rw [hL] at e
        cases e
        rw [List.length_cons] at hj
        have e1 : ∀ (m : Mm) (j : Nat) (v : Int32), (sI m 319 j v).1 306 = m.1 306 := fun m j v => sI_o (by omega)
        have e2 : ∀ (m : Mm) (j : Nat) (v : Int32), (sI m 319 j v).1 319 j = v := fun m j v => by rw [sI_s, up_s]
        have e3 : ∀ (m : Mm) (v : Int32), (sI m 306 16 v).1 306 18 = m.1 306 18 := fun m v => by rw [sI_s, up_o (by omega)]
        have d1 : left / at' < 2 ^ 31 := Nat.lt_of_le_of_lt (Nat.div_le_self _ _) hl
        have d2 : at' / 10 < 2 ^ 31 := Nat.lt_of_le_of_lt (Nat.div_le_self _ _) ha
        have d3 : left % at' < 2 ^ 31 := Nat.lt_of_le_of_lt (Nat.mod_le _ _) hl
        obtain ⟨μ', k1, k2, k3, ⟨k4, k5, k6⟩, k7, k8⟩ := s_takes_53 f (left % at') (at' / 10) (j + 1) (el * p ^ (left / at')) L' (sI (sI (sI μ 319 j (nI (p ^ (left / at')))) 306 16 (nI (el * p ^ (left / at')))) 306 18 (nI (j + 1))) d3 d2 hL (by omega) (by rw [sI_s, up_s]) (by rw [sI_s, up_o (by omega), sI_s, up_s])
        refine ⟨μ', ?_, (((Fr.sI (S := fun k => k = 306 ∨ k = 319) (Or.inr rfl)).t2 (Fr.sI (Or.inl rfl))).t2 (Fr.sI (Or.inl rfl))).t2 k2, fun i i1 i2 i3 => ?_, ⟨?_, ?_, k6⟩, fun i hi => ?_, fun i hi => ?_⟩
        · rw [e_Mo_takes_53, bLt q.1 ha, bLt q.2 hl, gd_h (ne_nI q.1 ha), nI_div hl ha, s_power d1, cI_s]
          simp only [e1, h18, e3]
          rw [kl (by omega), gi (by omega) (by omega), gi (by omega) (by omega), gd_h (ne_nI q.1 ha), gd_h ne10]
          simp only [e2, h16]
          rw [nI_mul, nI_p1, nI_mul, nI_sub (Nat.div_mul_le_self left at'), show left - left / at' * at' = left % at' from (by have := Nat.div_add_mod left at'; rw [Nat.mul_comm] at this; omega), nI_div ha (by omega), k1]
        · rw [k3 i i1 i2 i3, sI_s, up_o i2, sI_s, up_o i1, sI_o (by omega)]
        · rw [k4, List.length_cons]
          congr 1
          omega
        · rw [k5]
          show nI (el * p ^ (left / at') * tkP L') = nI (el * (p ^ (left / at') * tkP L'))
          rw [Nat.mul_assoc]
        · cases i with
          | zero =>
            rw [Nat.add_zero, k8 j (by omega), sI_o (by omega), sI_o (by omega), sI_s, up_s]
            rfl
          | succ i =>
            rw [show j + (i + 1) = j + 1 + i by omega, k7 i (by rw [List.length_cons] at hi; omega)]
            rfl
        · rw [k8 i (by omega), sI_o (by omega), sI_o (by omega), sI_s, up_o (by omega)]
    · rw [if_neg q] at e
      cases e
      refine ⟨sI μ 306 21 (nI 0), ?_, Fr.sI (Or.inl rfl), fun i i1 i2 i3 => by rw [sI_s, up_o i3], ⟨?_, ?_, by rw [sI_s, up_s]⟩, fun i hi => absurd hi (Nat.not_lt_zero i), fun i hi => by rw [sI_o (by omega)]⟩
      · rw [e_Mo_takes_53]
        by_cases q1 : 0 < at'
        · rw [bLt q1 ha, bLf (by omega) (by omega)]
        · rw [bLf (by omega) (by omega)]
      · rw [sI_s, up_o (by omega), h18]
        rfl
      · rw [sI_s, up_o (by omega), h16]
        show nI el = nI (el * 1)
        rw [Nat.mul_one]
abbrev fTk (k : Nat) : Prop := k = 306 ∨ k = 319
theorem s_takes {g : Nat} (hg : g < 32) {μ : Mm} (hT : MT μ) : ∃ μ', m_Mo_takes (nI (tG g)) (nI (pG g)) μ = some (none, μ') ∧ Fr fTk μ μ' ∧ GM g μ' ∧ μ'.1 306 21 = nI 0 ∧ ∀ i, (i < 14 ∨ 21 < i) → μ'.1 306 i = μ.1 306 i := by
  obtain ⟨⟨ht, hp, -⟩, n1, n2, hnp, h5⟩ := g_1 g hg
  have ho := tk_ok g hg
  have hn := numN_lt (tG g)
  cases h1 : tkT (numN (tG g)) 7 1 with
  | none => rw [h1] at ho; cases ho
  | some top =>
    rw [h1] at ho
    obtain ⟨o1, ho⟩ := Bool.and_eq_true_iff.mp ho
    have o1 := of_decide_eq_true o1
    cases h2 : tkF (pG g) 7 (numN (tG g)) top with
    | none => rw [h2] at ho; cases ho
    | some L =>
      rw [h2] at ho
      obtain ⟨o2, o3⟩ := Bool.and_eq_true_iff.mp ho
      have o2 := of_decide_eq_true o2
      have o3 := of_decide_eq_true o3
      have hlen : L.length = npG g := by rw [o2, List.length_map, List.length_range]
      obtain ⟨μ', k1, k2, k3, ⟨k4, k5, k6⟩, k7, -⟩ := s_takes_53 7 (numN (tG g)) top 0 1 L (sI (sI (sI (sI μ 306 14 (nI (tG g))) 306 15 (nI (pG g))) 306 16 (nI 1)) 306 18 (nI 0)) (by omega) (by omega) h2 (by omega) (by rw [sI_s, up_s]) (by rw [sI_s, up_o (by omega), sI_s, up_s])
      refine ⟨μ', ?_, ((((Fr.sI (S := fTk) (Or.inl rfl)).t2 (Fr.sI (Or.inl rfl))).t2 (Fr.sI (Or.inl rfl))).t2 (Fr.sI (Or.inl rfl))).t2 k2, ⟨⟨?_, ?_, ?_, ?_⟩, fun i hi => ?_⟩, k6, fun i hi => ?_⟩
      · rw [e_Mo_takes, gi ht (by omega), kl (by omega), sI_o (by omega), sI_o (by omega), sI_o (by omega), sI_o (by omega), hT.1 (tG g) ht, s_takes_30 (by omega) _ _ 7 1 top (by decide) (by omega) h1, k1]
      · rw [k3 14 (by omega) (by omega) (by omega), sI_s, up_o (by omega), sI_s, up_o (by omega), sI_s, up_o (by omega), sI_s, up_s]
      · rw [k3 15 (by omega) (by omega) (by omega), sI_s, up_o (by omega), sI_s, up_o (by omega), sI_s, up_s]
      · rw [k5, o3, Nat.one_mul]
      · rw [k4, hlen, Nat.zero_add]
      · have := k7 i (by omega)
        rw [Nat.zero_add] at this
        rw [this, o2, List.getD_eq_getElem?_getD, List.getElem?_map, List.getElem?_range hi]
        rfl
      · rw [k3 i (by omega) (by omega) (by omega), sI_s, up_o (by omega), sI_s, up_o (by omega), sI_s, up_o (by omega), sI_s, up_o (by omega)]
