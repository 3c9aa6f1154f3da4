/-! the group in hand: made anew, both sides; group, sum, times, order, figure -/
theorem s_elsOf {p : Nat} (s : Nat) (hs : s < 2 ^ 31) (μ : Mm) : ∀ (f i x : Nat), i + f = s → m_Gr_elementsOf_10 (nI p) (nI x) (nI s) (nI i) μ = some (some (.int (nI (x * p ^ f))), μ)
  | 0, i, x, e => by
    obtain rfl : i = s := by omega
    rw [e_Gr_elementsOf_10, bLf (by omega) hs, Nat.pow_zero, Nat.mul_one]
  | f + 1, i, x, e => by
    rw [e_Gr_elementsOf_10, bLt (by omega) hs, nI_mul, nI_p1, s_elsOf s hs μ f (i + 1) _ (by omega), Nat.pow_succ, Nat.mul_comm (p ^ f) p, Nat.mul_assoc]
theorem s_elementsOf {t p : Nat} (ht : t < 19) (μ : Mm) : m_Gr_elementsOf (nI t) (nI p) μ = some (some (.int (nI (p ^ sizN t))), μ) := by
  have := sz_lt ht
  rw [e_Gr_elementsOf, s_Ty_size ht, cI_s, s_elsOf (sizN t) (by omega) μ (sizN t) 0 1 (by omega), Nat.one_mul]
theorem s_partAt_4 {t i : Nat} (ht : t < 19) (hi : i < 2 ^ 31) (μ : Mm) : ∀ (f j c : Nat), j + f = 6 → m_Ty_partAt_4 (nI t) (nI i) (nI c) (nI j) μ = some (some (.int (nI (paF t i f j c))), μ)
  | 0, j, c, e => by
    obtain rfl : j = 6 := by omega
    rw [e_Ty_partAt_4, bLt (by omega) (by omega)]
    rfl
  | f + 1, j, c, e => by
    have h1 := col_lt ht (i := j) (by omega)
    rw [e_Ty_partAt_4, bLf (by omega) (by omega), s_Ty_column ht (by omega), cI_s, nI_p1, nI_p1]
    unfold paF
    by_cases q : i < colN t j
    · rw [bLt q (by omega), if_pos q]
      exact s_partAt_4 ht hi μ f (j + 1) _ (by omega)
    · rw [bLf (by omega) hi, if_neg q]
      exact s_partAt_4 ht hi μ f (j + 1) _ (by omega)
theorem s_partAt {t i : Nat} (ht : t < 19) (hi : i < 2 ^ 31) (μ : Mm) : m_Ty_partAt (nI t) (nI i) μ = some (some (.int (nI (paN t i))), μ) := by
  rw [e_Ty_partAt, s_partAt_4 ht hi μ 5 1 0 rfl]
  rfl
theorem pa_lt : ∀ t, t < 19 → ∀ i, i < 5 → paN t i < 6 := by decide +kernel
section BEC
variable {g : Nat} (hg : g < 32)
theorem s_lf_36 {p part i u : Nat} (hp : part < 6) (hi : i < 5) : ∀ (f k r : Nat) (μ : Mm), k + f = part → μ.1 61 1 = nI p → m_Gr_learnFigures_36 (nI u) (nI i) (nI r) (nI part) (nI k) μ = m_Gr_learnFigures_4 (nI (u * (r * p ^ f))) (nI (i + 1)) (sI (sI μ 63 i (nI u)) 62 i (nI (r * p ^ f)))
  | 0, k, r, μ, e, h => by
    obtain rfl : k = part := by omega
    rw [e_Gr_learnFigures_36, bLf (by omega) (by omega), gi hi (by omega), gi hi (by omega), kl (by omega), nI_mul, nI_p1, Nat.pow_zero, Nat.mul_one]
  | f + 1, k, r, μ, e, h => by
    rw [e_Gr_learnFigures_36, bLt (by omega) (by omega), h, nI_mul, nI_p1, s_lf_36 hp hi f (k + 1) _ μ (by omega) h, Nat.pow_succ, Nat.mul_comm (p ^ f) p, Nat.mul_assoc]
theorem s_lf_4 (hg : g < 32) : ∀ (f i : Nat) (μ : Mm), i + f = npG g → μ.1 61 0 = nI (tG g) → μ.1 61 1 = nI (pG g) → μ.1 61 3 = nI (npG g) → (∀ j, j < i → μ.1 62 j = nI (rdG g j) ∧ μ.1 63 j = nI (unG g j)) → ∃ μ', m_Gr_learnFigures_4 (nI (unG g i)) (nI i) μ = some (none, μ') ∧ Fr (fun k => k = 62 ∨ k = 63) μ μ' ∧ ∀ j, j < npG g → μ'.1 62 j = nI (rdG g j) ∧ μ'.1 63 j = nI (unG g j)
  | 0, i, μ, e, h0, h1, h3, hd => by
    obtain ⟨-, -, -, -, h5⟩ := g_1 g hg
    obtain rfl : i = npG g := by omega
    refine ⟨μ, ?_, Fr.rf, hd⟩
    rw [e_Gr_learnFigures_4, h3, bLf (by omega) (by omega)]
  | f + 1, i, μ, e, h0, h1, h3, hd => by
    obtain ⟨⟨ht, -⟩, -, -, -, h5⟩ := g_1 g hg
    obtain ⟨-, r5⟩ := g_2 g hg i (by omega)
    obtain ⟨r5, r6⟩ := r5 (by omega)
    have hp := pa_lt (tG g) ht i (by omega)
    obtain ⟨μ', k1, k2, k3⟩ := s_lf_4 hg f (i + 1) (sI (sI μ 63 i (nI (unG g i))) 62 i (nI (rdG g i))) (by omega) (by rw [sI_o (by omega), sI_o (by omega)]; exact h0) (by rw [sI_o (by omega), sI_o (by omega)]; exact h1) (by rw [sI_o (by omega), sI_o (by omega)]; exact h3) (fun j hj => by
      rw [sI_s, sI_o (by omega), sI_o (by omega), sI_s]
      by_cases q : j = i
      · rw [q, up_s, up_s]
        exact ⟨rfl, rfl⟩
      · rw [up_o q, up_o q]
        exact hd j (by omega))
    refine ⟨μ', ?_, ((Fr.sI (S := fun k => k = 62 ∨ k = 63) (Or.inr rfl)).t2 (Fr.sI (Or.inl rfl))).t2 k2, k3⟩
    rw [e_Gr_learnFigures_4, h3, bLt (by omega) (by omega), bLt (by omega) (by omega), h0, s_partAt ht (by omega), cI_s, s_lf_36 hp (show i < 5 by omega) (paN (tG g) i) 0 1 μ (by omega) h1, Nat.one_mul, ← r5, ← r6, k1]
theorem s_topF (hg : g < 32) {μ : Mm} (h : GF g μ) {b : Nat} (hb : b < 2 ^ 31) : ∀ (f i top : Nat), i + f = npG g → m_Gr_topFigure_4 (nI b) (nI top) (nI i) μ = some (some (.int (nI (tpF g b f i top))), μ)
  | 0, i, top, e => by
    obtain ⟨-, -, -, -, h5⟩ := g_1 g hg
    obtain rfl : i = npG g := by omega
    rw [e_Gr_topFigure_4, h.1, bLf (by omega) (by omega)]
    rfl
  | f + 1, i, top, e => by
    obtain ⟨-, -, -, -, h5⟩ := g_1 g hg
    obtain ⟨⟨r1, r2, r3, r4⟩, -⟩ := g_2 g hg i (by omega)
    rw [e_Gr_topFigure_4, h.1, bLt (by omega) (by omega), bLt (by omega) (by omega), gi (by omega) (by omega), kl (by omega), (h.2 i (by omega)).2, nI_p1]
    unfold tpF
    by_cases q : b < unG g i
    · rw [bLt q (by omega), if_pos q, s_topF hg h hb f (i + 1) _ (by omega)]
    · rw [bLf (by omega) hb, if_neg q, s_topF hg h hb f (i + 1) _ (by omega)]
theorem s_stepped (hg : g < 32) {μ : Mm} (h : GF g μ) {x i y : Nat} (hx : x < 2 ^ 31) (hi : i < npG g) (hs : spG g x i = some y) : m_Gr_stepped (nI x) (nI i) μ = some (some (.int (nI y)), μ) := by
  obtain ⟨-, -, -, -, h5⟩ := g_1 g hg
  obtain ⟨⟨r1, r2, r3, r4⟩, -⟩ := g_2 g hg i (by omega)
  have a1 := fg_lt hg (show i < 5 by omega) x
  unfold spG at hs
  rw [e_Gr_stepped, bf (nI_lt0 (by omega)), bLt (by omega) (by omega), s_figureOf hg h hx hi, cI_s, gi (by omega) (by omega), kl (by omega), (h.2 i hi).1, (h.2 i hi).2, nI_sub r1]
  by_cases q : fgG g x i = rdG g i - 1
  · rw [if_pos q] at hs
    by_cases q2 : unG g i * (rdG g i - 1) ≤ x
    · rw [if_pos q2] at hs
      cases hs
      rw [bEt q, bf (by decide), gi (by omega) (by omega), gi (by omega) (by omega), nI_mul, nI_sub q2]
    · rw [if_neg q2] at hs
      cases hs
  · rw [if_neg q] at hs
    cases hs
    rw [bEf q (Nat.lt_trans a1 (by omega)) (by omega), bt (by decide), gi (by omega) (by omega), nI_add]
def SU (g b : Nat) (μ : Mm) : Prop := ∀ a, a < nG g → ∀ c, c < b → μ.1 64 (a * 32 + c) = nI (adG g a c)
theorem s_ls_70 (hg : g < 32) {b : Nat} (hb : b < nG g) (h1 : 1 ≤ b) : ∀ (f a : Nat) (μ : Mm), a + f = nG g → GF g μ → μ.1 61 2 = nI (nG g) → SU g b μ → (∀ c, c < a → μ.1 64 (c * 32 + b) = nI (adG g c b)) → ∃ μ', m_Gr_learnSums_70 (nI b) (nI (tpG g b)) (nI (b - unG g (tpG g b))) (nI a) μ = m_Gr_learnSums_34 (nI (b + 1)) μ' ∧ Fr (fun k => k = 64) μ μ' ∧ SU g (b + 1) μ'
  | 0, a, μ, e, hF, hN, hS, hc => by
    obtain ⟨-, n1, n2, -, -⟩ := g_1 g hg
    obtain rfl : a = nG g := by omega
    refine ⟨μ, ?_, Fr.rf, fun c hc1 d hd => ?_⟩
    · rw [e_Gr_learnSums_70, hN, bLf (by omega) (by omega), nI_p1]
    · by_cases q : d = b
      · rw [q]; exact hc c hc1
      · exact hS c hc1 d (by omega)
  | f + 1, a, μ, e, hF, hN, hS, hc => by
    obtain ⟨-, n1, n2, -, -⟩ := g_1 g hg
    obtain ⟨⟨q1, q2⟩, q3⟩ := g_4 g hg b hb h1
    have q4 := q3 a (by omega)
    obtain ⟨-, -, -, -, h5⟩ := g_1 g hg
    obtain ⟨⟨-, -, r3, r4⟩, -⟩ := g_2 g hg (tpG g b) (by omega)
    have hv := (g_5 g hg a (by omega)).2 (b - unG g (tpG g b)) (by omega)
    obtain ⟨μ', k1, k2, k3⟩ := s_ls_70 hg hb h1 f (a + 1) (sI μ 64 (a * 32 + b) (nI (adG g a b))) (by omega) (hF.fr (Fr.sI (S := fun k => k = 64) rfl) (fun k x y => by omega)) (by rw [sI_o (by omega)]; exact hN) (fun c hc1 d hd => by
      rw [sI_s, up_o (by omega)]
      exact hS c hc1 d hd) (fun c hc1 => by
      rw [sI_s]
      by_cases q : c = a
      · rw [q, up_s]
      · rw [up_o (by omega)]
        exact hc c (by omega))
    refine ⟨μ', ?_, (Fr.sI (S := fun k => k = 64) rfl).t2 k2, k3⟩
    rw [e_Gr_learnSums_70, hN, bLt (by omega) (by omega), bLt (by omega) (by omega), nI_mul, nI_add, nI_add, gi (by omega) (by omega), kl (by omega), hS a (by omega) (b - unG g (tpG g b)) (by omega), s_stepped hg hF (by omega) q2 q4, cI_s, gi (by omega) (by omega), kl (by omega), nI_p1, k1]
theorem s_ls_34 (hg : g < 32) : ∀ (f b : Nat) (μ : Mm), b + f = nG g → 1 ≤ b → GF g μ → μ.1 61 2 = nI (nG g) → SU g b μ → ∃ μ', m_Gr_learnSums_34 (nI b) μ = some (none, μ') ∧ Fr (fun k => k = 64) μ μ' ∧ SU g (nG g) μ'
  | 0, b, μ, e, h1, hF, hN, hS => by
    obtain ⟨-, n1, n2, -, -⟩ := g_1 g hg
    obtain rfl : b = nG g := by omega
    refine ⟨μ, ?_, Fr.rf, hS⟩
    rw [e_Gr_learnSums_34, hN, bLf (by omega) (by omega)]
  | f + 1, b, μ, e, h1, hF, hN, hS => by
    obtain ⟨-, n1, n2, -, h5⟩ := g_1 g hg
    obtain ⟨⟨q1, q2⟩, q3⟩ := g_4 g hg b (by omega) h1
    obtain ⟨μ1, g1, g2, g3⟩ := s_ls_70 hg (show b < nG g by omega) h1 (nG g) 0 μ (by omega) hF hN hS (fun c hc => absurd hc (Nat.not_lt_zero c))
    obtain ⟨μ2, k1, k2, k3⟩ := s_ls_34 hg f (b + 1) μ1 (by omega) (by omega) (hF.fr g2 (fun k x y => by omega)) (by rw [(g2 61 (by omega)).1]; exact hN) g3
    refine ⟨μ2, ?_, g2.t2 k2, k3⟩
    rw [e_Gr_learnSums_34, hN, bLt (by omega) (by omega), bLt (by omega) (by omega), e_Gr_topFigure, s_topF hg hF (by omega) (npG g) 0 0 (by omega), cI_s, show tpF g b (npG g) 0 0 = tpG g b from rfl, gi (by omega) (by omega), kl (by omega), (hF.2 _ q2).2, nI_sub q1, s_max _ _ (by omega) (by omega), cI_s, show max 0 (b - unG g (tpG g b)) = b - unG g (tpG g b) by omega, g1, k1]
theorem s_ls_2 (hg : g < 32) : ∀ (f a : Nat) (μ : Mm), a + f = nG g → μ.1 61 2 = nI (nG g) → (∀ c, c < a → μ.1 64 (c * 32) = nI c) → ∃ μ', m_Gr_learnSums_2 (nI a) μ = m_Gr_learnSums_34 (nI 1) μ' ∧ Fr (fun k => k = 64) μ μ' ∧ ∀ c, c < nG g → μ'.1 64 (c * 32) = nI c
  | 0, a, μ, e, hN, hc => by
    obtain ⟨-, n1, n2, -, -⟩ := g_1 g hg
    obtain rfl : a = nG g := by omega
    refine ⟨μ, ?_, Fr.rf, hc⟩
    rw [e_Gr_learnSums_2, hN, bLf (by omega) (by omega)]
  | f + 1, a, μ, e, hN, hc => by
    obtain ⟨-, n1, n2, -, -⟩ := g_1 g hg
    obtain ⟨μ', k1, k2, k3⟩ := s_ls_2 hg f (a + 1) (sI μ 64 (a * 32) (nI a)) (by omega) (by rw [sI_o (by omega)]; exact hN) (fun c hc1 => by
      rw [sI_s]
      by_cases q : c = a
      · rw [q, up_s]
      · rw [up_o (by omega)]
        exact hc c (by omega))
    refine ⟨μ', ?_, (Fr.sI (S := fun k => k = 64) rfl).t2 k2, k3⟩
    rw [e_Gr_learnSums_2, hN, bLt (by omega) (by omega), bLt (by omega) (by omega), nI_mul, gi (by omega) (by omega), kl (by omega), nI_p1, k1]
theorem s_bec_54 (hg : g < 32) : ∀ (f a : Nat) (μ : Mm), a + f = nG g → GF g μ → μ.1 61 1 = nI (pG g) → μ.1 61 2 = nI (nG g) → (∀ c, c < a → μ.1 65 c = nI (raG g c)) → ∃ μ', m_Gr_become_54 (nI a) μ = some (none, sI μ' 61 8 (nI 0)) ∧ Fr (fun k => k = 65) μ μ' ∧ ∀ c, c < nG g → μ'.1 65 c = nI (raG g c)
  | 0, a, μ, e, hF, hp, hN, hc => by
    obtain ⟨-, n1, n2, -, -⟩ := g_1 g hg
    obtain rfl : a = nG g := by omega
    refine ⟨μ, ?_, Fr.rf, hc⟩
    rw [e_Gr_become_54, hN, bLf (by omega) (by omega), gd_h isb_0]
  | f + 1, a, μ, e, hF, hp, hN, hc => by
    obtain ⟨⟨-, hpp, -⟩, n1, n2, -, h5⟩ := g_1 g hg
    have hp8 : pG g < 8 := by omega
    have hra : asF g 0 a (nI (pG g)) (npG g) 0 (nI 0) = nI (raG g a) := asF_n hg (by omega) (npG g) 0 0 (by omega)
    obtain ⟨μ', k1, k2, k3⟩ := s_bec_54 hg f (a + 1) (sI μ 65 a (nI (raG g a))) (by omega) (hF.fr (Fr.sI (S := fun k => k = 65) rfl) (fun k x y => by omega)) (by rw [sI_o (by omega)]; exact hp) (by rw [sI_o (by omega)]; exact hN) (fun c hc1 => by
      rw [sI_s]
      by_cases q : c = a
      · rw [q, up_s]
      · rw [up_o (by omega)]
        exact hc c (by omega))
    refine ⟨μ', ?_, (Fr.sI (S := fun k => k = 65) rfl).t2 k2, k3⟩
    rw [e_Gr_become_54, hN, bLt (by omega) (by omega), bLt (by omega) (by omega), hp, s_multiplied hg hF (by omega), cI_s, hra, gi (by omega) (by omega), kl (by omega), nI_p1, k1]
abbrev fGr (k : Nat) : Prop := 61 ≤ k ∧ k < 66
theorem s_bec (hg : g < 32) (μ : Mm) : ∃ μ', (cI (m_Gr_elementsOf (nI (tG g)) (nI (pG g)) (sI (sI μ 61 0 (nI (tG g))) 61 1 (nI (pG g)))) fun v2 μ1 => cI (m_Ty_parts (nI (tG g)) (sI μ1 61 2 v2)) fun v4 μ3 => cV (m_Gr_learnFigures (sI μ3 61 3 v4)) fun μ5 => cV (m_Gr_learnSums μ5) fun μ6 => m_Gr_become_54 (nI 0) μ6) = some (none, μ') ∧ Fr fGr μ μ' ∧ GC g μ' ∧ μ'.1 61 8 = nI 0 := by
  obtain ⟨⟨ht, -, hpw⟩, n1, n2, hnp, h5⟩ := g_1 g hg
  have F0 : Fr fGr μ (sI (sI (sI (sI μ 61 0 (nI (tG g))) 61 1 (nI (pG g))) 61 2 (nI (nG g))) 61 3 (nI (npG g))) := (((Fr.sI (S := fGr) (by omega)).t2 (Fr.sI (by omega))).t2 (Fr.sI (by omega))).t2 (Fr.sI (by omega))
  have e0 : (sI (sI (sI (sI μ 61 0 (nI (tG g))) 61 1 (nI (pG g))) 61 2 (nI (nG g))) 61 3 (nI (npG g))).1 61 0 = nI (tG g) := by
    rw [sI_s, up_o (by omega), sI_s, up_o (by omega), sI_s, up_o (by omega), sI_s, up_s]
  have e1 : (sI (sI (sI (sI μ 61 0 (nI (tG g))) 61 1 (nI (pG g))) 61 2 (nI (nG g))) 61 3 (nI (npG g))).1 61 1 = nI (pG g) := by
    rw [sI_s, up_o (by omega), sI_s, up_o (by omega), sI_s, up_s]
  have e2 : (sI (sI (sI (sI μ 61 0 (nI (tG g))) 61 1 (nI (pG g))) 61 2 (nI (nG g))) 61 3 (nI (npG g))).1 61 2 = nI (nG g) := by
    rw [sI_s, up_o (by omega), sI_s, up_s]
  have e3 : (sI (sI (sI (sI μ 61 0 (nI (tG g))) 61 1 (nI (pG g))) 61 2 (nI (nG g))) 61 3 (nI (npG g))).1 61 3 = nI (npG g) := by
    rw [sI_s, up_s]
  obtain ⟨μ1, g1, g2, g3⟩ := s_lf_4 hg (npG g) 0 _ (by omega) e0 e1 e3 (fun j hj => absurd hj (Nat.not_lt_zero j))
  rw [g_3 g hg] at g1
  have c1 := (g2 61 (by omega)).1
  have hF1 : GF g μ1 := ⟨by rw [c1]; exact e3, g3⟩
  obtain ⟨μ2, k1, k2, k3⟩ := s_ls_2 hg (nG g) 0 μ1 (by omega) (by rw [c1]; exact e2) (fun c hc => absurd hc (Nat.not_lt_zero c))
  have c2 := (k2 61 (by omega)).1
  have hF2 := hF1.fr k2 (fun k x y => by omega)
  obtain ⟨μ3, l1, l2, l3⟩ := s_ls_34 hg (nG g - 1) 1 μ2 (by omega) (by omega) hF2 (by rw [c2, c1]; exact e2) (fun a ha c hc => by
    obtain rfl : c = 0 := by omega
    rw [Nat.add_zero, k3 a ha, (g_5 g hg a ha).1])
  have c3 := (l2 61 (by omega)).1
  have hF3 := hF2.fr l2 (fun k x y => by omega)
  obtain ⟨μ4, o1, o2, o3⟩ := s_bec_54 hg (nG g) 0 μ3 (by omega) hF3 (by rw [c3, c2, c1]; exact e1) (by rw [c3, c2, c1]; exact e2) (fun c hc => absurd hc (Nat.not_lt_zero c))
  have c4 := (o2 61 (by omega)).1
  have hF4 := hF3.fr o2 (fun k x y => by omega)
  refine ⟨sI μ4 61 8 (nI 0), ?_, ?_, ⟨⟨?_, ?_, ?_, ?_⟩, fun i hi => ?_, fun a ha b hb => ?_, fun a ha => ?_⟩, ?_⟩
  · rw [s_elementsOf ht, cI_s, s_Ty_parts ht, cI_s, ← hpw, ← hnp, e_Gr_learnFigures, g1, cV_s, e_Gr_learnSums, k1, l1, cV_s, o1]
  · exact ((((F0.t2 (g2.w (fun k hk => by omega))).t2 (k2.w (fun k hk => by omega))).t2 (l2.w (fun k hk => by omega))).t2 (o2.w (fun k hk => by omega))).t2 (Fr.sI (by omega))
  · rw [sI_s, up_o (by omega), c4, c3, c2, c1]; exact e0
  · rw [sI_s, up_o (by omega), c4, c3, c2, c1]; exact e1
  · rw [sI_s, up_o (by omega), c4, c3, c2, c1]; exact e2
  · rw [sI_s, up_o (by omega), c4, c3, c2, c1]; exact e3
  · rw [sI_o (by omega), sI_o (by omega)]; exact hF4.2 i hi
  · rw [sI_o (by omega), (o2 64 (by omega)).1]; exact l3 a ha b hb
  · rw [sI_o (by omega)]; exact o3 a ha
  · rw [sI_s, up_s]
theorem s_become {h : Nat} (hg : g < 32) (hh : h < 32) {μ : Mm} (hC : GC h μ) : ∃ μ', m_Gr_become (nI (tG g)) (nI (pG g)) μ = some (none, μ') ∧ Fr fGr μ μ' ∧ GC g μ' ∧ (μ'.1 61 8 = nI 0 ∨ h = g ∧ μ' = μ) := by
  obtain ⟨⟨ht, hp, -⟩, -⟩ := g_1 g hg
  obtain ⟨⟨ht2, hp2, -⟩, -⟩ := g_1 h hh
  rw [e_Gr_become, hC.1.1, hC.1.2.1, d_eq (by omega) (by omega), d_eq (by omega) (by omega)]
  by_cases q : tG g = tG h
  · rw [bt (decide_eq_true q)]
    by_cases q2 : pG g = pG h
    · rw [bt (decide_eq_true q2)]
      have := g_inj g hg h hh q q2
      subst this
      exact ⟨μ, rfl, Fr.rf, hC, Or.inr ⟨rfl, rfl⟩⟩
    · rw [bf (decide_eq_false q2)]
      obtain ⟨μ', g1, g2, g3, g4⟩ := s_bec hg μ
      exact ⟨μ', g1, g2, g3, Or.inl g4⟩
  · rw [bf (decide_eq_false q)]
    obtain ⟨μ', g1, g2, g3, g4⟩ := s_bec hg μ
    exact ⟨μ', g1, g2, g3, Or.inl g4⟩
end BEC
