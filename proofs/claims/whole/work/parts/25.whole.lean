/-! choices, subgroups, whole, value: both sides -/
/-- a part of a polynomial: its degree, or a coefficient -/
def prt (f : Nat → Int64) (x : Int32) : Int64 := if x = (-1 : Int32) then (degF f 31).toInt64 else f x.toNatClampNeg
theorem prt_congr {f g : Nat → Int64} {x : Int32} (hx : x = (-1 : Int32) ∨ ∃ k, k < 31 ∧ x = nI k) (h : ∀ j, j < 31 → f j = g j) : prt f x = prt g x := by
  unfold prt
  rcases hx with rfl | ⟨k, hk, rfl⟩
  · rw [if_pos rfl, if_pos rfl, degF_congr 31 h]
  · rw [if_neg (of_decide_eq_false (d_e1 (by omega))), if_neg (of_decide_eq_false (d_e1 (by omega))), kl (by omega), h k hk]
theorem degF_cut {f : Nat → Int64} {n : Nat} : ∀ m, n ≤ m → degF (cut n f) m = degF f n
  | 0, h => by
    obtain rfl : n = 0 := by omega
    rfl
  | m + 1, h => by
    by_cases q : n = m + 1
    · subst q
      exact degF_congr _ (fun j hj => if_pos hj)
    · show (if cut n f m = lN 0 then degF (cut n f) m else nI m) = _
      rw [show cut n f m = lN 0 from if_neg (by omega), if_pos rfl]
      exact degF_cut m (by omega)
theorem both_isPart (x : Int32) : ((x = (-1 : Int32) ∨ ∃ k, k < 31 ∧ x = nI k) ∧ ∀ μ, m_Po_isPart x μ = some (some (.int (nI 1)), μ) ∧ m_Mo_isPart x μ = some (some (.int (nI 1)), μ)) ∨ ∀ μ, m_Po_isPart x μ = some (some (.int (nI 0)), μ) ∧ m_Mo_isPart x μ = some (some (.int (nI 0)), μ) := by
  have m1 : ∀ μ, m_Mo_isPart x μ = some (some (.int (nI (b2i (!decide (x < (-1 : Int32)) && !decide (nI 30 < x))))), μ) := fun μ => by
    rw [e_Mo_isPart, s_Mo_in, cI_s, l_m1, l_gt _ _ (by omega)]
    cases decide (x < (-1 : Int32))
    · cases decide (nI 30 < x)
      · exact gd_h isb_1
      · exact gd_h isb_0
    · exact gd_h isb_0
  rcases i_cases x with hx | ⟨k, hk, rfl⟩
  · by_cases q : x = (-1 : Int32)
    · subst q
      exact Or.inl ⟨Or.inl rfl, fun μ => ⟨by rw [s_isPart]; rfl, by rw [m1]; rfl⟩⟩
    · have h1 : x < (-1 : Int32) := by
        rw [Int32.lt_iff_toInt_lt] at hx ⊢
        have a : (-1 : Int32).toInt = -1 := by decide
        have b : (nI 0).toInt = 0 := by decide
        have c : x.toInt ≠ -1 := fun z => q (Int32.toInt_inj.mp (by rw [z, a]))
        omega
      refine Or.inr (fun μ => ⟨?_, ?_⟩)
      · rw [s_isPart, decide_eq_true h1]; rfl
      · rw [m1, decide_eq_true h1]; rfl
  · by_cases q : k < 31
    · refine Or.inl ⟨Or.inr ⟨k, q, rfl⟩, fun μ => ⟨?_, ?_⟩⟩
      · rw [s_isPart, d_m1 hk, d_lt hk (by omega), decide_eq_true q]; rfl
      · rw [m1, d_m1 hk, d_lt (by omega) hk, decide_eq_false (by omega)]; rfl
    · refine Or.inr (fun μ => ⟨?_, ?_⟩)
      · rw [s_isPart, d_m1 hk, d_lt hk (by omega), decide_eq_false q]; rfl
      · rw [m1, d_m1 hk, d_lt (by omega) hk, decide_eq_true (by omega)]; rfl
theorem s_partOf {k n : Nat} (hk : shK k = 1) (hn : shN k = n) (hN : n ≤ 31) (h0 : 0 < n) {x : Int32} (hx : x = (-1 : Int32) ∨ ∃ j, j < 31 ∧ x = nI j) (μ : Mm) : m_Po_partOf k x μ = some (some (.long (prt (cut n (μ.2 k)) x)), μ) := by
  unfold prt
  rcases hx with rfl | ⟨j, hj, rfl⟩
  · rw [if_pos rfl, e_Po_partOf, bt (by decide), s_degree hk hn (by omega) h0, cI_s, degF_cut 31 hN]
  · rw [if_neg (of_decide_eq_false (d_e1 (by omega))), kl (by omega), s_partOf_n hk hn (by omega) (by omega)]
theorem s_Mo_part {c o : Nat} (hc : o + 31 ≤ lnL c) (h2 : lnL c < 2 ^ 31) {x : Int32} (hx : x = (-1 : Int32) ∨ ∃ j, j < 31 ∧ x = nI j) (μ : Mm) : m_Mo_part c (nI o) x μ = some (some (.long (prt (fun k => μ.2 c (o + k)) x)), μ) := by
  unfold prt
  rcases hx with rfl | ⟨j, hj, rfl⟩
  · rw [if_pos rfl, e_Mo_part, bt (by decide), s_Mo_degree hc h2, cI_s]
  · rw [if_neg (of_decide_eq_false (d_e1 (by omega))), kl (by omega), e_Mo_part, bf (d_e1 (by omega)), nI_add, gi (by omega) h2, kl (by omega)]
theorem s_part310 {A : List Int} {μ : Mm} (h : HL 310 A μ) {x : Int32} (hx : x = (-1 : Int32) ∨ ∃ j, j < 31 ∧ x = nI j) : m_Mo_part 310 (nI 0) x μ = some (some (.long (prt (rp A) x)), μ) := by
  rw [s_Mo_part (by rw [ln310]; omega) (by rw [ln310]; omega) hx]
  rw [prt_congr (g := rp A) hx (fun j hj => by rw [Nat.zero_add]; exact h j hj)]
theorem s_part31 {k : Nat} (h1 : shK k = 1) (h2 : shN k = 31) {A : List Int} {μ : Mm} (h : HL k A μ) {x : Int32} (hx : x = (-1 : Int32) ∨ ∃ j, j < 31 ∧ x = nI j) : m_Po_partOf k x μ = some (some (.long (prt (rp A) x)), μ) := by
  rw [s_partOf h1 h2 (by omega) (by omega) hx]
  rw [prt_congr (g := rp A) hx (fun j hj => by
    unfold cut
    rw [if_pos hj]
    exact h j hj)]
theorem val_congr {f g : Nat → Int64} {p : Int64} : ∀ n v, (∀ j, j < n → f j = g j) → val f p n v = val g p n v
  | 0, _, _ => rfl
  | n + 1, v, h => by
    show val f p n (v * p + f n) = val g p n (v * p + g n)
    rw [h n (by omega)]
    exact val_congr n _ (fun j hj => h j (by omega))
theorem s_valueOfMade_6 (p : Int32) (μ : Mm) : ∀ (i : Nat) (v : Int64), i < 31 → m_Mo_valueOfMade_6 p v (nI i) μ = some (some (.long (val (μ.2 310) p.toInt64 (i + 1) v)), μ)
  | 0, v, h => by
    rw [e_Mo_valueOfMade_6, bf (nI_lt0 (by omega)), gi h (by omega), nI_z1, e_Mo_valueOfMade_6, bt d_neg, kl (by omega)]
    rfl
  | i + 1, v, h => by
    rw [e_Mo_valueOfMade_6, bf (nI_lt0 (by omega)), gi h (by omega), nI_m1, kl (by omega), s_valueOfMade_6 p μ i _ (by omega)]
    rfl
theorem s_valueOfMade {A : List Int} {μ : Mm} (h : HL 310 A μ) (p : Int32) : m_Mo_valueOfMade p μ = some (some (.long (val (rp A) p.toInt64 31 (lN 0))), μ) := by
  rw [e_Mo_valueOfMade, s_valueOfMade_6 p μ 30 _ (by omega), val_congr 31 _ h]
theorem s_value31 {k : Nat} (h1 : shK k = 1) (h2 : shN k = 31) {A : List Int} {μ : Mm} (h : HL k A μ) (p : Int32) : m_Po_valueAt k p μ = some (some (.long (val (rp A) p.toInt64 31 (lN 0))), μ) := by
  rw [s_valueAt h1 h2 (by omega) (by omega), val_congr 31 _ h]
/-- a call of polynomials: the same long on both sides, but for rows nothing changed -/
abbrev cP (k : Nat) : Prop := k = 59 ∨ k = 60 ∨ k = 274 ∨ k = 310 ∨ k = 311 ∨ k = 317 ∨ k = 318
abbrev cW (k : Nat) : Prop := k = 1 ∨ (40 ≤ k ∧ k < 61) ∨ k = 274 ∨ k = 310 ∨ k = 311 ∨ k = 317 ∨ k = 318
def Bl (S : Nat → Prop) (μ : Mm) (f g : Mm → Option Rs) : Prop := ∃ (r : Int64) (μ1 μ2 : Mm), f μ = some (some (.long r), μ1) ∧ g μ1 = some (some (.long r), μ2) ∧ Fr S μ μ2
theorem Bl.same {S : Nat → Prop} {μ : Mm} {r : Int64} {f g : Mm → Option Rs} (h1 : f μ = some (some (.long r), μ)) (h2 : g μ = some (some (.long r), μ)) : Bl S μ f g := ⟨r, μ, μ, h1, h2, Fr.rf⟩
theorem k274 : shK 274 = 1 := by decide
theorem n274 : shN 274 = 31 := by decide
theorem in5 (x : Int32) : (∃ n, n < 6 ∧ x = nI n ∧ decide (x < nI 0) = false ∧ decide (nI 5 < x) = false ∧ ∀ μ, m_Mo_in_JJJ x.toInt64 (lN 0) (lN 5) μ = some (some (.int (nI 1)), μ)) ∨ ((decide (x < nI 0) = true ∨ decide (x < nI 0) = false ∧ decide (nI 5 < x) = true) ∧ ∀ μ, m_Mo_in_JJJ x.toInt64 (lN 0) (lN 5) μ = some (some (.int (nI 0)), μ)) := by
  rcases i_cases x with hx | ⟨n, hn, rfl⟩
  · refine Or.inr ⟨Or.inl (decide_eq_true hx), fun μ => ?_⟩
    rw [s_Mo_in, l_lt _ _ (by omega), decide_eq_true hx]; rfl
  · by_cases q : n < 6
    · refine Or.inl ⟨n, q, rfl, nI_lt0 hn, by rw [d_lt (by omega) hn]; exact decide_eq_false (by omega), fun μ => ?_⟩
      rw [s_Mo_in, l_lt _ _ (by omega), nI_lt0 hn, l_gt _ _ (by omega), d_lt (by omega) hn, decide_eq_false (by omega)]; rfl
    · refine Or.inr ⟨Or.inr ⟨nI_lt0 hn, by rw [d_lt (by omega) hn]; exact decide_eq_true (by omega)⟩, fun μ => ?_⟩
      rw [s_Mo_in, l_lt _ _ (by omega), nI_lt0 hn, l_gt _ _ (by omega), d_lt (by omega) hn, decide_eq_true (by omega)]; rfl
theorem mul1P : ∀ i, i < 36 → eqP (mulP [1] (chM ((i / 6 : Nat) : Int) ((i % 6 : Nat) : Int))) (chL i) = true := by decide +kernel
/-- promise 5: choices -/
theorem both_choices {μ : Mm} (hC : CT μ) (x y z : Int32) : Bl cP μ (m_TI_choices x y z) (m_Mo_choices x y z) := by
  rcases in5 x with ⟨a, ha, rfl, x1, x2, x3⟩ | ⟨hx, x3⟩
  · rcases in5 y with ⟨b, hb, rfl, y1, y2, y3⟩ | ⟨hy, y3⟩
    · rcases both_isPart z with ⟨hz, z1⟩ | z1
      · have hi : 6 * a + b < 36 := by omega
        obtain ⟨r1, r2, r3⟩ := ch_row _ hi
        obtain ⟨μ1, g1, g2, g3⟩ := s_ones ln310 μ
        have hC1 := hC.fr g2 (fun c a b => by omega) (by omega)
        obtain ⟨μ2, k1, k2, k3⟩ := s_timesChoices hC1 g3 (a := (a : Int)) (b := (b : Int)) (by omega) (by omega) (by omega) (by omega) (by omega)
        have m1 := mul1P _ hi
        rw [show (6 * a + b) / 6 = a by omega, show (6 * a + b) % 6 = b by omega] at m1
        refine ⟨prt (rp (chL (6 * a + b))) z, μ, μ2, ?_, ?_, (g2.w (fun k hk => by omega)).t2 (k2.w (fun k hk => by omega))⟩
        · have e : chI (a : Int) (b : Int) = 6 * a + b := by
            unfold chI
            rw [if_pos (by omega)]
            omega
          rw [e_TI_choices, x1, x2, y1, y2]
          show cI (m_Po_isPart z μ) _ = _
          rw [(z1 μ).1, cI_s, bf (by decide), iI_n, iI_n, s_Co_chosen (by omega) (by omega) (by omega) (by omega), cA_s, e, s_partOf r2 r3 (by omega) (by omega) hz, cJ_s, prt_congr hz (hC _ hi).1]
        · rw [e_Mo_choices, x3, cI_s, bf (by decide), y3, cI_s, bf (by decide), (z1 μ).2, cI_s, bf (by decide), g1, cV_s, iI_n a, iI_n b, k1, cV_s, s_part310 (k3.eq m1) hz, cJ_s]
      · refine Bl.same (r := -9223372036854775808) ?_ ?_
        · rw [e_TI_choices, x1, x2, y1, y2]
          show cI (m_Po_isPart z μ) _ = _
          rw [(z1 μ).1, cI_s]
          exact bt (by decide)
        · rw [e_Mo_choices, x3, cI_s, bf (by decide), y3, cI_s, bf (by decide), (z1 μ).2, cI_s]
          exact bt (by decide)
    · refine Bl.same (r := -9223372036854775808) ?_ ?_
      · rw [e_TI_choices, x1, x2]
        rcases hy with h | ⟨h, h2⟩
        · rw [h]; rfl
        · rw [h, h2]; rfl
      · rw [e_Mo_choices, x3, cI_s, bf (by decide), y3, cI_s]
        exact bt (by decide)
  · refine Bl.same (r := -9223372036854775808) ?_ ?_
    · rw [e_TI_choices]
      rcases hx with h | ⟨h, h2⟩
      · rw [h]; rfl
      · rw [h, h2]; rfl
    · rw [e_Mo_choices, x3, cI_s]
      exact bt (by decide)
/-- promise 6: subgroups -/
theorem both_subgroups {μ : Mm} (hC : CT μ) (hT : MT μ) (x y z : Int32) : Bl cP μ (m_TI_subgroups x y z) (m_Mo_subgroups x y z) := by
  rcases both_find x with ⟨l, hl, hf⟩ | hf
  · rcases both_find y with ⟨m, hm, hg⟩ | hg
    · rcases both_isPart z with ⟨hz, z1⟩ | z1
      · obtain ⟨μ1, g1, g2, g3⟩ := s_writeSubgroups k274 n274 (by omega) hl hm hC
        have hC1 := hC.fr g2 (fun c a b => by omega) (by omega)
        have hT1 := hT.fr g2 (by omega) (by omega) (by omega)
        obtain ⟨μ2, k1, k2, k3⟩ := s_makesSubgroups hl hm hC1 hT1
        refine ⟨prt (rp (subC l m)) z, μ1, μ2, ?_, ?_, (g2.w (fun k hk => by omega)).t2 (k2.w (fun k hk => by omega))⟩
        · rw [e_TI_subgroups, (hf μ).1, cI_s, (hg μ).1, cI_s, bf (t_ge hl), bf (t_ge hm), (z1 μ).1, cI_s, bf (by decide), g1, cV_s, s_part31 k274 n274 g3 hz, cJ_s]
        · rw [e_Mo_subgroups, (hf μ1).2 hT1, cI_s, (hg μ1).2 hT1, cI_s, bf (d_e1 (by omega)), bf (d_e1 (by omega)), (z1 μ1).2, cI_s, bf (by decide), k1, cV_s, s_part310 k3 hz, cJ_s]
      · refine Bl.same (r := -9223372036854775808) ?_ ?_
        · rw [e_TI_subgroups, (hf μ).1, cI_s, (hg μ).1, cI_s, bf (t_ge hl), bf (t_ge hm), (z1 μ).1, cI_s]
          exact bt (by decide)
        · rw [e_Mo_subgroups, (hf μ).2 hT, cI_s, (hg μ).2 hT, cI_s, bf (d_e1 (by omega)), bf (d_e1 (by omega)), (z1 μ).2, cI_s]
          exact bt (by decide)
    · refine Bl.same (r := -9223372036854775808) ?_ ?_
      · rw [e_TI_subgroups, (hf μ).1, cI_s, (hg μ).1, cI_s, bf (t_ge hl)]
        exact bt d_neg
      · rw [e_Mo_subgroups, (hf μ).2 hT, cI_s, (hg μ).2 hT, cI_s, bf (d_e1 (by omega))]
        exact bt neg1
  · refine Bl.same (r := -9223372036854775808) ?_ ?_
    · rcases both_find y with ⟨m, hm, hg⟩ | hg
      · rw [e_TI_subgroups, (hf μ).1, cI_s, (hg μ).1, cI_s]
        exact bt d_neg
      · rw [e_TI_subgroups, (hf μ).1, cI_s, (hg μ).1, cI_s]
        exact bt d_neg
    · rcases both_find y with ⟨m, hm, hg⟩ | hg
      · rw [e_Mo_subgroups, (hf μ).2 hT, cI_s, (hg μ).2 hT, cI_s]
        exact bt neg1
      · rw [e_Mo_subgroups, (hf μ).2 hT, cI_s, (hg μ).2 hT, cI_s]
        exact bt neg1
/-- all subgroups -/
def sumF (l : Nat) : Nat → Nat → List Int → List Int
  | 0, _, A => A
  | f + 1, m, A => sumF l f (m + 1) (addP A (subC l m))
theorem i64_1 (x : Int64) : Int64.ofInt 1 * x = x := by
  rw [show Int64.ofInt 1 = 1 by decide, Int64.one_mul]
theorem c_add1 {k b : Nat} {μ : Mm} {A B : List Int} (h1 : shK k = 1) (h2 : shN k = 31) (hb1 : shK b = 1) (hb2 : shN b = 31) (hkb : k ≠ b) (h : HL k A μ) (hB : HL b B μ) : ∃ μ', m_Po_add k b (lN 1) μ = some (none, μ') ∧ Fr (fun c => c = k) μ μ' ∧ HL k (addP A B) μ' := by
  obtain ⟨μ', g1, g2, g3⟩ := c_add (x := lN 1) (z := 1) h1 h2 hb1 hb2 hkb (by decide) h hB
  refine ⟨μ', g1, g2, fun j hj => ?_⟩
  rw [g3 j hj, rp_add, rp_add, rp_sca, i64_1]
theorem s_allSub_6 {k l : Nat} (h1 : shK k = 1) (h2 : shN k = 31) (hk : 60 < k) (hl : l < 19) : ∀ (f m : Nat) (A : List Int) (μ : Mm), m + f = 19 → CT μ → HL k A μ → ∃ μ', m_Co_writeAllSubgroups_6 k (nI l) (nI m) μ = some (none, μ') ∧ Fr (fun c => c = k ∨ c = 59) μ μ' ∧ HL k (sumF l f m A) μ'
  | 0, m, A, μ, e, hC, h => by
    obtain rfl : m = 19 := by omega
    refine ⟨μ, ?_, Fr.rf, h⟩
    rw [e_Co_writeAllSubgroups_6, bLf (by omega) (by omega)]
  | f + 1, m, A, μ, e, hC, h => by
    obtain ⟨μ1, g1, g2, g3⟩ := s_writeSubgroups (k := 59) (by decide) (by decide) (by omega) hl (show m < 19 by omega) hC
    obtain ⟨μ2, g4, g5, g6⟩ := c_add1 (b := 59) h1 h2 (by decide) (by decide) (by omega) (h.fr g2 (by omega)) g3
    have F2 := (g2.w (T := fun c => c = k ∨ c = 59) (fun c hc => Or.inr hc)).t2 (g5.w (fun c hc => Or.inl hc))
    obtain ⟨μ3, k1, k2, k3⟩ := s_allSub_6 h1 h2 hk hl f (m + 1) _ μ2 (by omega) (hC.fr F2 (fun c a b => by omega) (fun q => q.elim (not312 h2) (by omega))) g6
    refine ⟨μ3, ?_, F2.t2 k2, k3⟩
    rw [e_Co_writeAllSubgroups_6, bLt (by omega) (by omega), g1, cV_s, g4, cV_s, nI_p1, k1]
theorem s_allSub {l : Nat} (hl : l < 19) {μ : Mm} (hC : CT μ) : ∃ μ', m_Co_writeAllSubgroups 274 (nI l) μ = some (none, μ') ∧ Fr cP μ μ' ∧ HL 274 (sumF l 19 0 []) μ' := by
  obtain ⟨μ1, g1, g2, g3⟩ := c_zero k274 n274 μ
  obtain ⟨μ2, k1, k2, k3⟩ := s_allSub_6 k274 n274 (by omega) hl 19 0 [] μ1 rfl (hC.fr g2 (fun c a b => by omega) (by omega)) g3
  refine ⟨μ2, ?_, (g2.w (fun c hc => by omega)).t2 (k2.w (fun c hc => by omega)), k3⟩
  rw [e_Co_writeAllSubgroups, g1, cV_s, k1]
theorem s_makesAll_23 {l : Nat} (hl : l < 19) : ∀ (f m : Nat) (A : List Int) (μ : Mm), m + f = 19 → CT μ → MT μ → HL 317 A μ → ∃ μ', m_Mo_makesAll_23 (nI l) (nI m) μ = some (none, μ') ∧ Fr (fun c => c = 310 ∨ c = 311 ∨ c = 317) μ μ' ∧ HL 310 (sumF l f m A) μ'
  | 0, m, A, μ, e, hC, hT, h => by
    obtain rfl : m = 19 := by omega
    have h3 := lp_L (L := fun i m => m_Mo_makesAll_72 (nI i) m) (K := kN) (μ := μ) 310 0 31 (fun i _ => μ.2 317 i) (fun i f hi _ => by
      show m_Mo_makesAll_72 (nI i) _ = m_Mo_makesAll_72 (nI (i + 1)) _
      rw [e_Mo_makesAll_72, bLt hi (by omega), gi hi (by omega), gi hi (by omega), nI_p1, kl (by omega), wL_u, wL_o (by omega), Nat.zero_add]) (fun f => by
      show m_Mo_makesAll_72 (nI 31) _ = _
      rw [e_Mo_makesAll_72, bLf (by omega) (by omega)])
    refine ⟨wL μ 310 (rowL 0 31 (fun i _ => μ.2 317 i) (μ.2 310)), ?_, Fr.wL (Or.inl rfl), fun j hj => ?_⟩
    · rw [e_Mo_makesAll_23, bLf (by omega) (by omega)]
      exact h3
    · rw [wL_s, rowL0 hj]
      exact h j hj
  | f + 1, m, A, μ, e, hC, hT, h => by
    obtain ⟨μ1, g1, g2, g3⟩ := s_makesSubgroups hl (show m < 19 by omega) hC hT
    have h3 := lp_L (L := fun i μ' => m_Mo_makesAll_37 (nI l) (nI m) (nI i) μ') (K := fun μ' => m_Mo_makesAll_23 (nI l) (nI (m + 1)) μ') (μ := μ1) 317 0 31 (fun i v => v + μ1.2 310 i) (fun i f hi hf => by
      show m_Mo_makesAll_37 _ _ (nI i) _ = m_Mo_makesAll_37 _ _ (nI (i + 1)) _
      rw [Nat.zero_add] at hf ⊢
      rw [e_Mo_makesAll_37, bLt hi (by omega), gi hi (by omega), gi hi (by omega), gi hi (by omega), nI_p1, kl (by omega), wL_u, wL_s, wL_o (by omega), ← hf]) (fun f => by
      show m_Mo_makesAll_37 _ _ (nI 31) _ = _
      rw [e_Mo_makesAll_37, bLf (by omega) (by omega), nI_p1])
    have F2 : Fr (fun c => c = 310 ∨ c = 311 ∨ c = 317) μ (wL μ1 317 (rowL 0 31 (fun i v => v + μ1.2 310 i) (μ1.2 317))) := (g2.w (fun c hc => by omega)).t2 (Fr.wL (by omega))
    have hA : HL 317 (addP A (subC l m)) (wL μ1 317 (rowL 0 31 (fun i v => v + μ1.2 310 i) (μ1.2 317))) := fun j hj => by
      rw [wL_s, rowL0 hj, rp_add]
      show μ1.2 317 j + μ1.2 310 j = _
      rw [g3 j hj, (g2 317 (by omega)).2, h j hj]
    obtain ⟨μ3, k1, k2, k3⟩ := s_makesAll_23 hl f (m + 1) _ _ (by omega) (hC.fr F2 (fun c a b => by omega) (by omega)) (hT.fr F2 (by omega) (by omega) (by omega)) hA
    refine ⟨μ3, ?_, F2.t2 k2, k3⟩
    rw [e_Mo_makesAll_23, bLt (by omega) (by omega), g1, cV_s, h3, k1]
theorem s_makesAll {l : Nat} (hl : l < 19) {μ : Mm} (hC : CT μ) (hT : MT μ) : ∃ μ', m_Mo_makesAll (nI l) μ = some (none, μ') ∧ Fr cP μ μ' ∧ HL 310 (sumF l 19 0 []) μ' := by
  have h1 := lp_L (L := fun i m => m_Mo_makesAll_2 (nI l) (nI i) m) (K := fun m => m_Mo_makesAll_23 (nI l) (nI 0) m) (μ := μ) 317 0 31 (fun _ _ => lN 0) (fun i f hi _ => by
    show m_Mo_makesAll_2 _ (nI i) _ = m_Mo_makesAll_2 _ (nI (i + 1)) _
    rw [e_Mo_makesAll_2, bLt hi (by omega), gi hi (by omega), nI_p1, kl (by omega), wL_u, Nat.zero_add]) (fun f => by
    show m_Mo_makesAll_2 _ (nI 31) _ = _
    rw [e_Mo_makesAll_2, bLf (by omega) (by omega)])
  have F1 : Fr (fun c => c = 317) μ (wL μ 317 (rowL 0 31 (fun _ _ => lN 0) (μ.2 317))) := Fr.wL rfl
  obtain ⟨μ2, k1, k2, k3⟩ := s_makesAll_23 hl 19 0 [] (wL μ 317 (rowL 0 31 (fun _ _ => lN 0) (μ.2 317))) rfl (hC.fr F1 (fun c a b => by omega) (by omega)) (hT.fr F1 (by omega) (by omega) (by omega)) (fun j hj => by rw [wL_s, rowL0 hj, rp_nil])
  exact ⟨μ2, (e_Mo_makesAll _ μ).trans (h1.trans k1), (F1.w (fun c hc => by omega)).t2 (k2.w (fun c hc => by omega)), k3⟩
