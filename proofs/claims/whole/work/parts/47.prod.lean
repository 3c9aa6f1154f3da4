/-! sums: products of both sides -/
/-! the class's -/
theorem pmul_scale (x : Int64) (y h : Nat → Int64) (k : Nat) : pmul (fun j => x * y j) h k = x * pmul y h k := by
  rw [pmul_sm, pmul_sm, sm_mul]
  exact sm_congr _ (fun j _ => Int64.mul_assoc _ _ _)
theorem pvX_c (f g : Vt) (m n l j : Nat) : pmul (g n) (pmul (f m) (rp (hL m n l))) j = pvX f g m n l j := by
  unfold pvX
  rw [← pmul_assoc, pmul_comm]
  exact pmul_congr (fun _ _ => rfl) (fun i _ => pmul_comm _ _ i)
theorem pvX_c2 (f g : Vt) (m n l j : Nat) : pmul (f m) (pmul (g n) (rp (hL m n l))) j = pvX f g m n l j := by
  unfold pvX
  rw [pmul_comm (rp (hL m n l)), pmul_assoc]
theorem pvX_0 (f g : Vt) {m n l : Nat} (h : ¬ sizN m + sizN n = sizN l) (j : Nat) : pvX f g m n l j = lN 0 := by
  unfold pvX hL
  rw [if_neg h]
  exact (pmul_congr (fun i _ => rp_nil i) (fun _ _ => rfl)).trans (pmul_0l _ j)
theorem k243 : shK 243 = 1 ∧ shN 243 = 31 := by decide
theorem mx201 : Mx 201 = true := mx_all 201 (by decide)
theorem mx222 : Mx 222 = true := mx_all 222 (by decide)
def prC (d : Nat) : Nat := 136 + 21 * d
def tC (d : Nat) : Nat := 72 + 21 * d
theorem pt_ok : ∀ d, d < 3 → (Mx (prC d) = true ∧ Mx (tC d) = true) ∧ sub 71 d = tC d ∧ sub 135 d = prC d := by decide +kernel
abbrev fTk1 (k : Nat) : Prop := k = 59 ∨ k = 60 ∨ k = 243 ∨ mS 222 k
section PRC
variable {pc : Nat} {f g : Vt}
theorem s_ap_14 (hpx : Mx pc = true) (hp : 136 ≤ pc ∧ pc + 21 ≤ 201) {m n : Nat} (hm : m < 19) (hn : n < 19) {a : Vt} : ∀ (k l : Nat) (μ : Mm), l + k = 19 → CT μ → MX pc f μ → MX 201 g μ → MX 222 (fun u j => if u < l then a u j + pvX f g m n u j else a u j) μ → ∃ μ', m_Su_addProduct_14 pc (nI m) (nI n) (nI (sizN m + sizN n)) (nI l) μ = some (none, μ') ∧ Fr fTk1 μ μ' ∧ MX 222 (fun u j => a u j + pvX f g m n u j) μ'
  | 0, l, μ, e, hC, hf, hg, ha => by
    obtain rfl : l = 19 := by omega
    refine ⟨μ, ?_, Fr.rf, ha.ext (fun t ht j hj => if_pos ht)⟩
    rw [e_Su_addProduct_14, bLf (by omega) (by omega)]
  | k + 1, l, μ, e, hC, hf, hg, ha => by
    have hl : l < 19 := by omega
    have z1 := sz_lt hm
    have z2 := sz_lt hn
    have z3 := sz_lt hl
    by_cases q : sizN m + sizN n = sizN l
    · obtain ⟨μ1, a1, a2, a3⟩ := s_writeHall (k := 243) k243.1 k243.2 (by omega) hl hm hn hC
      obtain ⟨r1, r2, r3⟩ := mx6 hpx hm
      obtain ⟨s1, s2, s3⟩ := mx6 mx201 hn
      obtain ⟨t1, t2, t3⟩ := mx6 mx222 hl
      obtain ⟨g1, b1, b2⟩ := s_multiply (a := 243) (b := pc + 2 + m) (n := 31) (m := 31) (by omega) k243.1 k243.2 r2 r3 (by omega) (by omega) (by omega) (by omega) μ1
      obtain ⟨g2, c1, c2⟩ := s_multiply (a := 243) (b := 201 + 2 + n) (n := 31) (m := 31) (by omega) k243.1 k243.2 s2 s3 (by omega) (by omega) (by omega) (by omega) (wL μ1 243 g1)
      obtain ⟨g3, d1, d2⟩ := s_add (a := 222 + 2 + l) (b := 243) (n := 31) (t := lN 1) (by omega) t2 t3 k243.1 k243.2 (by omega) (wL (wL μ1 243 g1) 243 g2)
      have hf1 := hf.fr a2 (fun c x y => by omega)
      have hg1 := hg.fr a2 (fun c x y => by omega)
      have v1 : ∀ j, j < 31 → g1 j = pmul (f m) (rp (hL m n l)) j := fun j hj => by
        rw [b2 j hj]
        exact pmul_congr (fun i hi => by
          unfold cut
          rw [if_pos (by omega)]
          exact hf1 m hm i (by omega)) (fun i hi => a3 i (by omega))
      have v2 : ∀ j, j < 31 → g2 j = pvX f g m n l j := fun j hj => by
        rw [c2 j hj, ← pvX_c]
        refine pmul_congr (fun i hi => ?_) (fun i hi => ?_)
        · unfold cut
          rw [if_pos (by omega), wL_o (by omega)]
          exact hg1 n hn i (by omega)
        · rw [wL_s]
          exact v1 i (by omega)
      have F3 : Fr fTk1 μ (wL (wL (wL μ1 243 g1) 243 g2) (222 + 2 + l) g3) := (((a2.w (fun c hc => by omega)).t2 (Fr.wL (Or.inr (Or.inr (Or.inl rfl))))).t2 (Fr.wL (Or.inr (Or.inr (Or.inl rfl))))).t2 (Fr.wL (Or.inr (Or.inr (Or.inr (by show 222 + 2 ≤ 222 + 2 + l ∧ 222 + 2 + l < 222 + 21; omega)))))
      obtain ⟨μ', e1, e2, e3⟩ := s_ap_14 hpx hp hm hn (a := a) k (l + 1) (wL (wL (wL μ1 243 g1) 243 g2) (222 + 2 + l) g3) (by omega) (hC.fr F3 (fun c x y => by omega) (by omega)) (hf.fr F3 (fun c x y => by omega)) (hg.fr F3 (fun c x y => by omega)) (fun t ht j hj => by
        by_cases z : t = l
        · subst z
          have h0 : μ.2 (222 + 2 + t) j = a t j := (ha t ht j hj).trans (if_neg (Nat.lt_irrefl t))
          show _ = if t < t + 1 then a t j + pvX f g m n t j else a t j
          rw [wL_s, d2 j hj, wL_o (by omega), wL_o (by omega), wL_s, v2 j hj, (a2 (222 + 2 + t) (by omega)).2, h0, if_pos (Nat.lt_succ_self t), show (lN 1 : Int64) = 1 from rfl, Int64.mul_one]
        · show _ = if t < l + 1 then a t j + pvX f g m n t j else a t j
          rw [wL_o (by omega), wL_o (by omega), wL_o (by omega), (a2 (222 + 2 + t) (by omega)).2, show μ.2 (222 + 2 + t) j = if t < l then a t j + pvX f g m n t j else a t j from ha t ht j hj]
          by_cases y : t < l
          · rw [if_pos y, if_pos (by omega)]
          · rw [if_neg y, if_neg (by omega)])
      refine ⟨μ', ?_, F3.t2 e2, e3⟩
      rw [e_Su_addProduct_14, bLt hl (by omega), s_Ty_size hl, cI_s, bEt q.symm, a1, cV_s, gd_h (mxT hpx), s_Mi_rowOf hpx hm, cA_s, b1, cV_s, s_Mi_rowOf mx201 hn, cA_s, c1, cV_s, s_Mi_rowOf mx222 hl, cA_s, d1, cV_s, nI_p1, e1]
    · obtain ⟨μ', e1, e2, e3⟩ := s_ap_14 hpx hp hm hn (a := a) k (l + 1) μ (by omega) hC hf hg (ha.ext (fun t ht j hj => by
        by_cases z : t = l
        · subst z
          rw [if_neg (Nat.lt_irrefl t), if_pos (Nat.lt_succ_self t), pvX_0 f g q, l_a0]
        · by_cases y : t < l
          · rw [if_pos y, if_pos (by omega)]
          · rw [if_neg y, if_neg (by omega)]))
      refine ⟨μ', ?_, e2, e3⟩
      rw [e_Su_addProduct_14, bLt hl (by omega), s_Ty_size hl, cI_s, bEf (fun z => q z.symm) (by omega) (by omega), nI_p1, e1]
theorem s_addProduct (hpx : Mx pc = true) (hp : 136 ≤ pc ∧ pc + 21 ≤ 201) {m n : Nat} (hm : m < 19) (hn : n < 19) {a : Vt} {μ : Mm} (hC : CT μ) (hf : MX pc f μ) (hg : MX 201 g μ) (ha : MX 222 a μ) : ∃ μ', m_Su_addProduct pc (nI m) (nI n) μ = some (none, μ') ∧ Fr fTk1 μ μ' ∧ MX 222 (fun u j => a u j + pvX f g m n u j) μ' := by
  obtain ⟨μ', e1, e2, e3⟩ := s_ap_14 hpx hp hm hn (a := a) 19 0 μ rfl hC hf hg (ha.ext (fun t ht j hj => (if_neg (Nat.not_lt_zero t)).symm))
  exact ⟨μ', by rw [e_Su_addProduct, s_Ty_size hm, cI_s, s_Ty_size hn, cI_s, nI_add, e1], e2, e3⟩
theorem CT.k1 {μ μ' : Mm} (h : CT μ) (F : Fr fTk1 μ μ') : CT μ' := h.fr F (fun c x y => by omega) (by omega)
theorem s_tk_45 (hpx : Mx pc = true) (hp : 136 ≤ pc ∧ pc + 21 ≤ 201) {m : Nat} (hm : m < 19) (hfm : hasB (f m) = true) : ∀ (k n : Nat) (a b : Vt) (μ : Mm), n + k = 19 → CT μ → MX pc f μ → MX 201 g μ → MX 222 a μ → pvN f g m k n a = some b → ∃ μ', m_Su_takeOne_45 pc (nI m) (nI n) μ = m_Su_takeOne_35 pc (nI (m + 1)) μ' ∧ Fr fTk1 μ μ' ∧ MX 222 b μ'
  | 0, n, a, b, μ, e, hC, hf, hg, ha, h => by
    obtain rfl : n = 19 := by omega
    cases h
    refine ⟨μ, ?_, Fr.rf, ha⟩
    rw [e_Su_takeOne_45, gd_h (mxT hpx), s_Mi_hasTerm hpx hm, cI_s, b2i_n, hasB_congr (hf m hm), hfm, Bool.not_true, cond_false, bLf (by omega) (by omega), nI_p1]
  | k + 1, n, a, b, μ, e, hC, hf, hg, ha, h => by
    have hn : n < 19 := by omega
    unfold pvN at h
    have pre : m_Su_takeOne_45 pc (nI m) (nI n) μ = bif !hasB (g n) then m_Su_takeOne_45 pc (nI m) (nI (n + 1)) μ else cV (m_Su_addProduct pc (nI m) (nI n) μ) fun μ5 => m_Su_takeOne_45 pc (nI m) (nI (n + 1)) μ5 := by
      rw [e_Su_takeOne_45, gd_h (mxT hpx), s_Mi_hasTerm hpx hm, cI_s, b2i_n, hasB_congr (hf m hm), hfm, Bool.not_true, cond_false, bLt hn (by omega), s_Mi_hasTerm mx201 hn, cI_s, b2i_n, hasB_congr (hg n hn), nI_p1]
    rw [pre]
    by_cases q : hasB (g n) = true
    · rw [if_pos q] at h
      by_cases q2 : 5 < sizN m + sizN n
      · rw [if_pos q2] at h
        cases h
      · rw [if_neg q2] at h
        obtain ⟨μ1, a1, a2, a3⟩ := s_addProduct hpx hp hm hn hC hf hg ha
        obtain ⟨μ2, b1, b2, b3⟩ := s_tk_45 hpx hp hm hfm k (n + 1) _ b μ1 (by omega) (hC.k1 a2) (hf.fr a2 (fun c x y => by omega)) (hg.fr a2 (fun c x y => by omega)) a3 h
        refine ⟨μ2, ?_, a2.t2 b2, b3⟩
        rw [q, Bool.not_true, cond_false, a1, cV_s, b1]
    · rw [if_neg q] at h
      obtain ⟨μ2, b1, b2, b3⟩ := s_tk_45 hpx hp hm hfm k (n + 1) a b μ (by omega) hC hf hg ha h
      refine ⟨μ2, ?_, b2, b3⟩
      rw [Bool.not_eq_true] at q
      rw [q, Bool.not_false, cond_true, b1]
abbrev fTk2 (pc k : Nat) : Prop := fTk1 k ∨ mS pc k
theorem s_tk_35 (hpx : Mx pc = true) (hp : 136 ≤ pc ∧ pc + 21 ≤ 201) : ∀ (k m : Nat) (a b : Vt) (μ : Mm), m + k = 19 → CT μ → MX pc f μ → MX 201 g μ → MX 222 a μ → pvM f g k m a = some b → ∃ μ', m_Su_takeOne_35 pc (nI m) μ = some (none, μ') ∧ Fr (fTk2 pc) μ μ' ∧ MX pc b μ'
  | 0, m, a, b, μ, e, hC, hf, hg, ha, h => by
    obtain rfl : m = 19 := by omega
    cases h
    obtain ⟨μ1, a1, a2, a3⟩ := s_Mi_copyFrom hpx mx222 (by omega) μ
    refine ⟨μ1, ?_, a2.w (fun c hc => Or.inr hc), a3.ext (fun t ht j hj => ha t ht j hj)⟩
    rw [e_Su_takeOne_35, bLf (by omega) (by omega), gd_h (mxT hpx), a1, cV_s]
  | k + 1, m, a, b, μ, e, hC, hf, hg, ha, h => by
    have hm : m < 19 := by omega
    unfold pvM at h
    by_cases q : hasB (f m) = true
    · rw [if_pos q] at h
      cases hN : pvN f g m 19 0 a with
      | none => rw [hN] at h; cases h
      | some b1 =>
        rw [hN] at h
        obtain ⟨μ1, a1, a2, a3⟩ := s_tk_45 hpx hp hm q 19 0 a b1 μ rfl hC hf hg ha hN
        obtain ⟨μ2, c1, c2, c3⟩ := s_tk_35 hpx hp k (m + 1) b1 b μ1 (by omega) (hC.k1 a2) (hf.fr a2 (fun c x y => by omega)) (hg.fr a2 (fun c x y => by omega)) a3 h
        refine ⟨μ2, ?_, (a2.w (fun c hc => Or.inl hc)).t2 c2, c3⟩
        rw [e_Su_takeOne_35, bLt hm (by omega), a1, c1]
    · rw [if_neg q] at h
      obtain ⟨μ2, c1, c2, c3⟩ := s_tk_35 hpx hp k (m + 1) a b μ (by omega) hC hf hg ha h
      refine ⟨μ2, ?_, c2, c3⟩
      rw [Bool.not_eq_true] at q
      rw [e_Su_takeOne_35, bLt hm (by omega), e_Su_takeOne_45, gd_h (mxT hpx), s_Mi_hasTerm hpx hm, cI_s, b2i_n, hasB_congr (hf m hm), q, Bool.not_false, cond_true, nI_p1, c1]
end PRC
/-! whether it is too great -/
theorem grt_s (f : Vt) : ∀ t, (grt f t = (-5 : Int32) ∧ ∀ u, u < t → hasB (f u) = false) ∨ ∃ u, u < t ∧ hasB (f u) = true ∧ grt f t = nI (sizN u) ∧ ∀ v, v < t → hasB (f v) = true → v ≤ u
  | 0 => Or.inl ⟨rfl, fun u h => absurd h (Nat.not_lt_zero u)⟩
  | t + 1 => by
    unfold grt
    by_cases q : hasB (f t) = true
    · rw [if_pos q]
      exact Or.inr ⟨t, Nat.lt_succ_self t, q, rfl, fun v hv _ => Nat.lt_succ_iff.mp hv⟩
    · rw [if_neg q]
      rw [Bool.not_eq_true] at q
      rcases grt_s f t with ⟨h1, h2⟩ | ⟨u, h1, h2, h3, h4⟩
      · refine Or.inl ⟨h1, fun u hu => ?_⟩
        by_cases e : u = t
        · rw [e]; exact q
        · exact h2 u (by omega)
      · refine Or.inr ⟨u, by omega, h2, h3, fun v hv hb => ?_⟩
        by_cases e : v = t
        · rw [e, q] at hb
          cases hb
        · exact h4 v (by omega) hb
theorem sz_mono : ∀ u, u < 19 → ∀ v, v ≤ u → sizN v ≤ sizN u := by
  have K : ∀ u, u < 19 → ∀ v, v < 19 → (v ≤ u → sizN v ≤ sizN u) := by decide +kernel
  exact fun u hu v hv => K u hu v (by omega) hv
theorem pvN_none {f g : Vt} {m : Nat} : ∀ (k n : Nat) (a : Vt), pvN f g m k n a = none ↔ ∃ v, n ≤ v ∧ v < n + k ∧ hasB (g v) = true ∧ 5 < sizN m + sizN v
  | 0, n, a => by
    constructor
    · intro h
      cases h
    · rintro ⟨v, h1, h2, -⟩
      omega
  | k + 1, n, a => by
    unfold pvN
    by_cases q : hasB (g n) = true
    · rw [if_pos q]
      by_cases q2 : 5 < sizN m + sizN n
      · rw [if_pos q2]
        exact ⟨fun _ => ⟨n, Nat.le_refl n, by omega, q, q2⟩, fun _ => rfl⟩
      · rw [if_neg q2, pvN_none k (n + 1)]
        constructor
        · rintro ⟨v, h1, h2, h3, h4⟩
          exact ⟨v, by omega, by omega, h3, h4⟩
        · rintro ⟨v, h1, h2, h3, h4⟩
          by_cases e : v = n
          · rw [e] at h4
            exact absurd h4 q2
          · exact ⟨v, by omega, by omega, h3, h4⟩
    · rw [if_neg q, pvN_none k (n + 1)]
      constructor
      · rintro ⟨v, h1, h2, h3, h4⟩
        exact ⟨v, by omega, by omega, h3, h4⟩
      · rintro ⟨v, h1, h2, h3, h4⟩
        by_cases e : v = n
        · rw [e] at h3
          exact absurd h3 q
        · exact ⟨v, by omega, by omega, h3, h4⟩
theorem pvM_none {f g : Vt} : ∀ (k m : Nat) (a : Vt), pvM f g k m a = none ↔ ∃ u, m ≤ u ∧ u < m + k ∧ hasB (f u) = true ∧ ∃ v, v < 19 ∧ hasB (g v) = true ∧ 5 < sizN u + sizN v
  | 0, m, a => by
    constructor
    · intro h
      cases h
    · rintro ⟨v, h1, h2, -⟩
      omega
  | k + 1, m, a => by
    unfold pvM
    by_cases q : hasB (f m) = true
    · rw [if_pos q]
      cases hN : pvN f g m 19 0 a with
      | none =>
        obtain ⟨v, h1, h2, h3, h4⟩ := (pvN_none 19 0 a).mp hN
        exact ⟨fun _ => ⟨m, Nat.le_refl m, by omega, q, v, by omega, h3, h4⟩, fun _ => rfl⟩
      | some b =>
        show pvM f g k (m + 1) b = none ↔ _
        rw [pvM_none k (m + 1)]
        constructor
        · rintro ⟨u, h1, h2, h3⟩
          exact ⟨u, by omega, by omega, h3⟩
        · rintro ⟨u, h1, h2, h3, v, h4, h5, h6⟩
          by_cases e : u = m
          · rw [e] at h6
            have := (pvN_none (f := f) (g := g) (m := m) 19 0 a).mpr ⟨v, by omega, by omega, h5, h6⟩
            rw [this] at hN
            cases hN
          · exact ⟨u, by omega, by omega, h3, v, h4, h5, h6⟩
    · rw [if_neg q, pvM_none k (m + 1)]
      constructor
      · rintro ⟨u, h1, h2, h3⟩
        exact ⟨u, by omega, by omega, h3⟩
      · rintro ⟨u, h1, h2, h3, h4⟩
        by_cases e : u = m
        · rw [e] at h3
          exact absurd h3 q
        · exact ⟨u, by omega, by omega, h3, h4⟩
theorem grt_b (f g : Vt) : decide (nI 5 < grt f 19 + grt g 19) = (PVo f g).isNone := by
  have hN := pvM_none (f := f) (g := g) 19 0 (fun _ _ => lN 0)
  have key : ∀ b : Bool, (b = true ↔ PVo f g = none) → b = (PVo f g).isNone := fun b hb => by
    cases h : PVo f g with
    | none => rw [h] at hb; exact hb.mpr rfl
    | some x =>
      rw [h] at hb
      cases b
      · rfl
      · cases hb.mp rfl
  apply key
  rw [decide_eq_true_iff]
  unfold PVo
  rw [hN]
  have five : ∀ n, n < 6 → ¬ nI 5 < (-5 : Int32) + nI n ∧ ¬ nI 5 < nI n + (-5 : Int32) := by decide
  rcases grt_s f 19 with ⟨h1, h2⟩ | ⟨u, h1, h2, h3, h4⟩
  · have no : ¬ ∃ u, 0 ≤ u ∧ u < 0 + 19 ∧ hasB (f u) = true ∧ ∃ v, v < 19 ∧ hasB (g v) = true ∧ 5 < sizN u + sizN v := by
      rintro ⟨u, -, a, b, -⟩
      rw [h2 u (by omega)] at b
      cases b
    rw [h1]
    rcases grt_s g 19 with ⟨g1, -⟩ | ⟨v, g1, -, g3, -⟩
    · rw [g1]
      exact ⟨fun z => absurd z (by decide), fun z => absurd z no⟩
    · rw [g3]
      exact ⟨fun z => absurd z (five _ (sz_lt g1)).1, fun z => absurd z no⟩
  · rw [h3]
    rcases grt_s g 19 with ⟨g1, g2⟩ | ⟨v, g1, g2, g3, g4⟩
    · rw [g1]
      refine ⟨fun z => absurd z (five _ (sz_lt h1)).2, ?_⟩
      rintro ⟨u', -, a, b, v, c, d, -⟩
      rw [g2 v c] at d
      cases d
    · have z1 := sz_lt h1
      have z2 := sz_lt g1
      rw [g3, nI_add, nI_ltI (by omega) (by omega)]
      constructor
      · intro z
        exact ⟨u, by omega, by omega, h2, v, g1, g2, z⟩
      · rintro ⟨u', -, a, b, v', c, d, e⟩
        have s1 := sz_mono u h1 u' (h4 u' (by omega) b)
        have s2 := sz_mono v g1 v' (g4 v' c d)
        omega
section TAK
variable {f g : Vt} {μ : Mm} {d : Nat}
theorem s_tooGreat (hd : d < 3) (hf : MX (prC d) f μ) (hg : MX 201 g μ) {s : Nat} (hs : s < 1000) (h : μ.1 200 d = nI s) : m_Su_isTooGreat (nI d) μ = some (some (.int (nI (b2i (PVo f g).isNone))), μ) := by
  obtain ⟨⟨p1, p2⟩, p3, p4⟩ := pt_ok d hd
  rw [e_Su_isTooGreat, gi hd (by omega), kl (by omega), h, bf (nI_lt0 (by omega)), gi hd (by omega), p4, gd_h (mxT p1), s_Mi_greatest p1 hf, cI_s, s_Mi_greatest mx201 hg, cI_s, grt_b]
  cases (PVo f g).isNone
  · exact gd_h isb_0
  · exact gd_h isb_1
theorem s_tooGreat0 (hd : d < 3) (h : μ.1 200 d = (-1 : Int32)) : m_Su_isTooGreat (nI d) μ = some (some (.int (nI 0)), μ) := by
  rw [e_Su_isTooGreat, gi hd (by omega), kl (by omega), h, bt d_neg]
  exact gd_h isb_0
theorem prC_b (hd : d < 3) : 136 ≤ prC d ∧ prC d + 21 ≤ 201 := by unfold prC; omega
theorem s_take (hd : d < 3) (hC : CT μ) (hf : MX (prC d) f μ) (hg : MX 201 g μ) {s : Nat} (hs : s < 1000) (h : μ.1 200 d = nI s) {b : Vt} (hb : PVo f g = some b) : ∃ μ', m_Su_takeOne (nI d) μ = some (none, μ') ∧ Fr (fTk2 (prC d)) μ μ' ∧ MX (prC d) b μ' := by
  obtain ⟨⟨p1, p2⟩, p3, p4⟩ := pt_ok d hd
  have hp := prC_b hd
  obtain ⟨μ1, a1, a2, a3⟩ := s_Mi_writeZero mx222 μ
  have a4 : Fr fTk1 μ μ1 := a2.w (fun c hc => Or.inr (Or.inr (Or.inr hc)))
  obtain ⟨μ2, b1, b2, b3⟩ := s_tk_35 p1 hp 19 0 _ b μ1 rfl (hC.k1 a4) (hf.fr a2 (fun c x y => by omega)) (hg.fr a2 (fun c x y => by omega)) a3 hb
  refine ⟨μ2, ?_, (a4.w (fun c hc => Or.inl hc)).t2 b2, b3⟩
  rw [e_Su_takeOne, gi hd (by omega), gi hd (by omega), kl (by omega), h, bf (nI_lt0 (by omega)), p4, a1, cV_s, b1]
theorem s_take0 (hd : d < 3) (hg : MX 201 g μ) (h : μ.1 200 d = (-1 : Int32)) : ∃ μ', m_Su_takeOne (nI d) μ = some (none, μ') ∧ Fr (fTk2 (prC d)) μ μ' ∧ MX (prC d) g μ' := by
  obtain ⟨⟨p1, p2⟩, p3, p4⟩ := pt_ok d hd
  have hp := prC_b hd
  obtain ⟨μ1, a1, a2, a3⟩ := s_Mi_copyFrom p1 mx201 (by omega) μ
  refine ⟨μ1, ?_, a2.w (fun c hc => Or.inr hc), a3.ext (fun t ht j hj => hg t ht j hj)⟩
  rw [e_Su_takeOne, gi hd (by omega), gi hd (by omega), kl (by omega), h, bt d_neg, p4, gd_h (mxT p1), a1, cV_s]
end TAK
