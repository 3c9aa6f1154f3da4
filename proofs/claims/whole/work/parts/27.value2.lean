/-! the reference's chains; whole, value -/
theorem lp_D {Lo : Nat → Mm → Option Rs} {Li : Nat → Nat → Mm → Option Rs} {K : Mm → Option Rs} {μ : Mm} (c o : Nat) (x B : Nat → Int64)
    (h1 : ∀ i f, i < 31 → (∀ j, j < o ∨ o + 31 ≤ j → f j = μ.2 c j) → Lo i (wL μ c f) = Li i 0 (wL μ c f))
    (h2 : ∀ i, i < 31 → (∀ j f, i + j < 31 → (∀ j, j < o ∨ o + 31 ≤ j → f j = μ.2 c j) → Li i j (wL μ c f) = Li i (j + 1) (wL μ c (vp_updL f (o + i + j) (f (o + i + j) + x i * B j)))) ∧ (∀ f, (∀ j, j < o ∨ o + 31 ≤ j → f j = μ.2 c j) → Li i (31 - i) (wL μ c f) = Lo (i + 1) (wL μ c f)) ∨ x i = lN 0 ∧ ∀ f, (∀ j, j < o ∨ o + 31 ≤ j → f j = μ.2 c j) → Li i 0 (wL μ c f) = Lo (i + 1) (wL μ c f))
    (h3 : ∀ f, (∀ j, j < o ∨ o + 31 ≤ j → f j = μ.2 c j) → Lo 31 (wL μ c f) = K (wL μ c f)) : Lo 0 μ = K (wL μ c (cvRow o x B (μ.2 c))) := by
  have key : ∀ i, i ≤ 31 → Lo 0 μ = Lo i (wL μ c (cvAcc o x B i (μ.2 c))) := by
    intro i
    induction i with
    | zero =>
      intro _
      show _ = Lo 0 (wL μ c (μ.2 c))
      rw [wL_e]
    | succ i ih =>
      intro hi
      have ho : ∀ j, j < o ∨ o + 31 ≤ j → cvAcc o x B i (μ.2 c) j = μ.2 c j := fun j hj => cvAcc_out hj i (by omega)
      rw [ih (by omega), h1 i _ (by omega) ho]
      rcases h2 i (by omega) with ⟨g1, g2⟩ | ⟨g1, g2⟩
      · have inn : ∀ j, j ≤ 31 - i → Li i 0 (wL μ c (cvAcc o x B i (μ.2 c))) = Li i j (wL μ c (rowL (o + i) j (fun j v => v + x i * B j) (cvAcc o x B i (μ.2 c)))) := by
          intro j
          induction j with
          | zero => intro _; rw [rowL_0]
          | succ j ihj =>
            intro hj
            rw [ihj (by omega), g1 j _ (by omega) (fun k hk => by rw [rowL_out (by omega), ho k hk]), rowL_out (by omega), rowL_s]
        rw [inn (31 - i) (Nat.le_refl _), g2 _ (fun k hk => by rw [rowL_out (by omega), ho k hk])]
        rfl
      · rw [g2 _ ho]
        congr 1
        congr 1
        funext j
        show _ = rowL (o + i) (31 - i) (fun j v => v + x i * B j) (cvAcc o x B i (μ.2 c)) j
        unfold rowL
        rw [g1]
        by_cases q : o + i ≤ j ∧ j < o + i + (31 - i)
        · rw [if_pos q]
          show _ = cvAcc o x B i (μ.2 c) j + lN 0 * B (j - (o + i))
          rw [l0_mul, l_a0]
        · rw [if_neg q]
  rw [key 31 (Nat.le_refl _), h3 _ (fun j hj => cvAcc_out hj 31 (Nat.le_refl _)), cvAcc_row]
/-- what the reference's row of chains holds while t is worked out -/
def KM (t : Nat) (A : List Int) (μ : Mm) : Prop := (∀ u, u < t → ∀ j, j < 31 → μ.2 318 (u * 31 + j) = rp (chn u) j) ∧ (∀ j, j < 31 → μ.2 318 (t * 31 + j) = rp A j) ∧ ∀ u, t < u → u < 19 → ∀ j, j < 31 → μ.2 318 (u * 31 + j) = lN 0
theorem KM.fr {t : Nat} {A : List Int} {S : Nat → Prop} {μ μ' : Mm} (h : KM t A μ) (g : Fr S μ μ') (h1 : ¬ S 318) : KM t A μ' := by
  unfold KM
  rw [(g 318 h1).2]
  exact h
theorem KM.eq {t : Nat} {A B : List Int} {μ : Mm} (h : KM t A μ) (e : eqP A B = true) : KM t B μ := ⟨h.1, fun j hj => (h.2.1 j hj).trans (rp_eq e hj), h.2.2⟩
abbrev fMc (k : Nat) : Prop := k = 310 ∨ k = 311 ∨ k = 318
theorem s_mch_38 {l t : Nat} (hl : l < 19) (ht : t < 19) (h0 : 1 ≤ t) : ∀ (f m : Nat) (A : List Int) (μ : Mm), m + f = t → CT μ → MT μ → KM t A μ → ∃ μ', m_Mo_makesChains_38 (nI l) (nI t) (nI m) μ = m_Mo_makesChains_31 (nI l) (nI (t + 1)) μ' ∧ Fr fMc μ μ' ∧ KM t (chnF t f m A) μ'
  | 0, m, A, μ, e, hC, hT, h => by
    obtain rfl : m = t := by omega
    refine ⟨μ, ?_, Fr.rf, h⟩
    rw [e_Mo_makesChains_38, bLf (by omega) (by omega), nI_p1]
  | f + 1, m, A, μ, e, hC, hT, h => by
    have hm : m < 19 := by omega
    have s1 := sz_lt ht
    have s2 := sz_lt hm
    have s3 : 1 ≤ sizN t := (show ∀ t, t < 19 → 1 ≤ t → 1 ≤ sizN t by decide +kernel) t ht h0
    by_cases q : sizN m + 1 = sizN t
    · obtain ⟨μ1, g1, g2, g3⟩ := s_makesSubgroups ht hm hC hT
      have h2 := lp_D (Lo := fun i μ' => m_Mo_makesChains_72 (nI l) (nI t) (nI m) (nI i) μ') (Li := fun i j μ' => m_Mo_makesChains_82 (nI l) (nI t) (nI m) (nI i) (nI j) μ') (K := fun μ' => m_Mo_makesChains_38 (nI l) (nI t) (nI (m + 1)) μ') (μ := μ1) 318 (t * 31) (μ1.2 310) (fun j => μ1.2 318 (m * 31 + j)) (fun i f hi _ => by
        show m_Mo_makesChains_72 _ _ _ (nI i) _ = _
        rw [e_Mo_makesChains_72, bLt hi (by omega)]) (fun i hi => Or.inl ⟨fun j f hij hf => by
        show m_Mo_makesChains_82 _ _ _ (nI i) (nI j) _ = m_Mo_makesChains_82 _ _ _ (nI i) (nI (j + 1)) _
        rw [e_Mo_makesChains_82, nI_add i j, bLt hij (by omega), nI_mul, nI_add (t * 31) i, nI_add (t * 31 + i) j, gi (by omega) (by omega), gi hi (by omega), nI_mul, nI_add (m * 31) j, gi (by omega) (by omega), gi (by omega) (by omega), kl (by omega), kl (by omega), kl (by omega), wL_u, wL_s, wL_o (by omega), nI_p1, hf (m * 31 + j) (by omega)], fun f _ => by
        show m_Mo_makesChains_82 _ _ _ (nI i) (nI (31 - i)) _ = m_Mo_makesChains_72 _ _ _ (nI (i + 1)) _
        rw [e_Mo_makesChains_82, nI_add i (31 - i), bLf (by omega) (by omega), nI_p1]⟩) (fun f _ => by
        show m_Mo_makesChains_72 _ _ _ (nI 31) _ = _
        rw [e_Mo_makesChains_72, bLf (by omega) (by omega), nI_p1])
      have h1 := h.fr g2 (by omega)
      have F2 : Fr fMc μ (wL μ1 318 (cvRow (t * 31) (μ1.2 310) (fun j => μ1.2 318 (m * 31 + j)) (μ1.2 318))) := (g2.w (fun c hc => by omega)).t2 (Fr.wL (by omega))
      have hK : KM t (addP A (mulP (subC t m) (chn m))) (wL μ1 318 (cvRow (t * 31) (μ1.2 310) (fun j => μ1.2 318 (m * 31 + j)) (μ1.2 318))) := by
        refine ⟨fun u hu j hj => ?_, fun j hj => ?_, fun u hu hu2 j hj => ?_⟩
        · rw [wL_s, cvRow_out (by omega), h1.1 u hu j hj]
        · rw [wL_s, cvRow_in hj, h1.2.1 j hj, rp_add, rp_mul]
          congr 1
          exact pmul_congr (fun i hi => g3 i (by omega)) (fun i hi => h1.1 m (by omega) i (by omega))
        · rw [wL_s, cvRow_out (by omega), h1.2.2 u hu hu2 j hj]
      obtain ⟨μ4, k1, k2, k3⟩ := s_mch_38 hl ht h0 f (m + 1) _ _ (by omega) (hC.fr F2 (fun c a b => by omega) (by omega)) (hT.fr F2 (by omega) (by omega) (by omega)) hK
      refine ⟨μ4, ?_, F2.t2 k2, ?_⟩
      · rw [e_Mo_makesChains_38, bLt (by omega) (by omega), gi hm (by omega), gi ht (by omega), kl (by omega), kl (by omega), hT.2.1 m hm, hT.2.1 t ht, nI_sub (by omega), bEt (by omega), g1, cV_s, h2, k1]
      · show KM t (chnF t f (m + 1) (if sizN m + 1 = sizN t then addP A (mulP (subC t m) (chn m)) else A)) μ4
        rw [if_pos q]
        exact k3
    · obtain ⟨μ4, k1, k2, k3⟩ := s_mch_38 hl ht h0 f (m + 1) A μ (by omega) hC hT h
      refine ⟨μ4, ?_, k2, ?_⟩
      · rw [e_Mo_makesChains_38, bLt (by omega) (by omega), gi hm (by omega), gi ht (by omega), kl (by omega), kl (by omega), hT.2.1 m hm, hT.2.1 t ht, nI_sub (by omega), bEf (by omega) (by omega) (by omega), nI_p1, k1]
      · show KM t (chnF t f (m + 1) (if sizN m + 1 = sizN t then addP A (mulP (subC t m) (chn m)) else A)) μ4
        rw [if_neg q]
        exact k3
theorem s_mch_156 {l : Nat} (hl : l < 19) {μ : Mm} (h : ∀ u, u ≤ l → ∀ j, j < 31 → μ.2 318 (u * 31 + j) = rp (chn u) j) : ∃ μ', m_Mo_makesChains_156 (nI l) (nI 0) μ = some (none, μ') ∧ Fr fMc μ μ' ∧ HL 310 (chn l) μ' := by
  have h3 := lp_L (L := fun i m => m_Mo_makesChains_156 (nI l) (nI i) m) (K := kN) (μ := μ) 310 0 31 (fun i _ => μ.2 318 (l * 31 + i)) (fun i f hi _ => by
    show m_Mo_makesChains_156 _ (nI i) _ = m_Mo_makesChains_156 _ (nI (i + 1)) _
    rw [e_Mo_makesChains_156, bLt hi (by omega), nI_mul, nI_add (l * 31) i, gi (by omega) (by omega), gi hi (by omega), nI_p1, kl (by omega), kl (by omega), wL_u, wL_o (by omega), Nat.zero_add]) (fun f => by
    show m_Mo_makesChains_156 _ (nI 31) _ = _
    rw [e_Mo_makesChains_156, bLf (by omega) (by omega)])
  exact ⟨_, h3, Fr.wL (Or.inl rfl), fun j hj => by rw [wL_s, rowL0 hj, h l (Nat.le_refl l) j hj]⟩
theorem s_mch_31 {l : Nat} (hl : l < 19) : ∀ (f t : Nat) (μ : Mm), t + f = l + 1 → 1 ≤ t → CT μ → MT μ → (∀ u, u < t → ∀ j, j < 31 → μ.2 318 (u * 31 + j) = rp (chn u) j) → (∀ u, t ≤ u → u < 19 → ∀ j, j < 31 → μ.2 318 (u * 31 + j) = lN 0) → ∃ μ', m_Mo_makesChains_31 (nI l) (nI t) μ = some (none, μ') ∧ Fr fMc μ μ' ∧ HL 310 (chn l) μ'
  | 0, t, μ, e, h0, hC, hT, h1, h2 => by
    obtain rfl : t = l + 1 := by omega
    obtain ⟨μ', g1, g2, g3⟩ := s_mch_156 hl (fun u hu => h1 u (by omega))
    exact ⟨μ', by rw [e_Mo_makesChains_31, bLt (by omega) (by omega), g1], g2, g3⟩
  | f + 1, t, μ, e, h0, hC, hT, h1, h2 => by
    have ht : t < 19 := by omega
    obtain ⟨μ1, k1, k2, k3⟩ := s_mch_38 hl ht h0 t 0 [] μ (by omega) hC hT ⟨h1, fun j hj => by rw [h2 t (Nat.le_refl t) ht j hj, rp_nil], fun u hu => h2 u (by omega)⟩
    have k4 := k3.eq (chn_ok t ht (by omega))
    obtain ⟨μ2, l1, l2, l3⟩ := s_mch_31 hl f (t + 1) μ1 (by omega) (by omega) (hC.fr k2 (fun c a b => by omega) (by omega)) (hT.fr k2 (by omega) (by omega) (by omega)) (fun u hu j hj => by
      by_cases q : u = t
      · rw [q]; exact k4.2.1 j hj
      · exact k4.1 u (by omega) j hj) (fun u hu hu2 => k4.2.2 u (by omega) hu2)
    exact ⟨μ2, by rw [e_Mo_makesChains_31, bLf (by omega) (by omega), k1, l1], k2.t2 l2, l3⟩
theorem s_makesChains {l : Nat} (hl : l < 19) {μ : Mm} (hC : CT μ) (hT : MT μ) : ∃ μ', m_Mo_makesChains (nI l) μ = some (none, μ') ∧ Fr fMc μ μ' ∧ HL 310 (chn l) μ' := by
  have h1 := lp_L (L := fun i m => m_Mo_makesChains_2 (nI l) (nI i) m) (K := fun m => m_Mo_makesChains_31 (nI l) (nI 1) (sL m 318 0 (lN 1))) (μ := μ) 318 0 589 (fun _ _ => lN 0) (fun i f hi _ => by
    show m_Mo_makesChains_2 _ (nI i) _ = m_Mo_makesChains_2 _ (nI (i + 1)) _
    rw [e_Mo_makesChains_2, bLt hi (by omega), gi hi (by omega), nI_p1, kl (by omega), wL_u, Nat.zero_add]) (fun f => by
    show m_Mo_makesChains_2 _ (nI 589) _ = _
    rw [e_Mo_makesChains_2, bLf (by omega) (by omega), gi (by omega) (by omega), kl (by omega)])
  have F1 : Fr fMc μ (sL (wL μ 318 (rowL 0 589 (fun _ _ => lN 0) (μ.2 318))) 318 0 (lN 1)) := (Fr.wL (by omega)).t2 (Fr.sL (by omega))
  obtain ⟨μ2, k1, k2, k3⟩ := s_mch_31 hl l 1 _ (by omega) (by omega) (hC.fr F1 (fun c a b => by omega) (by omega)) (hT.fr F1 (by omega) (by omega) (by omega)) (fun u hu j hj => by
    obtain rfl : u = 0 := by omega
    rw [sL_s, wL_s]
    show _ = rp [1] j
    cases j with
    | zero => rw [uL_s]; decide
    | succ j => rw [uL_o (by omega), rowL0 (by omega), rp_s, rp_nil]) (fun u hu hu2 j hj => by rw [sL_s, wL_s, uL_o (by omega), rowL0 (by omega)])
  exact ⟨μ2, (e_Mo_makesChains _ μ).trans (h1.trans k1), F1.t2 k2, k3⟩
/-- what is asked of a type as a whole -/
def whC (t w : Nat) : List Int := if w = 0 then sumF t 19 0 [] else if w = 1 then turC t else chn t
theorem s_writeWhole {t w : Nat} (ht : t < 19) (hw : w < 3) {μ : Mm} (hC : CT μ) (hH : CH μ) : ∃ μ', m_Co_writeWhole 274 (nI t) (nI w) μ = some (none, μ') ∧ Fr cW μ μ' ∧ CH μ' ∧ HL 274 (whC t w) μ' := by
  rw [e_Co_writeWhole, d_eq (by omega) (by omega), d_eq (by omega) (by omega)]
  unfold whC
  by_cases q0 : w = 0
  · obtain ⟨μ1, g1, g2, g3⟩ := s_allSub ht hC
    rw [decide_eq_true q0, cond_true, if_pos q0]
    exact ⟨μ1, by rw [g1, cV_s], g2.w (fun c hc => by omega), hH.fr g2 (by omega) (fun k a b => by omega), g3⟩
  · by_cases q1 : w = 1
    · obtain ⟨μ1, g1, g2, g3⟩ := s_aut k274 n274 ht μ
      rw [decide_eq_false q0, decide_eq_true q1, cond_false, cond_true, if_neg q0, if_pos q1]
      exact ⟨μ1, by rw [g1, cV_s], g2.w (fun c hc => by omega), hH.fr g2 (by omega) (fun k a b => by omega), g3⟩
    · obtain ⟨μ1, g1, g2, g3, g4⟩ := s_writeChains ht hC hH
      rw [decide_eq_false q0, decide_eq_false q1, cond_false, cond_false, if_neg q0, if_neg q1]
      exact ⟨μ1, by rw [g1, cV_s], g2, g3, g4⟩
theorem s_makesWhole {t w : Nat} (ht : t < 19) (hw : w < 3) {μ : Mm} (hC : CT μ) (hT : MT μ) : ∃ μ', m_Mo_makesWhole (nI t) (nI w) μ = some (none, μ') ∧ Fr (fun k => k = 310 ∨ k = 311 ∨ k = 317 ∨ k = 318 ∨ k = 59 ∨ k = 60 ∨ k = 274) μ μ' ∧ HL 310 (whC t w) μ' := by
  rw [e_Mo_makesWhole, d_eq (by omega) (by omega), d_eq (by omega) (by omega)]
  unfold whC
  by_cases q0 : w = 0
  · obtain ⟨μ1, g1, g2, g3⟩ := s_makesAll ht hC hT
    rw [decide_eq_true q0, cond_true, if_pos q0]
    exact ⟨μ1, by rw [g1, cV_s], g2.w (fun c hc => by omega), g3⟩
  · by_cases q1 : w = 1
    · obtain ⟨μ1, g1, g2, g3⟩ := s_makesTurns ht hT
      rw [decide_eq_false q0, decide_eq_true q1, cond_false, cond_true, if_neg q0, if_pos q1]
      exact ⟨μ1, by rw [g1, cV_s], g2.w (fun c hc => by omega), g3⟩
    · obtain ⟨μ1, g1, g2, g3⟩ := s_makesChains ht hC hT
      rw [decide_eq_false q0, decide_eq_false q1, cond_false, cond_false, if_neg q0, if_neg q1]
      exact ⟨μ1, by rw [g1, cV_s], g2.w (fun c hc => by omega), g3⟩
theorem in2 (x : Int32) : (∃ n, n < 3 ∧ x = nI n ∧ (∀ μ, m_Co_isWhole x μ = some (some (.int (nI 1)), μ)) ∧ ∀ μ, m_Mo_in_JJJ x.toInt64 (lN 0) (lN 2) μ = some (some (.int (nI 1)), μ)) ∨ ((∀ μ, m_Co_isWhole x μ = some (some (.int (nI 0)), μ)) ∧ ∀ μ, m_Mo_in_JJJ x.toInt64 (lN 0) (lN 2) μ = some (some (.int (nI 0)), μ)) := by
  rcases i_cases x with hx | ⟨n, hn, rfl⟩
  · refine Or.inr ⟨fun μ => ?_, fun μ => ?_⟩
    · rw [e_Co_isWhole, decide_eq_true hx]
      exact gd_h isb_0
    · rw [s_Mo_in, l_lt _ _ (by omega), decide_eq_true hx]; rfl
  · by_cases q : n < 3
    · refine Or.inl ⟨n, q, rfl, fun μ => ?_, fun μ => ?_⟩
      · rw [e_Co_isWhole, nI_lt0 hn, d_lt (by omega) hn, decide_eq_false (show ¬ 2 < n by omega)]
        exact gd_h isb_1
      · rw [s_Mo_in, l_lt _ _ (by omega), nI_lt0 hn, l_gt _ _ (by omega), d_lt (by omega) hn, decide_eq_false (by omega)]; rfl
    · refine Or.inr ⟨fun μ => ?_, fun μ => ?_⟩
      · rw [e_Co_isWhole, nI_lt0 hn, d_lt (by omega) hn, decide_eq_true (show 2 < n by omega)]
        exact gd_h isb_0
      · rw [s_Mo_in, l_lt _ _ (by omega), nI_lt0 hn, l_gt _ _ (by omega), d_lt (by omega) hn, decide_eq_true (by omega)]; rfl
/-- a prime for both, or none for both -/
theorem both_prime (x : Int32) : ((x = nI 2 ∨ x = nI 3 ∨ x = nI 5 ∨ x = nI 7) ∧ ∀ μ, m_TI_isPrime x μ = some (some (.int (nI 1)), μ) ∧ m_Mo_isPrime x μ = some (some (.int (nI 1)), μ)) ∨ ∀ μ, m_TI_isPrime x μ = some (some (.int (nI 0)), μ) ∧ m_Mo_isPrime x μ = some (some (.int (nI 0)), μ) := by
  by_cases q2 : x = nI 2
  · exact Or.inl ⟨Or.inl q2, fun μ => ⟨by rw [e_TI_isPrime, decide_eq_true q2]; exact gd_h isb_1, by rw [e_Mo_isPrime, decide_eq_true q2]; exact gd_h isb_1⟩⟩
  · by_cases q3 : x = nI 3
    · exact Or.inl ⟨Or.inr (Or.inl q3), fun μ => ⟨by rw [e_TI_isPrime, decide_eq_false q2, decide_eq_true q3]; exact gd_h isb_1, by rw [e_Mo_isPrime, decide_eq_false q2, decide_eq_true q3]; exact gd_h isb_1⟩⟩
    · by_cases q5 : x = nI 5
      · exact Or.inl ⟨Or.inr (Or.inr (Or.inl q5)), fun μ => ⟨by rw [e_TI_isPrime, decide_eq_false q2, decide_eq_false q3, decide_eq_true q5]; exact gd_h isb_1, by rw [e_Mo_isPrime, decide_eq_false q2, decide_eq_false q3, decide_eq_true q5]; exact gd_h isb_1⟩⟩
      · by_cases q7 : x = nI 7
        · exact Or.inl ⟨Or.inr (Or.inr (Or.inr q7)), fun μ => ⟨by rw [e_TI_isPrime, decide_eq_false q2, decide_eq_false q3, decide_eq_false q5, decide_eq_true q7]; exact gd_h isb_1, by rw [e_Mo_isPrime, decide_eq_false q2, decide_eq_false q3, decide_eq_false q5, decide_eq_true q7]; exact gd_h isb_1⟩⟩
        · exact Or.inr (fun μ => ⟨by rw [e_TI_isPrime, decide_eq_false q2, decide_eq_false q3, decide_eq_false q5, decide_eq_false q7]; exact gd_h isb_0, by rw [e_Mo_isPrime, decide_eq_false q2, decide_eq_false q3, decide_eq_false q5, decide_eq_false q7]; exact gd_h isb_0⟩)
def Bw (μ : Mm) (f g : Mm → Option Rs) : Prop := ∃ (r : Int64) (μ1 μ2 : Mm), f μ = some (some (.long r), μ1) ∧ g μ1 = some (some (.long r), μ2) ∧ Fr cW μ μ2 ∧ CH μ2
theorem Bw.same {μ : Mm} (hH : CH μ) {r : Int64} {f g : Mm → Option Rs} (h1 : f μ = some (some (.long r), μ)) (h2 : g μ = some (some (.long r), μ)) : Bw μ f g := ⟨r, μ, μ, h1, h2, Fr.rf, hH⟩
/-- promise 8: whole -/
theorem both_whole {μ : Mm} (hC : CT μ) (hT : MT μ) (hH : CH μ) (x y z : Int32) : Bw μ (m_TI_whole x y z) (m_Mo_whole_III x y z) := by
  rcases both_find x with ⟨t, ht, hf⟩ | hf
  · rcases in2 y with ⟨w, hw, rfl, y1, y2⟩ | ⟨y1, y2⟩
    · rcases both_isPart z with ⟨hz, z1⟩ | z1
      · obtain ⟨μ1, g1, g2, g3, g4⟩ := s_writeWhole ht hw hC hH
        have hC1 := hC.fr g2 (fun c a b => by omega) (by omega)
        have hT1 := hT.fr g2 (by omega) (by omega) (by omega)
        obtain ⟨μ2, k1, k2, k3⟩ := s_makesWhole ht hw hC1 hT1
        refine ⟨prt (rp (whC t w)) z, μ1, μ2, ?_, ?_, g2.t2 (k2.w (fun k hk => by omega)), g3.fr k2 (by omega) (fun k a b => by omega)⟩
        · rw [e_TI_whole, (hf μ).1, cI_s, bf (t_ge ht), y1, cI_s, bf (by decide), (z1 μ).1, cI_s, bf (by decide), g1, cV_s, s_part31 k274 n274 g4 hz, cJ_s]
        · rw [e_Mo_whole_III, (hf μ1).2 hT1, cI_s, bf (d_e1 (by omega)), y2, cI_s, bf (by decide), (z1 μ1).2, cI_s, bf (by decide), k1, cV_s, s_part310 k3 hz, cJ_s]
      · refine Bw.same hH (r := -9223372036854775808) ?_ ?_
        · rw [e_TI_whole, (hf μ).1, cI_s, bf (t_ge ht), y1, cI_s, bf (by decide), (z1 μ).1, cI_s]
          exact bt (by decide)
        · rw [e_Mo_whole_III, (hf μ).2 hT, cI_s, bf (d_e1 (by omega)), y2, cI_s, bf (by decide), (z1 μ).2, cI_s]
          exact bt (by decide)
    · refine Bw.same hH (r := -9223372036854775808) ?_ ?_
      · rw [e_TI_whole, (hf μ).1, cI_s, bf (t_ge ht), y1, cI_s]
        exact bt (by decide)
      · rw [e_Mo_whole_III, (hf μ).2 hT, cI_s, bf (d_e1 (by omega)), y2, cI_s]
        exact bt (by decide)
  · refine Bw.same hH (r := -9223372036854775808) ?_ ?_
    · rw [e_TI_whole, (hf μ).1, cI_s]
      exact bt d_neg
    · rw [e_Mo_whole_III, (hf μ).2 hT, cI_s]
      exact bt neg1
/-- promise 9: value -/
theorem both_value {μ : Mm} (hC : CT μ) (hT : MT μ) (hH : CH μ) (x y z : Int32) : Bw μ (m_TI_value x y z) (m_Mo_value x y z) := by
  rcases both_find x with ⟨t, ht, hf⟩ | hf
  · rcases in2 y with ⟨w, hw, rfl, y1, y2⟩ | ⟨y1, y2⟩
    · rcases both_prime z with ⟨hz, z1⟩ | z1
      · obtain ⟨μ1, g1, g2, g3, g4⟩ := s_writeWhole ht hw hC hH
        have hC1 := hC.fr g2 (fun c a b => by omega) (by omega)
        have hT1 := hT.fr g2 (by omega) (by omega) (by omega)
        obtain ⟨μ2, k1, k2, k3⟩ := s_makesWhole ht hw hC1 hT1
        refine ⟨val (rp (whC t w)) z.toInt64 31 (lN 0), μ1, μ2, ?_, ?_, g2.t2 (k2.w (fun k hk => by omega)), g3.fr k2 (by omega) (fun k a b => by omega)⟩
        · rw [e_TI_value, (hf μ).1, cI_s, bf (t_ge ht), y1, cI_s, bf (by decide), (z1 μ).1, cI_s, bf (by decide), g1, cV_s, s_value31 k274 n274 g4, cJ_s]
        · rw [e_Mo_value, (hf μ1).2 hT1, cI_s, bf (d_e1 (by omega)), y2, cI_s, bf (by decide), (z1 μ1).2, cI_s, bf (by decide), k1, cV_s, s_valueOfMade k3, cJ_s]
      · refine Bw.same hH (r := -9223372036854775808) ?_ ?_
        · rw [e_TI_value, (hf μ).1, cI_s, bf (t_ge ht), y1, cI_s, bf (by decide), (z1 μ).1, cI_s]
          exact bt (by decide)
        · rw [e_Mo_value, (hf μ).2 hT, cI_s, bf (d_e1 (by omega)), y2, cI_s, bf (by decide), (z1 μ).2, cI_s]
          exact bt (by decide)
    · refine Bw.same hH (r := -9223372036854775808) ?_ ?_
      · rw [e_TI_value, (hf μ).1, cI_s, bf (t_ge ht), y1, cI_s]
        exact bt (by decide)
      · rw [e_Mo_value, (hf μ).2 hT, cI_s, bf (d_e1 (by omega)), y2, cI_s]
        exact bt (by decide)
  · refine Bw.same hH (r := -9223372036854775808) ?_ ?_
    · rw [e_TI_value, (hf μ).1, cI_s]
      exact bt d_neg
    · rw [e_Mo_value, (hf μ).2 hT, cI_s]
      exact bt neg1
