/-! products of types: all of them for one type; hall -/
abbrev fTq (k : Nat) : Prop := k = 310 ∨ k = 311 ∨ k = 314 ∨ k = 315 ∨ k = 316
/-- what the reference's row of products holds for n and more -/
def PR (m n : Nat) (μ : Mm) : Prop := ∀ q, q < 19 → ∀ l, l < 19 → ∀ j, j < 31 → μ.2 313 ((q * 19 + l) * 31 + j) = if n ≤ q then rp (hL m q l) j else lN 0
theorem PR.fr {m n : Nat} {S : Nat → Prop} {μ μ' : Mm} (h : PR m n μ) (g : Fr S μ μ') (h1 : ¬ S 313) : PR m n μ' := by
  unfold PR
  rw [(g 313 h1).2]
  exact h
theorem s_takesOff {m n q l : Nat} (hq : q < 19) (hnq : n ≤ q) (hl : l < 19) {F G : Nat → List Int} {μ : Mm} (hP : PR m n μ) (hF : TB 314 F μ) (hG : TB 316 G μ) : ∃ μ', m_Mo_takesOff (nI q) (nI l) μ = some (none, μ') ∧ Fr (fun k => k = 314) μ μ' ∧ TB 314 (fun u => if u = l then addP (F l) (scaP (-1) (mulP (G q) (hL m q l))) else F u) μ' := by
  have h2 := lp_C (Lo := fun i μ' => m_Mo_takesOff_13 (nI q) (nI l) (nI ((q * 19 + l) * 31)) (nI i) μ') (Li := fun i j μ' => m_Mo_takesOff_37 (nI q) (nI l) (nI ((q * 19 + l) * 31)) (nI i) (μ.2 316 (q * 31 + i)) (nI j) μ') (K := kN) (μ := μ) 314 (l * 31) (fun i => -(μ.2 316 (q * 31 + i))) (fun j => μ.2 313 ((q * 19 + l) * 31 + j)) (fun i f hi => by
    show m_Mo_takesOff_13 _ _ _ (nI i) _ = _
    rw [e_Mo_takesOff_13, bLt hi (by omega), nI_mul q 31, nI_add (q * 31) i, gi (by omega) (by omega), kl (by omega), wL_o (by omega)]) (fun i hi => by
    by_cases z : μ.2 316 (q * 31 + i) = lN 0
    · refine Or.inr ⟨?_, fun f => ?_⟩
      · show -(μ.2 316 (q * 31 + i)) = lN 0
        rw [z]
        decide
      · show m_Mo_takesOff_37 _ _ _ (nI i) _ (nI 0) _ = m_Mo_takesOff_13 _ _ _ (nI (i + 1)) _
        rw [e_Mo_takesOff_37, nI_add i 0, bLt (by omega) (by omega), lgc_eq, bt (decide_eq_true z), nI_p1]
    · refine Or.inl ⟨fun j f hij => ?_, fun f => ?_⟩
      · show m_Mo_takesOff_37 _ _ _ (nI i) _ (nI j) _ = m_Mo_takesOff_37 _ _ _ (nI i) _ (nI (j + 1)) _
        rw [e_Mo_takesOff_37, nI_add i j, bLt hij (by omega), lgc_eq, bf (decide_eq_false z), nI_mul l 31, nI_add (l * 31) i, nI_add (l * 31 + i) j, gi (by omega) (by omega), nI_add ((q * 19 + l) * 31) j, gi (by omega) (by omega), gi (by omega) (by omega), kl (by omega), kl (by omega), wL_u, wL_s, wL_o (by omega), nI_p1, Int64.neg_mul, ← Int64.sub_eq_add_neg]
      · show m_Mo_takesOff_37 _ _ _ (nI i) _ (nI (31 - i)) _ = m_Mo_takesOff_13 _ _ _ (nI (i + 1)) _
        rw [e_Mo_takesOff_37, nI_add i (31 - i), bLf (by omega) (by omega), nI_p1]) (fun f => by
    show m_Mo_takesOff_13 _ _ _ (nI 31) _ = _
    rw [e_Mo_takesOff_13, bLf (by omega) (by omega)])
  refine ⟨wL μ 314 (cvRow (l * 31) (fun i => -(μ.2 316 (q * 31 + i))) (fun j => μ.2 313 ((q * 19 + l) * 31 + j)) (μ.2 314)), ?_, Fr.wL rfl, fun u hu j hj => ?_⟩
  · rw [e_Mo_takesOff, nI_mul q 19, nI_add, nI_mul]
    exact h2
  · rw [wL_s]
    show _ = rp (if u = l then addP (F l) (scaP (-1) (mulP (G q) (hL m q l))) else F u) j
    by_cases c : u = l
    · subst c
      have e : ∀ x : Int64, Int64.ofInt (-1) * x = -x := fun x => by
        rw [show Int64.ofInt (-1) = -1 by decide, Int64.neg_mul, Int64.one_mul]
      rw [if_pos rfl, cvRow_in hj, hF u hu j hj, rp_add, rp_sca, rp_mul, pmul_sm, pmul_sm, sm_mul]
      congr 1
      refine sm_congr _ (fun i hi => ?_)
      rw [e, hG q hq i (by omega), Int64.neg_mul, hP q hq u hu (j - i) (by omega), if_pos hnq]
    · rw [if_neg c, cvRow_out (by omega), hF u hu j hj]
/-- a type's products less those with types of greater parts -/
def toffF (m q : Nat) (G : Nat → List Int) (F : Nat → List Int) (u : Nat) : List Int := addP (F u) (scaP (-1) (mulP (G q) (hL m q u)))
theorem s_mu_149 {m n q : Nat} (hm : m < 19) (hq : q < 19) (hnq : n + 1 ≤ q) {F G : Nat → List Int} : ∀ (f l : Nat) (μ : Mm), l + f = 19 → PR m (n + 1) μ → TB 314 (fun u => if u < l then toffF m q G F u else F u) μ → TB 316 G μ → ∃ μ', m_Mo_multiplies_149 (nI m) (nI n) (nI q) (nI l) μ = m_Mo_multiplies_106 (nI m) (nI n) (nI (q + 1)) μ' ∧ Fr (fun k => k = 314) μ μ' ∧ TB 314 (toffF m q G F) μ'
  | 0, l, μ, e, hP, hF, hG => by
    obtain rfl : l = 19 := by omega
    refine ⟨μ, ?_, Fr.rf, hF.ext (fun u hu => if_pos hu)⟩
    rw [e_Mo_multiplies_149, bLf (by omega) (by omega), nI_p1]
  | f + 1, l, μ, e, hP, hF, hG => by
    obtain ⟨μ1, g1, g2, g3⟩ := s_takesOff hq hnq (show l < 19 by omega) hP hF hG
    obtain ⟨μ2, k1, k2, k3⟩ := s_mu_149 hm hq hnq f (l + 1) μ1 (by omega) (hP.fr g2 (by omega)) (g3.ext (fun u hu => by
      show (if u = l then addP (if l < l then toffF m q G F l else F l) (scaP (-1) (mulP (G q) (hL m q l))) else if u < l then toffF m q G F u else F u) = _
      by_cases c1 : u = l
      · rw [if_pos c1, if_neg (by omega), if_pos (by omega), c1]
        rfl
      · rw [if_neg c1]
        by_cases c2 : u < l
        · rw [if_pos c2, if_pos (by omega)]
        · rw [if_neg c2, if_neg (by omega)])) (hG.fr g2 (by omega))
    refine ⟨μ2, ?_, g2.t2 k2, k3⟩
    rw [e_Mo_multiplies_149, bLt (by omega) (by omega), g1, cV_s, nI_p1, k1]
def muF (m n : Nat) (G : Nat → List Int) : Nat → Nat → (Nat → List Int) → (Nat → List Int)
  | 0, _, F => F
  | f + 1, q, F => muF m n G f (q + 1) (if sizN q = sizN n ∧ zB (G q) = false then toffF m q G F else F)
theorem s_mu_106 {m n : Nat} (hm : m < 19) (hn : n < 19) {G : Nat → List Int} : ∀ (f q : Nat) (F : Nat → List Int) (μ : Mm), q + f = 19 → n + 1 ≤ q → MT μ → PR m (n + 1) μ → TB 314 F μ → TB 316 G μ → ∃ μ', m_Mo_multiplies_106 (nI m) (nI n) (nI q) μ = m_Mo_multiplies_177 (nI m) (nI n) (nI 0) μ' ∧ Fr (fun k => k = 314) μ μ' ∧ TB 314 (muF m n G f q F) μ'
  | 0, q, F, μ, e, hnq, hT, hP, hF, hG => by
    obtain rfl : q = 19 := by omega
    refine ⟨μ, ?_, Fr.rf, hF⟩
    rw [e_Mo_multiplies_106, bLf (by omega) (by omega)]
  | f + 1, q, F, μ, e, hnq, hT, hP, hF, hG => by
    have hq : q < 19 := by omega
    have s1 := sz_lt hq
    have s2 := sz_lt hn
    have hd : decide (degF (fun k => μ.2 316 (q * 31 + k)) 31 = (-5 : Int32)) = zB (G q) := by
      rw [hasB_5, hasB_z (fun j hj => hG q hq j hj), Bool.not_not]
    have e0 : m_Mo_multiplies_106 (nI m) (nI n) (nI q) μ = if sizN q = sizN n ∧ zB (G q) = false then m_Mo_multiplies_149 (nI m) (nI n) (nI q) (nI 0) μ else m_Mo_multiplies_106 (nI m) (nI n) (nI (q + 1)) μ := by
      rw [e_Mo_multiplies_106, bLt hq (by omega), gi hq (by omega), gi hn (by omega), kl (by omega), kl (by omega), hT.2.1 q hq, hT.2.1 n hn, nI_p1]
      by_cases c1 : sizN q = sizN n
      · rw [bEt c1, nI_mul, s_Mo_degree (by rw [ln316]; omega) (by rw [ln316]; omega), cI_s, hd]
        cases hz : zB (G q)
        · rw [if_pos ⟨c1, rfl⟩, cond_false]
        · rw [if_neg (fun z => by cases z.2), cond_true]
      · rw [bEf c1 (by omega) (by omega), if_neg (fun z => c1 z.1)]
    unfold muF
    by_cases c : sizN q = sizN n ∧ zB (G q) = false
    · rw [if_pos c] at e0 ⊢
      obtain ⟨μ1, g1, g2, g3⟩ := s_mu_149 hm hq hnq 19 0 μ rfl hP (hF.ext (fun u hu => (if_neg (Nat.not_lt_zero u)).symm)) hG
      obtain ⟨μ2, k1, k2, k3⟩ := s_mu_106 hm hn f (q + 1) _ μ1 (by omega) (by omega) (hT.fr g2 (by omega) (by omega) (by omega)) (hP.fr g2 (by omega)) g3 (hG.fr g2 (by omega))
      exact ⟨μ2, by rw [e0, g1, k1], g2.t2 k2, k3⟩
    · rw [if_neg c] at e0 ⊢
      obtain ⟨μ2, k1, k2, k3⟩ := s_mu_106 hm hn f (q + 1) F μ (by omega) (by omega) hT hP hF hG
      exact ⟨μ2, by rw [e0, k1], k2, k3⟩

theorem hm_ok : ∀ m, m < 19 → ∀ n, n < 19 → sizN m + sizN n ≤ 5 → ((List.range 19).all fun u => eqP (muF m n (tcN 0 n) (18 - n) (n + 1) (tcN m n) u) (hL m n u)) = true := by decide +kernel
theorem s_mu_step {m n : Nat} (hm : m < 19) (hn : n < 19) {μ : Mm} (hC : CT μ) (hT : MT μ) (hP : PR m (n + 1) μ) : ∃ μ', m_Mo_multiplies_39 (nI m) (nI n) μ = m_Mo_multiplies_39 (nI m) (nI n + (-1 : Int32)) μ' ∧ Fr (fun k => fTq k ∨ k = 313) μ μ' ∧ PR m n μ' := by
  have s1 := sz_lt hm
  have s2 := sz_lt hn
  by_cases q : 5 < sizN m + sizN n
  · refine ⟨μ, ?_, Fr.rf, fun u hu l hl j hj => ?_⟩
    · rw [e_Mo_multiplies_39, bf (nI_lt0 (by omega)), gi hm (by omega), gi hn (by omega), kl (by omega), kl (by omega), hT.2.1 m hm, hT.2.1 n hn, nI_add, bLt q (by omega)]
    · rw [hP u hu l hl j hj]
      by_cases c : u = n
      · subst c
        have := sz_lt hl
        have e : hL m u l = [] := if_neg (by omega)
        rw [if_neg (by omega), if_pos (Nat.le_refl u), e, rp_nil]
      · by_cases c2 : n + 1 ≤ u
        · rw [if_pos c2, if_pos (by omega)]
        · rw [if_neg c2, if_neg (by omega)]
  · obtain ⟨μ1, g1, g2, g3⟩ := s_timesColumns (m := 0) (n := n) (by omega) hn hC hT
    have h1 := lp_L (L := fun i μ' => m_Mo_multiplies_71 (nI m) (nI n) (nI i) μ') (K := fun μ' => cV (m_Mo_timesColumns (nI m) (nI n) μ') fun μ'' => m_Mo_multiplies_106 (nI m) (nI n) (nI (n + 1)) μ'') (μ := μ1) 316 0 589 (fun i _ => μ1.2 314 i) (fun i f hi _ => by
      show m_Mo_multiplies_71 _ _ (nI i) _ = m_Mo_multiplies_71 _ _ (nI (i + 1)) _
      rw [e_Mo_multiplies_71, bLt hi (by omega), gi hi (by omega), gi hi (by omega), nI_p1, kl (by omega), wL_u, wL_o (by omega), Nat.zero_add]) (fun f => by
      show m_Mo_multiplies_71 _ _ (nI 589) _ = _
      rw [e_Mo_multiplies_71, bLf (by omega) (by omega), nI_p1])
    have F1 : Fr (fun k => fTq k ∨ k = 313) μ (wL μ1 316 (rowL 0 589 (fun i _ => μ1.2 314 i) (μ1.2 316))) := (g2.w (fun c hc => by omega)).t2 (Fr.wL (by omega))
    have hC1 := hC.fr F1 (fun c a b => by omega) (by omega)
    have hT1 := hT.fr F1 (by omega) (by omega) (by omega)
    have hG : TB 316 (tcN 0 n) (wL μ1 316 (rowL 0 589 (fun i _ => μ1.2 314 i) (μ1.2 316))) := fun u hu j hj => by
      rw [wL_s, rowL0 (by omega)]
      exact g3 u hu j hj
    obtain ⟨μ2, k1, k2, k3⟩ := s_timesColumns hm hn hC1 hT1
    have hT2 := hT1.fr k2 (by omega) (by omega) (by omega)
    have hP2 := ((hP.fr g2 (by omega)).fr (Fr.wL (S := fun k => k = 316) (f := rowL 0 589 (fun i _ => μ1.2 314 i) (μ1.2 316)) rfl) (by omega)).fr k2 (by omega)
    obtain ⟨μ3, l1, l2, l3⟩ := s_mu_106 hm hn (18 - n) (n + 1) _ μ2 (by omega) (by omega) hT2 hP2 k3 (hG.fr k2 (by omega))
    have h4 := l3.eq (fun u hu => List.all_eq_true.mp (hm_ok m hm n hn (by omega)) u (List.mem_range.mpr hu))
    have h5 := lp_L (L := fun i μ' => m_Mo_multiplies_177 (nI m) (nI n) (nI i) μ') (K := fun μ' => m_Mo_multiplies_39 (nI m) (nI n + (-1 : Int32)) μ') (μ := μ3) 313 (n * 19 * 31) 589 (fun i _ => μ3.2 314 i) (fun i f hi _ => by
      show m_Mo_multiplies_177 _ _ (nI i) _ = m_Mo_multiplies_177 _ _ (nI (i + 1)) _
      rw [e_Mo_multiplies_177, bLt hi (by omega), gi hi (by omega), nI_mul n 19, nI_mul (n * 19) 31, nI_add (n * 19 * 31) i, gi (by omega) (by omega), nI_p1, kl (by omega), kl (by omega), wL_u, wL_o (by omega)]) (fun f => by
      show m_Mo_multiplies_177 _ _ (nI 589) _ = _
      rw [e_Mo_multiplies_177, bLf (by omega) (by omega)])
    have hP3 := hP2.fr l2 (by omega)
    refine ⟨wL μ3 313 (rowL (n * 19 * 31) 589 (fun i _ => μ3.2 314 i) (μ3.2 313)), ?_, ((F1.t2 (k2.w (fun c hc => by omega))).t2 (l2.w (fun c hc => by omega))).t2 (Fr.wL (by omega)), fun u hu l hl j hj => ?_⟩
    · rw [e_Mo_multiplies_39, bf (nI_lt0 (by omega)), gi hm (by omega), gi hn (by omega), kl (by omega), kl (by omega), hT.2.1 m hm, hT.2.1 n hn, nI_add, bLf (by omega) (by omega), g1, cV_s, h1, k1, cV_s, l1, h5]
    · rw [wL_s]
      by_cases c : u = n
      · subst c
        rw [show (u * 19 + l) * 31 + j = u * 19 * 31 + (l * 31 + j) by omega, rowL_in (by omega), if_pos (Nat.le_refl u)]
        exact h4 l hl j hj
      · rw [rowL_out (by omega), hP3 u hu l hl j hj]
        by_cases c2 : n + 1 ≤ u
        · rw [if_pos c2, if_pos (by omega)]
        · rw [if_neg c2, if_neg (by omega)]
theorem s_mu_39 {m : Nat} (hm : m < 19) : ∀ (n : Nat) (μ : Mm), n < 19 → CT μ → MT μ → PR m (n + 1) μ → ∃ μ', m_Mo_multiplies_39 (nI m) (nI n) μ = some (none, μ') ∧ Fr (fun k => fTq k ∨ k = 313) μ μ' ∧ PR m 0 μ'
  | 0, μ, hn, hC, hT, hP => by
    obtain ⟨μ1, g1, g2, g3⟩ := s_mu_step hm hn hC hT hP
    refine ⟨μ1, ?_, g2, g3⟩
    rw [g1, nI_z1, e_Mo_multiplies_39, bt d_neg]
  | n + 1, μ, hn, hC, hT, hP => by
    obtain ⟨μ1, g1, g2, g3⟩ := s_mu_step hm hn hC hT hP
    obtain ⟨μ2, k1, k2, k3⟩ := s_mu_39 hm n μ1 (by omega) (hC.fr g2 (fun c a b => by omega) (by omega)) (hT.fr g2 (by omega) (by omega) (by omega)) g3
    exact ⟨μ2, by rw [g1, nI_m1, k1], g2.t2 k2, k3⟩
/-- the products that the reference holds are a type's, or none -/
def HP (μ : Mm) : Prop := μ.1 306 11 = (-1 : Int32) ∨ ∃ m, m < 19 ∧ μ.1 306 11 = nI m ∧ PR m 0 μ
theorem s_multiplies {m : Nat} (hm : m < 19) {μ : Mm} (hC : CT μ) (hT : MT μ) (hP : HP μ) : ∃ μ', m_Mo_multiplies (nI m) μ = some (none, μ') ∧ Fr (fun k => fTq k ∨ k = 313 ∨ k = 306) μ μ' ∧ (∀ j, j ≠ 11 → μ'.1 306 j = μ.1 306 j) ∧ μ'.1 306 11 = nI m ∧ PR m 0 μ' := by
  by_cases q : μ.1 306 11 = nI m
  · refine ⟨μ, ?_, Fr.rf, fun _ _ => rfl, q, ?_⟩
    · rw [e_Mo_multiplies, bt (decide_eq_true q)]
    · rcases hP with h | ⟨k, hk, h, h2⟩
      · rw [q] at h
        exact absurd h (of_decide_eq_false (d_e1 (by omega)))
      · rw [q] at h
        have := (nI_eq (by omega) (by omega)).mp h
        subst this
        exact h2
  · have h1 := lp_L (L := fun i μ' => m_Mo_multiplies_16 (nI m) (nI i) μ') (K := fun μ' => m_Mo_multiplies_39 (nI m) (nI 18) μ') (μ := sI μ 306 11 (nI m)) 313 0 11191 (fun _ _ => lN 0) (fun i f hi _ => by
      show m_Mo_multiplies_16 _ (nI i) _ = m_Mo_multiplies_16 _ (nI (i + 1)) _
      rw [e_Mo_multiplies_16, bLt hi (by omega), gi hi (by omega), nI_p1, kl (by omega), wL_u, Nat.zero_add]) (fun f => by
      show m_Mo_multiplies_16 _ (nI 11191) _ = _
      rw [e_Mo_multiplies_16, bLf (by omega) (by omega)])
    have F1 : Fr (fun k => fTq k ∨ k = 313 ∨ k = 306) μ (wL (sI μ 306 11 (nI m)) 313 (rowL 0 11191 (fun _ _ => lN 0) ((sI μ 306 11 (nI m)).2 313))) := (Fr.sI (by omega)).t2 (Fr.wL (by omega))
    obtain ⟨μ2, k1, k2, k3⟩ := s_mu_39 hm 18 _ (by omega) (hC.fr F1 (fun c a b => by omega) (by omega)) (hT.fr F1 (by omega) (by omega) (by omega)) (fun u hu l hl j hj => by
      rw [wL_s, rowL0 (by omega), if_neg (by omega)])
    refine ⟨μ2, ?_, F1.t2 (k2.w (fun c hc => by omega)), fun j hj => ?_, ?_, k3⟩
    · rw [e_Mo_multiplies, bf (decide_eq_false q), h1, k1]
    · rw [(k2 306 (by omega)).1, wL_1, sI_s, up_o hj]
    · rw [(k2 306 (by omega)).1, wL_1, sI_s, up_s]
theorem HP.fr {S : Nat → Prop} {μ μ' : Mm} (h : HP μ) (g : Fr S μ μ') (h1 : ¬ S 313) (h2 : ¬ S 306) : HP μ' := by
  unfold HP
  rw [(g 306 h2).1]
  rcases h with h | ⟨m, hm, h, h3⟩
  · exact Or.inl h
  · exact Or.inr ⟨m, hm, h, h3.fr g h1⟩
/-- the cells of hall -/
abbrev cH (k : Nat) : Prop := cP k ∨ k = 306 ∨ (313 ≤ k ∧ k < 317)
def Bh (μ : Mm) (f g : Mm → Option Rs) : Prop := ∃ (r : Int64) (μ1 μ2 : Mm), f μ = some (some (.long r), μ1) ∧ g μ1 = some (some (.long r), μ2) ∧ Fr cH μ μ2 ∧ (∀ j, j ≠ 11 → μ2.1 306 j = μ.1 306 j) ∧ HP μ2
theorem Bh.same {μ : Mm} (hP : HP μ) {r : Int64} {f g : Mm → Option Rs} (h1 : f μ = some (some (.long r), μ)) (h2 : g μ = some (some (.long r), μ)) : Bh μ f g := ⟨r, μ, μ, h1, h2, Fr.rf, fun _ _ => rfl, hP⟩
theorem ln313 : lnL 313 = 11191 := by decide
/-- promise 7: hall -/
theorem both_hall {μ : Mm} (hC : CT μ) (hT : MT μ) (hP : HP μ) (x y z w : Int32) : Bh μ (m_TI_hall x y z w) (m_Mo_hall x y z w) := by
  have er : ∀ (v2 v4 v6 : Int32) (c1 : ∀ μ, m_Ty_find x μ = some (some (.int v2), μ) ∧ (MT μ → m_Mo_numberOf x μ = some (some (.int v2), μ))) (c2 : ∀ μ, m_Ty_find y μ = some (some (.int v4), μ) ∧ (MT μ → m_Mo_numberOf y μ = some (some (.int v4), μ))) (c3 : ∀ μ, m_Ty_find z μ = some (some (.int v6), μ) ∧ (MT μ → m_Mo_numberOf z μ = some (some (.int v6), μ))), (decide (v2 < nI 0) = decide (v2 = (-1 : Int32))) → (decide (v4 < nI 0) = decide (v4 = (-1 : Int32))) → (decide (v6 < nI 0) = decide (v6 = (-1 : Int32))) → (v2 = (-1 : Int32) ∨ v4 = (-1 : Int32) ∨ v6 = (-1 : Int32)) → Bh μ (m_TI_hall x y z w) (m_Mo_hall x y z w) := fun v2 v4 v6 c1 c2 c3 d1 d2 d3 h => by
    refine Bh.same hP (r := -9223372036854775808) ?_ ?_
    · rw [e_TI_hall, (c1 μ).1, cI_s, (c2 μ).1, cI_s, (c3 μ).1, cI_s, d1, d2, d3]
      by_cases q1 : v2 = (-1 : Int32)
      · exact bt (decide_eq_true q1)
      · rw [bf (decide_eq_false q1)]
        by_cases q2 : v4 = (-1 : Int32)
        · exact bt (decide_eq_true q2)
        · rw [bf (decide_eq_false q2)]
          exact bt (decide_eq_true (h.elim (fun a => absurd a q1) (fun a => a.elim (fun b => absurd b q2) id)))
    · rw [e_Mo_hall, (c1 μ).2 hT, cI_s, (c2 μ).2 hT, cI_s, (c3 μ).2 hT, cI_s]
      by_cases q1 : v2 = (-1 : Int32)
      · exact bt (decide_eq_true q1)
      · rw [bf (decide_eq_false q1)]
        by_cases q2 : v4 = (-1 : Int32)
        · exact bt (decide_eq_true q2)
        · rw [bf (decide_eq_false q2)]
          exact bt (decide_eq_true (h.elim (fun a => absurd a q1) (fun a => a.elim (fun b => absurd b q2) id)))
  have dn : decide ((-1 : Int32) < nI 0) = decide ((-1 : Int32) = (-1 : Int32)) := by decide
  have dt : ∀ t, t < 19 → decide (nI t < nI 0) = decide (nI t = (-1 : Int32)) := fun t ht => by rw [t_ge ht, d_e1 (by omega)]
  rcases both_find x with ⟨l, hl, hf⟩ | hf
  · rcases both_find y with ⟨m, hm, hg⟩ | hg
    · rcases both_find z with ⟨n, hn, hh⟩ | hh
      · rcases both_isPart w with ⟨hw, w1⟩ | w1
        · obtain ⟨μ1, g1, g2, g3⟩ := s_writeHall k274 n274 (by omega) hl hm hn hC
          have hC1 := hC.fr g2 (fun c a b => by omega) (by omega)
          have hT1 := hT.fr g2 (by omega) (by omega) (by omega)
          have hP1 := hP.fr g2 (by omega) (by omega)
          have s1 := sz_lt hl
          have s2 := sz_lt hm
          have s3 := sz_lt hn
          have c1 : m_TI_hall x y z w μ = some (some (.long (prt (rp (hL m n l)) w)), μ1) := by
            rw [e_TI_hall, (hf μ).1, cI_s, (hg μ).1, cI_s, (hh μ).1, cI_s, bf (t_ge hl), bf (t_ge hm), bf (t_ge hn), (w1 μ).1, cI_s, bf (by decide), g1, cV_s, s_part31 k274 n274 g3 hw, cJ_s]
          have c2 : m_Mo_hall x y z w μ1 = bif decide (sizN m + sizN n = sizN l) then (cV (m_Mo_multiplies (nI m) μ1) fun μ9 => cJ (m_Mo_part 313 (((nI n * (nI 19)) + nI l) * (nI 31)) w μ9) fun v11 μ10 => some (some (.long v11), μ10)) else (bif decide (w = (-1 : Int32)) then (some (some (.long (-5 : Int64)), μ1)) else (some (some (.long (lN 0)), μ1))) := by
            rw [e_Mo_hall, (hf μ1).2 hT1, cI_s, (hg μ1).2 hT1, cI_s, (hh μ1).2 hT1, cI_s, bf (d_e1 (by omega)), bf (d_e1 (by omega)), bf (d_e1 (by omega)), (w1 μ1).2, cI_s, bf (by decide), gi hm (by omega), gi hn (by omega), gi hl (by omega), kl (by omega), kl (by omega), kl (by omega), hT1.2.1 m hm, hT1.2.1 n hn, hT1.2.1 l hl, nI_add, d_eq (by omega) (by omega)]
          by_cases q : sizN m + sizN n = sizN l
          · obtain ⟨μ2, k1, k2, k3, k4, k5⟩ := s_multiplies hm hC1 hT1 hP1
            refine ⟨prt (rp (hL m n l)) w, μ1, μ2, c1, ?_, (g2.w (fun k hk => by omega)).t2 (k2.w (fun k hk => by omega)), fun j hj => ?_, Or.inr ⟨m, hm, k4, k5⟩⟩
            · rw [c2, decide_eq_true q, cond_true, k1, cV_s, nI_mul n 19, nI_add, nI_mul, s_Mo_part (by rw [ln313]; omega) (by rw [ln313]; omega) hw, cJ_s]
              rw [prt_congr (g := rp (hL m n l)) hw (fun j hj => by rw [k5 n hn l hl j hj, if_pos (Nat.zero_le n)])]
            · rw [k3 j hj, (g2 306 (by omega)).1]
          · refine ⟨prt (rp (hL m n l)) w, μ1, μ1, c1, ?_, g2.w (fun k hk => by omega), fun j hj => ?_, hP1⟩
            · have e : hL m n l = [] := if_neg q
              rw [c2, decide_eq_false q, cond_false, e]
              rcases hw with rfl | ⟨k, hk, rfl⟩
              · rw [bt (by decide)]
                unfold prt
                rw [if_pos rfl, degF_congr (g := fun _ => lN 0) 31 (fun j _ => rp_nil j)]
                have : degF (fun _ => lN 0) 31 = (-5 : Int32) := by decide
                rw [this]
                rfl
              · rw [bf (d_e1 (by omega))]
                unfold prt
                rw [if_neg (of_decide_eq_false (d_e1 (by omega))), rp_nil]
            · rw [(g2 306 (by omega)).1]
        · refine Bh.same hP (r := -9223372036854775808) ?_ ?_
          · rw [e_TI_hall, (hf μ).1, cI_s, (hg μ).1, cI_s, (hh μ).1, cI_s, bf (t_ge hl), bf (t_ge hm), bf (t_ge hn), (w1 μ).1, cI_s]
            exact bt (by decide)
          · rw [e_Mo_hall, (hf μ).2 hT, cI_s, (hg μ).2 hT, cI_s, (hh μ).2 hT, cI_s, bf (d_e1 (by omega)), bf (d_e1 (by omega)), bf (d_e1 (by omega)), (w1 μ).2, cI_s]
            exact bt (by decide)
      · exact er _ _ _ hf hg hh (dt l hl) (dt m hm) dn (Or.inr (Or.inr rfl))
    · rcases both_find z with ⟨n, hn, hh⟩ | hh
      · exact er _ _ _ hf hg hh (dt l hl) dn (dt n hn) (Or.inr (Or.inl rfl))
      · exact er _ _ _ hf hg hh (dt l hl) dn dn (Or.inr (Or.inl rfl))
  · rcases both_find y with ⟨m, hm, hg⟩ | hg
    · rcases both_find z with ⟨n, hn, hh⟩ | hh
      · exact er _ _ _ hf hg hh dn (dt m hm) (dt n hn) (Or.inl rfl)
      · exact er _ _ _ hf hg hh dn (dt m hm) dn (Or.inl rfl)
    · rcases both_find z with ⟨n, hn, hh⟩ | hh
      · exact er _ _ _ hf hg hh dn dn (dt n hn) (Or.inl rfl)
      · exact er _ _ _ hf hg hh dn dn dn (Or.inl rfl)
