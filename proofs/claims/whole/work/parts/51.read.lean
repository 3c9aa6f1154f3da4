/-! feed and read: both sides -/
theorem in127 (x : Int32) : (∃ n, n ≤ 127 ∧ x = nI n ∧ decide (x < nI 0) = false ∧ decide (nI 127 < x) = false ∧ ∀ μ, m_Mo_in_JJJ x.toInt64 (lN 0) (lN 127) μ = some (some (.int (nI 1)), μ)) ∨ ((decide (x < nI 0) = true ∨ decide (x < nI 0) = false ∧ decide (nI 127 < x) = true) ∧ ∀ μ, m_Mo_in_JJJ x.toInt64 (lN 0) (lN 127) μ = some (some (.int (nI 0)), μ)) := by
  have e : ∀ μ, m_Mo_in_JJJ x.toInt64 (lN 0) (lN 127) μ = some (some (.int (nI (b2i (!decide (x < nI 0) && !decide (nI 127 < x))))), μ) := fun μ => by
    rw [s_Mo_in, l_lt _ _ (by omega), l_gt _ _ (by omega)]
  rcases i_cases x with hx | ⟨n, hn, rfl⟩
  · refine Or.inr ⟨Or.inl (decide_eq_true hx), fun μ => ?_⟩
    rw [e μ, decide_eq_true hx]
    rfl
  · have d0 : decide (nI n < nI 0) = false := nI_lt0 hn
    by_cases q : n ≤ 127
    · have d1 : decide (nI 127 < nI n) = false := by rw [d_lt (by omega) hn]; exact decide_eq_false (by omega)
      refine Or.inl ⟨n, q, rfl, d0, d1, fun μ => ?_⟩
      rw [e μ, d0, d1]
      rfl
    · have d1 : decide (nI 127 < nI n) = true := by rw [d_lt (by omega) hn]; exact decide_eq_true (by omega)
      refine Or.inr ⟨Or.inr ⟨d0, d1⟩, fun μ => ?_⟩
      rw [e μ, d0, d1]
      rfl
theorem TC.k {c : Nat → Nat} {n : Nat} {S : Nat → Prop} {μ μ' : Mm} (h : TC c n μ) (F : Fr S μ μ') (h1 : ¬ S 69) (h2 : ¬ S 70) : TC c n μ' := by
  unfold TC
  rw [(F 69 h1).1, (F 70 h2).1]
  exact h
theorem TM.k {c : Nat → Nat} {n : Nat} {S : Nat → Prop} {μ μ' : Mm} (h : TM c n μ) (F : Fr S μ μ') (h1 : μ'.1 306 23 = μ.1 306 23) (h2 : ¬ S 322) : TM c n μ' := by
  unfold TM
  rw [h1, (F 322 h2).1]
  exact h
theorem TT_0 : TT (fun _ => 999) 0 := ⟨by omega, fun _ _ => rfl, fun i hi => absurd hi (Nat.not_lt_zero i)⟩
theorem TT.app {c : Nat → Nat} {n v : Nat} (h : TT c n) (hn : n < 40) (hv : v < 128) : TT (fun i => if i = n then v else c i) (n + 1) := by
  refine ⟨by omega, fun i hi => ?_, fun i hi => ?_⟩
  · show (if i = n then v else c i) = 999
    rw [if_neg (by omega)]
    exact h.2.1 i (by omega)
  · show (if i = n then v else c i) < 128
    by_cases q : i = n
    · rw [if_pos q]; exact hv
    · rw [if_neg q]; exact h.2.2 i (by omega)
/-- promise 25: feed -/
theorem both_feed {c : Nat → Nat} {n : Nat} {μ : Mm} (h1 : TC c n μ) (h2 : TM c n μ) (x : Int32) : ∃ (r : Int32) (μ1 μ2 : Mm) (c' : Nat → Nat) (n' : Nat), m_TI_feed x μ = some (some (.int r), μ1) ∧ m_Mo_feed x μ1 = some (some (.int r), μ2) ∧ TC c' n' μ2 ∧ TM c' n' μ2 ∧ Fr (fun k => k = 69 ∨ k = 70 ∨ k = 306 ∨ k = 322) μ μ2 ∧ ∀ j, j ≠ 23 → μ2.1 306 j = μ.1 306 j := by
  have hn := h1.1.1
  rcases in127 x with ⟨v, hv, rfl, e1, e2, e3⟩ | ⟨e1, e3⟩
  · have tk : μ.1 69 1 = nI n := h1.2.1
    by_cases q : n < 40
    · have t0 : m_TI_feed (nI v) μ = some (some (.int (nI (n + 1))), sI (sI μ 70 n (nI v)) 69 1 (nI (n + 1))) := by
        rw [e_TI_feed, bf e1, bf e2, e_Su_takeSign, tk, bf (nI_lt0 (by omega)), bLt q (by omega), gi q (by omega), kl (by omega), gd_h isb_1, show (sI μ 70 n (nI v)).1 69 1 = nI n by rw [sI_o (by omega)]; exact tk, nI_p1, cI_s, bEf (by omega) (by omega) (by omega), e_Su_tapeLength, cI_s, sI_s, up_s]
      obtain ⟨μ1, em⟩ : ∃ z, z = sI (sI μ 70 n (nI v)) 69 1 (nI (n + 1)) := ⟨_, rfl⟩
      rw [← em] at t0
      have m23 : μ1.1 306 23 = nI n := by rw [em, sI_o (by omega), sI_o (by omega)]; exact h2.2.1
      have t1 : m_Mo_feed (nI v) μ1 = some (some (.int (nI (n + 1))), sI (sI μ1 322 n (nI v)) 306 23 (nI (n + 1))) := by
        rw [e_Mo_feed, e3, cI_s, bEf (by omega) (by omega) (by omega), m23, bEf (by omega) (by omega) (by omega), gi q (by omega), kl (by omega), show (sI μ1 322 n (nI v)).1 306 23 = nI n by rw [sI_o (by omega)]; exact m23, nI_p1, sI_s, up_s]
      have F : Fr (fun k => k = 69 ∨ k = 70 ∨ k = 306 ∨ k = 322) μ (sI (sI μ1 322 n (nI v)) 306 23 (nI (n + 1))) := by
        rw [em]
        exact (((Fr.sI (Or.inr (Or.inl rfl))).t2 (Fr.sI (Or.inl rfl))).t2 (Fr.sI (Or.inr (Or.inr (Or.inr rfl))))).t2 (Fr.sI (Or.inr (Or.inr (Or.inl rfl))))
      refine ⟨_, _, _, fun i => if i = n then v else c i, n + 1, t0, t1, ⟨h1.1.app q (by omega), ?_, fun i hi => ?_⟩, ⟨h2.1.app q (by omega), ?_, fun i hi => ?_⟩, F, fun j hj => ?_⟩
      · rw [sI_o (by omega), sI_o (by omega), em, sI_s, up_s]
      · rw [sI_o (by omega), sI_o (by omega), em, sI_o (by omega), sI_s]
        show _ = nI (if i = n then v else c i)
        by_cases z : i = n
        · rw [if_pos z, z, up_s]
        · rw [if_neg z, up_o z]
          exact h1.2.2 i (by omega)
      · rw [sI_s, up_s]
      · rw [sI_o (by omega), sI_s]
        show _ = nI (if i = n then v else c i)
        by_cases z : i = n
        · rw [if_pos z, z, up_s]
        · rw [if_neg z, up_o z, em, sI_o (by omega), sI_o (by omega)]
          exact h2.2.2 i (by omega)
      · rw [sI_s, up_o hj, sI_o (by omega), em, sI_o (by omega), sI_o (by omega)]
    · obtain rfl : n = 40 := by omega
      refine ⟨(-4 : Int32), μ, μ, c, 40, ?_, ?_, h1, h2, Fr.rf, fun _ _ => rfl⟩
      · rw [e_TI_feed, bf e1, bf e2, e_Su_takeSign, tk, bf (nI_lt0 (by omega)), bLf (by omega) (by omega), gd_h isb_0, cI_s, bEt rfl]
      · rw [e_Mo_feed, e3, cI_s, bEf (by omega) (by omega) (by omega), h2.2.1, bEt rfl]
  · refine ⟨(-2 : Int32), μ, μ, c, n, ?_, ?_, h1, h2, Fr.rf, fun _ _ => rfl⟩
    · rw [e_TI_feed]
      rcases e1 with e1 | ⟨e1, e2⟩
      · rw [bt e1]
      · rw [bf e1, bt e2]
    · rw [e_Mo_feed, e3, cI_s, bEt rfl]
theorem s_Mi_termsX {f : Vt} {μ : Mm} (h : MX 244 f μ) : ∀ (g t c : Nat), t + g = 19 → m_Mi_terms_4 244 (nI c) (nI t) μ = some (some (.int (nI (trm f g t c))), μ)
  | 0, t, c, e => by
    obtain rfl : t = 19 := by omega
    rw [e_Mi_terms_4, gd_h (mx1 mx244), mx2 mx244, gd_h (mx3 mx244), mx4 mx244, bLf (by omega) (by omega)]
    rfl
  | g + 1, t, c, e => by
    have ht : t < 19 := by omega
    have hh : (isO 244 3 && (true && true)) = true := by rw [mx1 mx244]; rfl
    rw [e_Mi_terms_4, gd_h (mx1 mx244), mx2 mx244, gd_h (mx3 mx244), mx4 mx244, bLt ht (by omega), gd_h hh, s_Mi_hasTerm mx244 ht, cI_s, b2i_n, nI_p1, nI_p1, hasB_congr (h t ht)]
    show _ = some (some (Value.int (nI (trm f g (t + 1) (if hasB (f t) then c + 1 else c)))), μ)
    cases hasB (f t)
    · exact s_Mi_termsX h g (t + 1) _ (by omega)
    · exact s_Mi_termsX h g (t + 1) _ (by omega)
/-- what reading changes -/
abbrev fRd (k : Nat) : Prop := fLv 0 0 k ∨ fEv k ∨ k = 69 ∨ mS 244 k ∨ k = 327
theorem k1000 : (-1000 : Int32) * nI 1 = (-1000 : Int32) ∧ (-1000 : Int32) * nI 2 = (-2000 : Int32) ∧ (-1000 : Int32) * nI 3 = (-3000 : Int32) := by decide
/-- the class's outcome where something is wrong -/
theorem s_read42 {k x : Nat} (hx : x < 1000) (μ : Mm) : m_TI_read_42 (nI k) (nI x) μ = some (some (.int ((-1000 : Int32) * nI k - nI x)), sI μ 69 1 (nI 0)) := by
  rw [e_TI_read_42, e_Su_emptyTape, cV_s, bf (nI_lt0 (by omega))]
theorem TC.empty {c : Nat → Nat} {n : Nat} {μ : Mm} (h : TC c n μ) : TC (fun _ => 999) 0 (sI μ 69 1 (nI 0)) := ⟨TT_0, by rw [sI_s, up_s], fun i hi => absurd hi (Nat.not_lt_zero i)⟩
theorem TM.empty {c : Nat → Nat} {n : Nat} {μ : Mm} (h : TM c n μ) : TM (fun _ => 999) 0 (sI μ 306 23 (nI 0)) := ⟨TT_0, by rw [sI_s, up_s], fun i hi => absurd hi (Nat.not_lt_zero i)⟩
/-- promise 26: read -/
theorem both_read {c : Nat → Nat} {n : Nat} {f : Vt} {μ : Mm} (hR : RC 246 327 f μ) (hC : CT μ) (hT : MT μ) (hP : HP μ) (h1 : TC c n μ) (h2 : TM c n μ) : ∃ (r : Int32) (μ1 μ2 : Mm) (f' : Vt), m_TI_read μ = some (some (.int r), μ1) ∧ m_Mo_read μ1 = some (some (.int r), μ2) ∧ RC 246 327 f' μ2 ∧ HP μ2 ∧ TC (fun _ => 999) 0 μ2 ∧ TM (fun _ => 999) 0 μ2 ∧ Fr fRd μ μ2 ∧ ∀ j, j ≠ 11 → (j < 23 ∨ 28 < j) → μ2.1 306 j = μ.1 306 j := by
  have hn := h1.1.1
  have hw := w0_le h1.1
  -- where the answer isn't a sum: the reference behind any class memory
  have go0 : ∀ (μ1 : Mm), TM c n μ1 → MT μ1 → ∃ μ2, m_Mo_goes (nI 0) μ1 = some (none, μ2) ∧ (Fr (fun k => k = 306) μ1 μ2 ∧ ∀ j, (j < 24 ∨ 28 < j) → μ2.1 306 j = μ1.1 306 j) ∧ (okW c n → μ2.1 306 25 = nI 0 ∧ μ2.1 306 26 = oc (W0 c).2.2.1 ∧ ∀ b, (W0 c).2.2.1 = some b → b < 1000) ∧ (¬ okW c n → μ2.1 306 25 = nI 1 ∧ μ2.1 306 24 = nI (W0 c).1) := fun μ1 a b => s_goes0 a b
  have fin : ∀ (r : Int32) (μ1 μ2 : Mm) (S : Nat → Prop), m_TI_read μ = some (some (.int r), μ1) → m_Mo_read μ1 = some (some (.int r), sI μ2 306 23 (nI 0)) → TC (fun _ => 999) 0 μ1 → (∀ k, S k → fRd k ∧ (k < 246 ∨ 265 ≤ k) ∧ k ≠ 327) → Fr S μ μ2 → μ2.1 69 = μ1.1 69 → (∀ j, j ≠ 11 → (j < 24 ∨ 28 < j) → μ2.1 306 j = μ.1 306 j) → HP μ2 → ∃ (r : Int32) (μ1 μ2 : Mm) (f' : Vt), m_TI_read μ = some (some (.int r), μ1) ∧ m_Mo_read μ1 = some (some (.int r), μ2) ∧ RC 246 327 f' μ2 ∧ HP μ2 ∧ TC (fun _ => 999) 0 μ2 ∧ TM (fun _ => 999) 0 μ2 ∧ Fr fRd μ μ2 ∧ ∀ j, j ≠ 11 → (j < 23 ∨ 28 < j) → μ2.1 306 j = μ.1 306 j := by
    intro r μ1 μ2 S a1 a2 a3 a4 a5 a6 a7 a8
    have F : Fr (fun k => S k ∨ k = 306) μ (sI μ2 306 23 (nI 0)) := (a5.w (fun k hk => Or.inl hk)).t2 (Fr.sI (Or.inr rfl))
    have n69 : (sI μ2 306 23 (nI 0)).1 69 = μ1.1 69 := by rw [sI_o (by omega)]; exact a6
    refine ⟨r, μ1, sI μ2 306 23 (nI 0), f, a1, a2, hR.fr F (fun k x y z => ?_) (fun z => ?_), ?_, ⟨TT_0, by rw [n69]; exact a3.2.1, fun i hi => absurd hi (Nat.not_lt_zero i)⟩, ⟨TT_0, by rw [sI_s, up_s], fun i hi => absurd hi (Nat.not_lt_zero i)⟩, F.w (fun k hk => hk.elim (fun z => (a4 k z).1) (fun z => Or.inr (Or.inl (Or.inl (Or.inr (Or.inr (Or.inl z))))))), fun j j1 j2 => ?_⟩
    · rcases z with z | z
      · have := (a4 k z).2.1
        omega
      · omega
    · rcases z with z | z
      · exact (a4 327 z).2.2 rfl
      · omega
    · have := a8
      unfold HP at this ⊢
      rw [sI_s, up_o (by omega)]
      exact this
    · rw [sI_s, up_o (by omega), a7 j j1 (by omega)]
  rcases s_wrongSign h1 with ⟨ok, ws⟩ | ⟨no, ws⟩
  · have wt := s_wrongType h1 ok
    cases hb : (W0 c).2.2.1 with
    | some b =>
      obtain ⟨μg, -, -, gb, -⟩ := go0 μ h2 hT
      have bl : b < 1000 := (gb ok).2.2 b hb
      rw [hb, oc_s] at wt
      have t0 : m_TI_read μ = some (some (.int ((-1000 : Int32) * nI 2 - nI b)), sI μ 69 1 (nI 0)) := by
        rw [e_TI_read, ws, cI_s, bt d_neg, wt, cI_s, bf (nI_lt0 (by omega)), s_read42 bl]
      have F1 : Fr (fun k => k = 69) μ (sI μ 69 1 (nI 0)) := Fr.sI rfl
      have h2' : TM c n (sI μ 69 1 (nI 0)) := h2.k F1 (by rw [sI_o (by omega)]) (by omega)
      have hT' : MT (sI μ 69 1 (nI 0)) := hT.fr F1 (by omega) (by omega) (by omega)
      obtain ⟨μ2, g1, ⟨g2, g3⟩, g4, -⟩ := go0 _ h2' hT'
      obtain ⟨g5, g6, -⟩ := g4 ok
      rw [hb, oc_s] at g6
      refine fin _ _ μ2 (fun k => k = 69 ∨ k = 306) t0 ?_ h1.empty (fun k hk => ⟨hk.elim (fun z => Or.inr (Or.inr (Or.inl z))) (fun z => Or.inr (Or.inl (Or.inl (Or.inr (Or.inr (Or.inl z)))))), by omega, by omega⟩) ((F1.w (fun k hk => Or.inl hk)).t2 (g2.w (fun k hk => Or.inr hk))) (g2 69 (by omega)).1 (fun j _ j2 => by rw [g3 j j2, sI_o (by omega)]) ?_
      · rw [e_Mo_read, g1, cV_s, g5, bEt rfl, g6, bf (d_e1 (by omega)), show (sI μ2 306 23 (nI 0)).1 306 25 = nI 0 by rw [sI_s, up_o (by omega)]; exact g5, bEt rfl, show (sI μ2 306 23 (nI 0)).1 306 26 = nI b by rw [sI_s, up_o (by omega)]; exact g6, k1000.2.1]
      · have h := hP
        unfold HP PR at h ⊢
        rw [g3 11 (by omega), sI_o (by omega), (g2 313 (by omega)).2]
        exact h
    | none =>
      rw [hb, oc_n] at wt
      obtain ⟨pA, pB⟩ := s_wrongProduct ⟨h1, hC⟩ ok hb
      have t0 : ∀ v μ7, m_Su_wrongProduct μ = some (some (.int v), μ7) → m_TI_read μ = m_TI_read_42 (nI 3) v μ7 := fun v μ7 e => by
        rw [e_TI_read, ws, cI_s, bt d_neg, wt, cI_s, bt d_neg, e, cI_s]
      cases hx : (W0 c).2.2.2.1 with
      | some x =>
        obtain ⟨xl, μa, p1, p2⟩ := pA x hx
        have t1 : m_TI_read μ = some (some (.int ((-1000 : Int32) * nI 3 - nI x)), sI μa 69 1 (nI 0)) := by rw [t0 _ _ p1, s_read42 xl]
        have F1 : Fr (fun k => fLv 0 0 k ∨ k = 69) μ (sI μa 69 1 (nI 0)) := (p2.1.w (fun k hk => Or.inl hk)).t2 (Fr.sI (Or.inr rfl))
        have h1a : TC c n μa := (CI.fl ⟨h1, hC⟩ p2).1
        have h2' : TM c n (sI μa 69 1 (nI 0)) := h2.k F1 (by rw [(F1 306 (by omega)).1]) (by omega)
        have hT' : MT (sI μa 69 1 (nI 0)) := hT.fr F1 (by omega) (by omega) (by omega)
        have hC' : CT (sI μa 69 1 (nI 0)) := hC.fr F1 (fun k x y => by omega) (by omega)
        have hP' : HP (sI μa 69 1 (nI 0)) := hP.fr F1 (by omega) (by omega)
        obtain ⟨μ2, g1, ⟨g2, g3⟩, g4, -⟩ := go0 _ h2' hT'
        obtain ⟨g5, g6, -⟩ := g4 ok
        rw [hb, oc_n] at g6
        have hP2 : HP μ2 := by
          have h := hP'
          unfold HP PR at h ⊢
          rw [g3 11 (by omega), (g2 313 (by omega)).2]
          exact h
        obtain ⟨μ3, m1, ⟨m2, m3⟩, m4, m5, m6, m7⟩ := s_goes1 (h2'.k g2 (g3 23 (by omega)) (by omega)) (hT'.fr g2 (by omega) (by omega) (by omega)) (hC'.fr g2 (fun k x y => by omega) (by omega)) hP2 ok hb
        rw [hx, oc_s] at m5
        refine fin _ _ μ3 (fun k => fLv 0 0 k ∨ k = 69 ∨ fEv k) t1 ?_ h1a.empty (fun k hk => ⟨hk.elim (fun z => Or.inl z) (fun z => z.elim (fun z => Or.inr (Or.inr (Or.inl z))) (fun z => Or.inr (Or.inl z))), by omega, by omega⟩) (((F1.w (fun k hk => by omega)).t2 (g2.w (fun k hk => by omega))).t2 (m2.w (fun k hk => by omega))) (by rw [(m2 69 (by omega)).1, (g2 69 (by omega)).1]) (fun j j1 j2 => by rw [m3 j j1 j2, g3 j j2, (F1 306 (by omega)).1]) m4
        rw [e_Mo_read, g1, cV_s, g5, bEt rfl, g6, bt (by decide), m1, cV_s, show (sI μ3 306 23 (nI 0)).1 306 27 = nI x by rw [sI_s, up_o (by omega)]; exact m5, bf (d_e1 (by omega)), k1000.2.2]
      | none =>
        obtain ⟨μa, p1, p2, p3⟩ := pB hx
        obtain ⟨μb, c1, c2, c3⟩ := s_Mi_copyFrom mx244 (pt_ok 0 (by omega)).1.2 (show 244 + 21 ≤ tC 0 ∨ tC 0 + 21 ≤ 244 from Or.inr (by decide)) (sI μa 69 1 (nI 0))
        have hb244 : MX 244 (W0 c).2.2.2.2 μb := c3.ext (fun t ht j hj => p3 t ht j hj)
        have t1 : m_TI_read μ = some (some (.int (nI (trm (W0 c).2.2.2.2 19 0 0))), μb) := by
          rw [t0 _ _ p1, e_TI_read_42, e_Su_emptyTape, cV_s, bt d_neg, e_Su_outcome, gi (by omega) (by omega), kl (by omega), (pt_ok 0 (by omega)).2.1, cA_s, c1, cV_s, e_Mi_terms, s_Mi_termsX hb244 19 0 0 rfl, cI_s]
        have F0 : Fr (fun k => fLv 0 0 k ∨ k = 69 ∨ mS 244 k) μ μa := p2.1.w (fun k hk => Or.inl hk)
        have F01 : Fr (fun k => fLv 0 0 k ∨ k = 69 ∨ mS 244 k) μa (sI μa 69 1 (nI 0)) := Fr.sI (Or.inr (Or.inl rfl))
        have F02 : Fr (fun k => fLv 0 0 k ∨ k = 69 ∨ mS 244 k) (sI μa 69 1 (nI 0)) μb := c2.w (fun k hk => Or.inr (Or.inr hk))
        have F1 : Fr (fun k => fLv 0 0 k ∨ k = 69 ∨ mS 244 k) μ μb := (F0.t2 F01).t2 F02
        have h2' : TM c n μb := h2.k F1 (by rw [(F1 306 (by omega)).1]) (by omega)
        have hT' : MT μb := hT.fr F1 (by omega) (by omega) (by omega)
        have hC' : CT μb := hC.fr F1 (fun k x y => by omega) (by omega)
        have hP' : HP μb := hP.fr F1 (by omega) (by omega)
        obtain ⟨μ2, g1, ⟨g2, g3⟩, g4, -⟩ := go0 _ h2' hT'
        obtain ⟨g5, g6, -⟩ := g4 ok
        rw [hb, oc_n] at g6
        have hP2 : HP μ2 := by
          have h := hP'
          unfold HP PR at h ⊢
          rw [g3 11 (by omega), (g2 313 (by omega)).2]
          exact h
        obtain ⟨μ3, m1, ⟨m2, m3⟩, m4, m5, m6, m7⟩ := s_goes1 (h2'.k g2 (g3 23 (by omega)) (by omega)) (hT'.fr g2 (by omega) (by omega) (by omega)) (hC'.fr g2 (fun k x y => by omega) (by omega)) hP2 ok hb
        rw [hx, oc_n] at m5
        have m7 := m7 hx
        obtain ⟨μ4, em⟩ : ∃ z, z = sI μ3 306 23 (nI 0) := ⟨_, rfl⟩
        have cp : m_Mo_read_81 (nI 0) μ4 = (cI (m_Mo_terms (wL μ4 327 (rowL 0 589 (fun i _ => μ4.2 323 i) (μ4.2 327)))) fun v2 μ1 => some (some (.int v2), μ1)) :=
          lp_L (L := fun i m => m_Mo_read_81 (nI i) m) (K := fun m => cI (m_Mo_terms m) fun v2 μ1 => some (some (.int v2), μ1)) 327 0 589 (fun i _ => μ4.2 323 i) (fun i F hi hF => by
            show m_Mo_read_81 _ _ = m_Mo_read_81 _ _
            rw [e_Mo_read_81, bLt hi (by omega), gi (by omega) (by omega), gi hi (by omega), kl (by omega), nI_p1, wL_u, wL_o (by omega), Nat.zero_add]) (fun F => by
            show m_Mo_read_81 _ _ = _
            rw [e_Mo_read_81, bLf (by omega) (by omega)])
        obtain ⟨μ5, em5⟩ : ∃ z, z = wL μ4 327 (rowL 0 589 (fun i _ => μ4.2 323 i) (μ4.2 327)) := ⟨_, rfl⟩
        rw [← em5] at cp
        have G : Fr (fun k => fLv 0 0 k ∨ k = 69 ∨ mS 244 k ∨ fEv k ∨ k = 327) μ μ5 := by
          rw [em5, em]
          exact ((((F1.w (fun k hk => by omega)).t2 (g2.w (fun k hk => by omega))).t2 (m2.w (fun k hk => by omega))).t2 (Fr.sI (by omega))).t2 (Fr.wL (by omega))
        have b246 : ∀ t, t < 19 → μ5.2 (246 + t) = μb.2 (246 + t) := fun t ht => by
          rw [em5, wL_o (by omega), em]
          show μ3.2 (246 + t) = _
          rw [(m2 (246 + t) (by omega)).2, (g2 (246 + t) (by omega)).2]
        have R5 : RC 246 327 (W0 c).2.2.2.2 μ5 := fun t ht k hk => by
          refine ⟨?_, ?_⟩
          · rw [b246 t ht]
            exact hb244 t ht k hk
          · rw [em5, wL_s, rowL0 (by omega)]
            have := m7 t ht k hk
            rw [Nat.zero_add, Nat.mul_comm] at this
            rw [em]
            exact this
        refine ⟨_, μb, μ5, (W0 c).2.2.2.2, t1, ?_, R5, ?_, ?_, ?_, G.w (fun k hk => by omega), fun j j1 j2 => ?_⟩
        · rw [e_Mo_read, g1, cV_s, g5, bEt rfl, g6, bt (by decide), m1, cV_s, ← em, show μ4.1 306 27 = (-1 : Int32) by rw [em, sI_s, up_o (by omega)]; exact m5, bt (by decide), cp, s_Mo_terms R5, cI_s]
        · have h := m4
          unfold HP PR at h ⊢
          rw [em5, em, show (wL (sI μ3 306 23 (nI 0)) 327 (rowL 0 589 (fun i _ => (sI μ3 306 23 (nI 0)).2 323 i) ((sI μ3 306 23 (nI 0)).2 327))).1 306 11 = μ3.1 306 11 by show (sI μ3 306 23 (nI 0)).1 306 11 = _; rw [sI_s, up_o (by omega)], wL_o (by omega)]
          exact h
        · refine ⟨TT_0, ?_, fun i hi => absurd hi (Nat.not_lt_zero i)⟩
          rw [em5, em]
          show (sI μ3 306 23 (nI 0)).1 69 1 = nI 0
          rw [sI_o (by omega), (m2 69 (by omega)).1, (g2 69 (by omega)).1, (c2 69 (by omega)).1, sI_s, up_s]
        · refine ⟨TT_0, ?_, fun i hi => absurd hi (Nat.not_lt_zero i)⟩
          rw [em5, em]
          show (sI μ3 306 23 (nI 0)).1 306 23 = nI 0
          rw [sI_s, up_s]
        · rw [em5, em]
          show (sI μ3 306 23 (nI 0)).1 306 j = _
          rw [sI_s, up_o (by omega), m3 j j1 (by omega), g3 j (by omega), (F1 306 (by omega)).1]
  · have t0 : m_TI_read μ = some (some (.int ((-1000 : Int32) * nI 1 - nI (W0 c).1)), sI μ 69 1 (nI 0)) := by
      rw [e_TI_read, ws, cI_s, bf (nI_lt0 (by omega)), bf (nI_lt0 (by omega)), s_read42 (by omega)]
    have F1 : Fr (fun k => k = 69) μ (sI μ 69 1 (nI 0)) := Fr.sI rfl
    have h2' : TM c n (sI μ 69 1 (nI 0)) := h2.k F1 (by rw [sI_o (by omega)]) (by omega)
    have hT' : MT (sI μ 69 1 (nI 0)) := hT.fr F1 (by omega) (by omega) (by omega)
    obtain ⟨μ2, g1, ⟨g2, g3⟩, -, g4⟩ := go0 _ h2' hT'
    obtain ⟨g5, g6⟩ := g4 no
    refine fin _ _ μ2 (fun k => k = 69 ∨ k = 306) t0 ?_ h1.empty (fun k hk => ⟨hk.elim (fun z => Or.inr (Or.inr (Or.inl z))) (fun z => Or.inr (Or.inl (Or.inl (Or.inr (Or.inr (Or.inl z)))))), by omega, by omega⟩) ((F1.w (fun k hk => Or.inl hk)).t2 (g2.w (fun k hk => Or.inr hk))) (g2 69 (by omega)).1 (fun j _ j2 => by rw [g3 j j2, sI_o (by omega)]) ?_
    · rw [e_Mo_read, g1, cV_s, g5, bEf (by omega) (by omega) (by omega), show (sI μ2 306 23 (nI 0)).1 306 25 = nI 1 by rw [sI_s, up_o (by omega)]; exact g5, bEf (by omega) (by omega) (by omega), show (sI μ2 306 23 (nI 0)).1 306 24 = nI (W0 c).1 by rw [sI_s, up_o (by omega)]; exact g6, k1000.1]
    · have h := hP
      unfold HP PR at h ⊢
      rw [g3 11 (by omega), sI_o (by omega), (g2 313 (by omega)).2]
      exact h
