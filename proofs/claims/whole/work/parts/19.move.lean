/-! shelves: all, move -/
def suitN (v : Sv) (s m : Nat) : Bool := decide ((v s).1 = 4) || decide ((v s).1 = kndN m + 1)
theorem svP_12 {v : Sv} {s n z a : Nat} : (svP v s n z a).1 = (v a).1 ∧ (svP v s n z a).2.1 = (v a).2.1 := by
  unfold svP
  by_cases q : a = s
  · rw [if_pos q, q]; exact ⟨rfl, rfl⟩
  · rw [if_neg q]; exact ⟨rfl, rfl⟩
/-- all types in t, from m on, come to shelf s from place c on -/
def allF (t s : Nat) : Nat → Nat → Nat → Sv → Nat × Sv
  | 0, _, c, v => (c, v)
  | f + 1, m, c, v => if c < (v s).2.1 ∧ liesN m t = true ∧ suitN v s m = true then allF t s f (m + 1) (c + 1) (svP v s c (m + 1)) else allF t s f (m + 1) c v
theorem s_hasPlace_n {v : Sv} {μ : Mm} {s : Nat} (hV : VS v) (h : SC 266 v μ) (hs : s < 4) {c : Nat} (hc : c < 2 ^ 31) : m_Sh_hasPlace (266 + 2 * s) (nI c) μ = some (some (.int (nI (b2i (decide (c < (v s).2.1))))), μ) := by
  have hw := (hV s hs).2.1
  rw [e_Sh_hasPlace, bf (nI_lt0 hc), gd_h (shf hs).1, (h s hs).2.1, d_lt hc (by omega)]
  cases decide (c < (v s).2.1)
  · exact gd_h isb_0
  · exact gd_h isb_1
theorem s_TI_all_39 {t s : Nat} (ht : t < 19) (hs : s < 4) : ∀ (f m c : Nat) (v : Sv) (μ : Mm), m + f = 19 → c ≤ 20 → VS v → SC 266 v μ → ∃ μ', m_TI_all_39 (266 + 2 * s) (nI t) (nI c) (nI m) μ = some (some (.int (nI (allF t s f m c v).1)), μ') ∧ VS (allF t s f m c v).2 ∧ SC 266 (allF t s f m c v).2 μ' ∧ Fr (fun k => 266 ≤ k ∧ k < 274) μ μ'
  | 0, m, c, v, μ, h, hc, hV, hC => by
    obtain rfl : m = 19 := by omega
    refine ⟨μ, ?_, hV, hC, Fr.rf⟩
    rw [e_TI_all_39, bf (by rw [d_lt (by omega) (by omega)]; exact decide_eq_false (by omega))]
    rfl
  | f + 1, m, c, v, μ, h, hc, hV, hC => by
    have hw := (hV s hs).2.1
    have e0 : m_TI_all_39 (266 + 2 * s) (nI t) (nI c) (nI m) μ = (bif decide (c < (v s).2.1) && (liesN m t && suitN v s m) then m_TI_all_39 (266 + 2 * s) (nI t) (nI (c + 1)) (nI (m + 1)) (sI μ (266 + 2 * s + 1) c (nI m)) else m_TI_all_39 (266 + 2 * s) (nI t) (nI c) (nI (m + 1)) μ) := by
      rw [e_TI_all_39, bt (t_lt (by omega)), gd_h (isT hs), s_hasPlace_n hV hC hs (by omega), cI_s, b2i_n, s_Ty_lies (by omega) ht, cI_s, b2i_n, gd_h (isT hs), s_Sh_suits hV hC hs (by omega), cI_s, b2i_n, gd_h (isT hs), nI_p1, nI_p1]
      show _ = (bif decide (c < (v s).2.1) && (liesN m t && (decide ((v s).1 = 4) || decide ((v s).1 = kndN m + 1))) then _ else _)
      by_cases q1 : c < (v s).2.1
      · rw [decide_eq_true q1, s_Sh_write hs (by omega), cV_s]
        cases liesN m t
        · rfl
        · cases (decide ((v s).1 = 4) || decide ((v s).1 = kndN m + 1)) <;> rfl
      · rw [decide_eq_false q1]
        rfl
    by_cases q : c < (v s).2.1 ∧ liesN m t = true ∧ suitN v s m = true
    · have e1 : allF t s (f + 1) m c v = allF t s f (m + 1) (c + 1) (svP v s c (m + 1)) := if_pos q
      have hC1 := hC.put (s := s) (n := c) (z := m + 1) hs
      rw [cod_s] at hC1
      obtain ⟨μ', h1, h2, h3, h4⟩ := s_TI_all_39 ht hs f (m + 1) (c + 1) (svP v s c (m + 1)) (sI μ (266 + 2 * s + 1) c (nI m)) (by omega) (by omega) (hV.put (by omega)) hC1
      rw [e1]
      refine ⟨μ', ?_, h2, h3, (Fr.sI (S := fun k => 266 ≤ k ∧ k < 274) (by omega)).t2 h4⟩
      rw [e0, decide_eq_true q.1, q.2.1, q.2.2]
      exact h1
    · have e1 : allF t s (f + 1) m c v = allF t s f (m + 1) c v := if_neg q
      obtain ⟨μ', h1, h2, h3, h4⟩ := s_TI_all_39 ht hs f (m + 1) c v μ (by omega) hc hV hC
      rw [e1]
      refine ⟨μ', ?_, h2, h3, h4⟩
      rw [e0, bf ?_]
      · exact h1
      · rw [Bool.eq_false_iff]
        intro z
        obtain ⟨z1, z2⟩ := Bool.and_eq_true_iff.mp z
        obtain ⟨z2, z3⟩ := Bool.and_eq_true_iff.mp z2
        exact q ⟨of_decide_eq_true z1, z2, z3⟩
theorem s_Mo_all_37 {t s : Nat} (ht : t < 19) (hs : s < 4) : ∀ (f m c : Nat) (v : Sv) (μ : Mm), m + f = 19 → MT μ → c ≤ (v s).2.1 → VS v → SM 328 329 330 v μ → ∃ μ', m_Mo_all_37 (nI s) (nI t) (nI c) (nI m) μ = some (some (.int (nI (allF t s f m c v).1)), μ') ∧ SM 328 329 330 (allF t s f m c v).2 μ' ∧ Fr (fun k => k = 330) μ μ'
  | 0, m, c, v, μ, h, hT, hc, hV, hM => by
    obtain rfl : m = 19 := by omega
    refine ⟨μ, ?_, hM, Fr.rf⟩
    rw [e_Mo_all_37, bf (by rw [d_lt (by omega) (by omega)]; exact decide_eq_false (by omega))]
    rfl
  | f + 1, m, c, v, μ, h, hT, hc, hV, hM => by
    have hw := (hV s hs).2.1
    have e0 : m_Mo_all_37 (nI s) (nI t) (nI c) (nI m) μ = (bif decide (c < (v s).2.1) && (liesN m t && suitN v s m) then m_Mo_all_37 (nI s) (nI t) (nI (c + 1)) (nI (m + 1)) (sI μ 330 (20 * s + c) (nI (m + 1))) else m_Mo_all_37 (nI s) (nI t) (nI c) (nI (m + 1)) μ) := by
      rw [e_Mo_all_37, bt (t_lt (by omega)), gd_h (inb_n hs (by omega)), nI_clamp (by omega), (hM s hs).2.1, d_eq (by omega) (by omega), s_Mo_isIn hT (by omega) ht, cI_s, b2i_n, s_Mo_isTaken hT hV hM hs (by omega), cI_s, b2i_n, nI_p1, nI_p1, nI_mul, nI_add]
      show _ = (bif decide (c < (v s).2.1) && (liesN m t && (decide ((v s).1 = 4) || decide ((v s).1 = kndN m + 1))) then _ else _)
      by_cases q1 : c < (v s).2.1
      · rw [decide_eq_true q1, decide_eq_false (show ¬ c = (v s).2.1 by omega), gd_h (inb_n (by omega) (by omega)), nI_clamp (by omega)]
        cases liesN m t
        · rfl
        · cases (decide ((v s).1 = 4) || decide ((v s).1 = kndN m + 1)) <;> rfl
      · rw [decide_eq_false q1, decide_eq_true (show c = (v s).2.1 by omega)]
        rfl
    by_cases q : c < (v s).2.1 ∧ liesN m t = true ∧ suitN v s m = true
    · have e1 : allF t s (f + 1) m c v = allF t s f (m + 1) (c + 1) (svP v s c (m + 1)) := if_pos q
      have f1 : Fr (fun k => k = 330) μ (sI μ 330 (20 * s + c) (nI (m + 1))) := Fr.sI rfl
      obtain ⟨μ', h1, h3, h4⟩ := s_Mo_all_37 ht hs f (m + 1) (c + 1) (svP v s c (m + 1)) (sI μ 330 (20 * s + c) (nI (m + 1))) (by omega) (hT.fr f1 (by omega) (by omega) (by omega)) (by rw [svP_12.2]; omega) (hV.put (by omega)) (SM.put hV hM hs (by omega))
      rw [e1]
      refine ⟨μ', ?_, h3, f1.t2 h4⟩
      rw [e0, decide_eq_true q.1, q.2.1, q.2.2]
      exact h1
    · have e1 : allF t s (f + 1) m c v = allF t s f (m + 1) c v := if_neg q
      obtain ⟨μ', h1, h3, h4⟩ := s_Mo_all_37 ht hs f (m + 1) c v μ (by omega) hT hc hV hM
      rw [e1]
      refine ⟨μ', ?_, h3, h4⟩
      rw [e0, bf ?_]
      · exact h1
      · rw [Bool.eq_false_iff]
        intro z
        obtain ⟨z1, z2⟩ := Bool.and_eq_true_iff.mp z
        obtain ⟨z2, z3⟩ := Bool.and_eq_true_iff.mp z2
        exact q ⟨of_decide_eq_true z1, z2, z3⟩
/-- promise 33: all -/
theorem both_all {v : Sv} {μ : Mm} (hT : MT μ) (hV : VS v) (hC : SC 266 v μ) (hM : SM 328 329 330 v μ) (x y : Int32) : Bo v μ (m_TI_all x y) (m_Mo_all x y) := by
  rcases both_ix x with ⟨s, hs, rfl, hx⟩ | hx
  · rcases both_find y with ⟨t, ht, hf⟩ | hf
    · by_cases q : (v s).1 = 0
      · refine Bo.same (r := (-11 : Int32)) hV hC hM ?_ ?_
        · rw [e_TI_all, (hx μ).1, cN_s, (hf μ).1, cI_s, bf (t_ge ht), gd_h (isT hs), s_Sh_holds hV hC hs, cI_s, b2i_n, decide_eq_true q]
          rfl
        · rw [e_Mo_all, (hf μ).2 hT, cI_s, (hx μ).2, cI_s, bf (by decide), bf (d_e1 (by omega)), s_Mo_holds hV hM hs, cI_s, b2i_n, decide_eq_true q]
          rfl
      · obtain ⟨μ1, h1, h2, h3, h4⟩ := s_TI_all_39 ht hs 19 0 0 v μ rfl (by omega) hV hC
        have hT1 := hT.fr h4 (by omega) (by omega) (by omega)
        have hM1 := hM.fr h4 (by omega) (by omega) (by omega)
        obtain ⟨μ2, k1, k2, k3⟩ := s_Mo_all_37 ht hs 19 0 0 v μ1 rfl hT1 (Nat.zero_le _) hV hM1
        refine ⟨nI (allF t s 19 0 0 v).1, μ1, μ2, (allF t s 19 0 0 v).2, ?_, ?_, h2, h3.fr k3 (fun k a b => by omega), k2, ?_⟩
        · rw [e_TI_all, (hx μ).1, cN_s, (hf μ).1, cI_s, bf (t_ge ht), gd_h (isT hs), s_Sh_holds hV hC hs, cI_s, b2i_n, decide_eq_false q, Bool.not_false, Bool.not_true, cond_false]
          exact h1
        · rw [e_Mo_all, (hf μ1).2 hT1, cI_s, (hx μ1).2, cI_s, bf (by decide), bf (d_e1 (by omega)), s_Mo_holds hV hM1 hs, cI_s, b2i_n, decide_eq_false q, Bool.not_false, Bool.not_true, cond_false]
          exact k1
        · exact (h4.w (fun k h => Or.inl h)).t2 (k3.w (fun k h => Or.inr (Or.inr (by omega))))
    · refine Bo.same (r := (-1 : Int32)) hV hC hM ?_ ?_
      · rw [e_TI_all, (hx μ).1, cN_s, (hf μ).1, cI_s]
        exact bt d_neg
      · rw [e_Mo_all, (hf μ).2 hT, cI_s, (hx μ).2, cI_s, bf (by decide)]
        exact bt neg1
  · refine Bo.same (r := (-1 : Int32)) hV hC hM ?_ ?_
    · rw [e_TI_all, (hx μ).1, cN_n]
      rcases both_find y with ⟨t, ht, hf⟩ | hf
      · rw [(hf μ).1, cI_s]
      · rw [(hf μ).1, cI_s]
    · rcases both_find y with ⟨t, ht, hf⟩ | hf
      · rw [e_Mo_all, (hf μ).2 hT, cI_s, (hx μ).2, cI_s]
        exact bt (by decide)
      · rw [e_Mo_all, (hf μ).2 hT, cI_s, (hx μ).2, cI_s]
        exact bt (by decide)
