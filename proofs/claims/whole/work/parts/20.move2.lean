/-! shelves: move; how many hold a row -/
theorem lN_ltb {a b : Nat} (ha : a < 2 ^ 63) (hb : b < 2 ^ 63) : decide (lN a < lN b) = decide (a < b) := by
  by_cases h : a < b
  · rw [decide_eq_true h]
    apply decide_eq_true
    rw [Int64.lt_iff_toInt_lt]
    show (Int64.ofNat a).toInt < (Int64.ofNat b).toInt
    rw [Int64.toInt_ofNat_of_lt ha, Int64.toInt_ofNat_of_lt hb]
    omega
  · rw [decide_eq_false h]
    apply decide_eq_false
    rw [Int64.lt_iff_toInt_lt]
    show ¬ (Int64.ofNat a).toInt < (Int64.ofNat b).toInt
    rw [Int64.toInt_ofNat_of_lt ha, Int64.toInt_ofNat_of_lt hb]
    omega
/-- n places from i on, of w -/
def fitsN (w : Nat) (x n : Int32) : Bool := !decide (x < nI 0) && (!decide (n < nI 0) && !decide (nI 0 < lg_cmp (x.toInt64 + n.toInt64) (nI w).toInt64))
theorem fits_n {w i n : Nat} (hw : w ≤ 20) (hi : i < 2 ^ 31) (hn : n < 2 ^ 31) : fitsN w (nI i) (nI n) = decide (i + n ≤ w) := by
  unfold fitsN
  rw [nI_lt0 hi, nI_lt0 hn, lgc_gt, nI_l hi, nI_l hn, nI_l (by omega), lN_add, lN_ltb (by omega) (by omega)]
  by_cases q : i + n ≤ w
  · rw [decide_eq_true q, decide_eq_false (by omega)]; rfl
  · rw [decide_eq_false q, decide_eq_true (by omega)]; rfl
theorem fits_e {w : Nat} {x y : Int32} (hw : w ≤ 20) (h : fitsN w x y = true) : ∃ i n, x = nI i ∧ y = nI n ∧ i + n ≤ w := by
  rcases i_cases x with hx | ⟨i, hi, rfl⟩
  · unfold fitsN at h; rw [decide_eq_true hx] at h; cases h
  · rcases i_cases y with hy | ⟨n, hn, rfl⟩
    · unfold fitsN at h; rw [decide_eq_true hy, nI_lt0 hi] at h; cases h
    · rw [fits_n hw hi hn] at h
      exact ⟨i, n, rfl, rfl, of_decide_eq_true h⟩
theorem s_Sh_hasPlaces {v : Sv} {μ : Mm} {s : Nat} (h : SC 266 v μ) (hs : s < 4) (x y : Int32) : m_Sh_hasPlaces (266 + 2 * s) x y μ = some (some (.int (nI (b2i (fitsN (v s).2.1 x y)))), μ) := by
  rw [e_Sh_hasPlaces, gd_h (shf hs).1, (h s hs).2.1]
  unfold fitsN
  cases decide (x < nI 0)
  · cases decide (y < nI 0)
    · cases decide (nI 0 < lg_cmp (x.toInt64 + y.toInt64) (nI (v s).2.1).toInt64)
      · exact gd_h isb_1
      · exact gd_h isb_0
    · exact gd_h isb_0
  · exact gd_h isb_0
/-- the class's carrying: cell 275 -/
theorem s_TI_move_74 {s o i j n : Nat} (hs : s < 4) (hin : i + n ≤ 20) : ∀ (f k : Nat) (μ : Mm), k + f = n → ∃ g, m_TI_move_74 (nI i) (nI j) (nI n) (266 + 2 * s) (266 + 2 * o) (nI k) μ = m_TI_move_116 (nI j) (nI n) (266 + 2 * o) (nI 0) (sR μ 275 g) ∧ (∀ a, k ≤ a → a < n → g a = μ.1 (266 + 2 * s + 1) (i + a)) ∧ ∀ a, a < k → g a = μ.1 275 a
  | 0, k, μ, h => by
    obtain rfl : k = n := by omega
    refine ⟨μ.1 275, ?_, fun a x y => absurd x (by omega), fun _ _ => rfl⟩
    rw [e_TI_move_74, bf (by rw [d_lt (by omega) (by omega)]; exact decide_eq_false (by omega)), sR_id]
  | f + 1, k, μ, h => by
    obtain ⟨g, h1, h2, h3⟩ := s_TI_move_74 (o := o) (j := j) hs hin f (k + 1) (sI μ 275 k (μ.1 (266 + 2 * s + 1) (i + k))) (by omega)
    refine ⟨g, ?_, fun a x y => ?_, fun a x => ?_⟩
    · rw [e_TI_move_74, bt (by rw [d_lt (by omega) (by omega)]; exact decide_eq_true (by omega)), bt (by rw [d_lt (by omega) (by omega)]; exact decide_eq_true (by omega)), gd_h (isT hs), nI_add, s_Sh_typeAt hs (by omega), cI_s, gd_h (inb_n (by omega) (by omega)), nI_p1, nI_clamp (by omega), h1, sI_e, sR_w]
    · by_cases q : a = k
      · rw [h3 a (by omega), sI_s, q, up_s]
      · rw [h2 a (by omega) y, sI_o (by omega)]
    · rw [h3 a (by omega), sI_s, up_o (by omega)]
/-- what comes to shelf o from place j on -/
def mvF (z : Nat → Nat) (o j : Nat) : Nat → Nat → Sv → Nat × Sv
  | 0, k, v => (k, v)
  | f + 1, k, v => if z k ≠ 0 ∧ suitN v o (z k - 1) = false then (k, v) else mvF z o j f (k + 1) (svP v o (j + k) (z k))
theorem s_TI_move_116 {o j n : Nat} {z : Nat → Nat} (ho : o < 4) (hjn : j + n ≤ 20) (hz : ∀ a, a < n → z a ≤ 19) : ∀ (f k : Nat) (v : Sv) (μ : Mm), k + f = n → VS v → SC 266 v μ → (∀ a, a < n → μ.1 275 a = cod (z a)) → ∃ μ', m_TI_move_116 (nI j) (nI n) (266 + 2 * o) (nI k) μ = some (some (.int (nI (mvF z o j f k v).1)), μ') ∧ VS (mvF z o j f k v).2 ∧ SC 266 (mvF z o j f k v).2 μ' ∧ Fr (fun k => 266 ≤ k ∧ k < 274) μ μ'
  | 0, k, v, μ, h, hV, hC, hc => by
    obtain rfl : k = n := by omega
    refine ⟨μ, ?_, hV, hC, Fr.rf⟩
    rw [e_TI_move_116, bf (by rw [d_lt (by omega) (by omega)]; exact decide_eq_false (by omega))]
    rfl
  | f + 1, k, v, μ, h, hV, hC, hc => by
    have hzk := hz k (by omega)
    have hi : inb (nI k) 20 = true := inb_n (by omega) (by omega)
    have e0 : m_TI_move_116 (nI j) (nI n) (266 + 2 * o) (nI k) μ = (bif !decide (z k = 0) && !suitN v o (z k - 1) then some (some (.int (nI k)), μ) else m_TI_move_116 (nI j) (nI n) (266 + 2 * o) (nI (k + 1)) (sI μ (266 + 2 * o + 1) (j + k) (cod (z k)))) := by
      rw [e_TI_move_116, bt (by rw [d_lt (by omega) (by omega)]; exact decide_eq_true (by omega)), bt (by rw [d_lt (by omega) (by omega)]; exact decide_eq_true (by omega))]
      simp only [gd_h hi, gd_h (isT ho)]
      rw [nI_clamp (by omega), hc k (by omega), cod_l0 (by omega), nI_add, nI_p1]
      rcases Nat.eq_zero_or_pos (z k) with q | q
      · rw [decide_eq_true q, s_Sh_write ho (by omega), cV_s]
        rfl
      · obtain ⟨t, ht⟩ : ∃ t, z k = t + 1 := ⟨z k - 1, by omega⟩
        rw [decide_eq_false (show ¬ z k = 0 by omega), ht, cod_s, Nat.add_sub_cancel, s_Sh_suits hV hC ho (by omega), cI_s, b2i_n, hc k (by omega), ht, cod_s, s_Sh_write ho (by omega), cV_s]
        show _ = (bif !(decide ((v o).1 = 4) || decide ((v o).1 = kndN t + 1)) then _ else _)
        cases (decide ((v o).1 = 4) || decide ((v o).1 = kndN t + 1)) <;> rfl
    by_cases q : z k ≠ 0 ∧ suitN v o (z k - 1) = false
    · have e1 : mvF z o j (f + 1) k v = (k, v) := if_pos q
      rw [e1]
      refine ⟨μ, ?_, hV, hC, Fr.rf⟩
      rw [e0, decide_eq_false q.1, q.2]
      rfl
    · have e1 : mvF z o j (f + 1) k v = mvF z o j f (k + 1) (svP v o (j + k) (z k)) := if_neg q
      obtain ⟨μ', h1, h2, h3, h4⟩ := s_TI_move_116 ho hjn hz f (k + 1) (svP v o (j + k) (z k)) (sI μ (266 + 2 * o + 1) (j + k) (cod (z k))) (by omega) (hV.put hzk) (hC.put ho) (fun a ha => by rw [sI_o (by omega)]; exact hc a ha)
      rw [e1]
      refine ⟨μ', ?_, h2, h3, (Fr.sI (S := fun k => 266 ≤ k ∧ k < 274) (by omega)).t2 h4⟩
      rw [e0, bf ?_]
      · exact h1
      · rw [Bool.eq_false_iff]
        intro w
        obtain ⟨w1, w2⟩ := Bool.and_eq_true_iff.mp w
        exact q ⟨by simpa using w1, by simpa using w2⟩
theorem s_Mo_move_90 {s o i j n : Nat} (hs : s < 4) (hin : i + n ≤ 20) : ∀ (f k : Nat) (μ : Mm), k + f = n → ∃ g, m_Mo_move_90 (nI s) (nI i) (nI o) (nI j) (nI n) (nI k) μ = m_Mo_move_127 (nI o) (nI j) (nI n) (nI 0) (sR μ 331 g) ∧ (∀ a, k ≤ a → a < n → g a = μ.1 330 (20 * s + (i + a))) ∧ ∀ a, a < k → g a = μ.1 331 a
  | 0, k, μ, h => by
    obtain rfl : k = n := by omega
    refine ⟨μ.1 331, ?_, fun a x y => absurd x (by omega), fun _ _ => rfl⟩
    rw [e_Mo_move_90, bf (by rw [d_lt (by omega) (by omega)]; exact decide_eq_false (by omega)), sR_id]
  | f + 1, k, μ, h => by
    obtain ⟨g, h1, h2, h3⟩ := s_Mo_move_90 (o := o) (j := j) hs hin f (k + 1) (sI μ 331 k (μ.1 330 (20 * s + i + k))) (by omega)
    refine ⟨g, ?_, fun a x y => ?_, fun a x => ?_⟩
    · rw [e_Mo_move_90, bt (by rw [d_lt (by omega) (by omega)]; exact decide_eq_true (by omega)), nI_mul, nI_add, nI_add, gd_h (inb_n (by omega) (by omega)), gd_h (inb_n (by omega) (by omega)), nI_p1, nI_clamp (by omega), nI_clamp (by omega), h1, sI_e, sR_w]
    · by_cases q : a = k
      · rw [h3 a (by omega), sI_s, q, up_s, Nat.add_assoc]
      · rw [h2 a (by omega) y, sI_o (by omega)]
    · rw [h3 a (by omega), sI_s, up_o (by omega)]
theorem s_Mo_move_127 {o j n : Nat} {z : Nat → Nat} (ho : o < 4) (hjn : j + n ≤ 20) (hz : ∀ a, a < n → z a ≤ 19) : ∀ (f k : Nat) (v : Sv) (μ : Mm), k + f = n → MT μ → VS v → SM 328 329 330 v μ → (∀ a, a < n → μ.1 331 a = nI (z a)) → ∃ μ', m_Mo_move_127 (nI o) (nI j) (nI n) (nI k) μ = some (some (.int (nI (mvF z o j f k v).1)), μ') ∧ SM 328 329 330 (mvF z o j f k v).2 μ' ∧ Fr (fun k => k = 330) μ μ'
  | 0, k, v, μ, h, hT, hV, hM, hc => by
    obtain rfl : k = n := by omega
    refine ⟨μ, ?_, hM, Fr.rf⟩
    rw [e_Mo_move_127, bf (by rw [d_lt (by omega) (by omega)]; exact decide_eq_false (by omega))]
    rfl
  | f + 1, k, v, μ, h, hT, hV, hM, hc => by
    have hzk := hz k (by omega)
    have hi : inb (nI k) 20 = true := inb_n (by omega) (by omega)
    have hi2 : inb (nI (20 * o + j + k)) 80 = true := inb_n (by omega) (by omega)
    have e0 : m_Mo_move_127 (nI o) (nI j) (nI n) (nI k) μ = (bif !decide (z k = 0) && !suitN v o (z k - 1) then some (some (.int (nI k)), μ) else m_Mo_move_127 (nI o) (nI j) (nI n) (nI (k + 1)) (sI μ 330 (20 * o + (j + k)) (nI (z k)))) := by
      rw [e_Mo_move_127, bt (by rw [d_lt (by omega) (by omega)]; exact decide_eq_true (by omega)), nI_mul, nI_add, nI_add]
      simp only [gd_h hi, gd_h hi2]
      rw [nI_clamp (by omega), nI_clamp (by omega), hc k (by omega), d_lt (by omega) (by omega), nI_p1, Nat.add_assoc]
      rcases Nat.eq_zero_or_pos (z k) with q | q
      · rw [decide_eq_false (show ¬ 0 < z k by omega), decide_eq_true q]
        rfl
      · obtain ⟨t, ht⟩ : ∃ t, z k = t + 1 := ⟨z k - 1, by omega⟩
        rw [decide_eq_true q, decide_eq_false (show ¬ z k = 0 by omega), ht, nI_sub (by omega), Nat.add_sub_cancel, s_Mo_isTaken hT hV hM ho (by omega), cI_s, b2i_n, hc k (by omega), ht]
        show _ = (bif !(decide ((v o).1 = 4) || decide ((v o).1 = kndN t + 1)) then _ else _)
        cases (decide ((v o).1 = 4) || decide ((v o).1 = kndN t + 1)) <;> rfl
    by_cases q : z k ≠ 0 ∧ suitN v o (z k - 1) = false
    · have e1 : mvF z o j (f + 1) k v = (k, v) := if_pos q
      rw [e1]
      refine ⟨μ, ?_, hM, Fr.rf⟩
      rw [e0, decide_eq_false q.1, q.2]
      rfl
    · have e1 : mvF z o j (f + 1) k v = mvF z o j f (k + 1) (svP v o (j + k) (z k)) := if_neg q
      have f1 : Fr (fun k => k = 330) μ (sI μ 330 (20 * o + (j + k)) (nI (z k))) := Fr.sI rfl
      obtain ⟨μ', h1, h3, h4⟩ := s_Mo_move_127 ho hjn hz f (k + 1) (svP v o (j + k) (z k)) (sI μ 330 (20 * o + (j + k)) (nI (z k))) (by omega) (hT.fr f1 (by omega) (by omega) (by omega)) (hV.put hzk) (SM.put hV hM ho (by omega)) (fun a ha => by rw [sI_o (by omega)]; exact hc a ha)
      rw [e1]
      refine ⟨μ', ?_, h3, f1.t2 h4⟩
      rw [e0, bf ?_]
      · exact h1
      · rw [Bool.eq_false_iff]
        intro w
        obtain ⟨w1, w2⟩ := Bool.and_eq_true_iff.mp w
        exact q ⟨by simpa using w1, by simpa using w2⟩
/-- promise 32: move -/
theorem both_move {v : Sv} {μ : Mm} (hT : MT μ) (hV : VS v) (hC : SC 266 v μ) (hM : SM 328 329 330 v μ) (x y p r n : Int32) : Bo v μ (m_TI_move x y p r n) (m_Mo_move x y p r n) := by
  rcases both_ix x with ⟨s, hs, rfl, hx⟩ | hx
  · rcases both_ix p with ⟨o, ho, rfl, hp⟩ | hp
    · by_cases q : (v s).1 = 0
      · refine Bo.same (r := (-11 : Int32)) hV hC hM ?_ ?_
        · rw [e_TI_move, (hx μ).1, cN_s, (hp μ).1, cN_s, gd_h (isT hs), s_Sh_holds hV hC hs, cI_s, b2i_n, decide_eq_true q]
          rfl
        · rw [e_Mo_move, (hx μ).2, cI_s, bf (by decide), (hp μ).2, cI_s, bf (by decide), s_Mo_holds hV hM hs, cI_s, b2i_n, decide_eq_true q]
          rfl
      · by_cases q2 : (v o).1 = 0
        · refine Bo.same (r := (-11 : Int32)) hV hC hM ?_ ?_
          · rw [e_TI_move, (hx μ).1, cN_s, (hp μ).1, cN_s, gd_h (isT hs), s_Sh_holds hV hC hs, cI_s, b2i_n, decide_eq_false q, Bool.not_false, Bool.not_true, cond_false, gd_h (isT ho), s_Sh_holds hV hC ho, cI_s, b2i_n, decide_eq_true q2]
            rfl
          · rw [e_Mo_move, (hx μ).2, cI_s, bf (by decide), (hp μ).2, cI_s, bf (by decide), s_Mo_holds hV hM hs, cI_s, b2i_n, decide_eq_false q, Bool.not_false, Bool.not_true, cond_false, s_Mo_holds hV hM ho, cI_s, b2i_n, decide_eq_true q2]
            rfl
        · have hw := (hV s hs).2.1
          have hw2 := (hV o ho).2.1
          have c1 : m_TI_move (nI s) y (nI o) r n μ = (bif fitsN (v s).2.1 y n && fitsN (v o).2.1 r n then m_TI_move_74 y r n (266 + 2 * s) (266 + 2 * o) (nI 0) μ else some (some (.int (-12 : Int32)), μ)) := by
            rw [e_TI_move, (hx μ).1, cN_s, (hp μ).1, cN_s, gd_h (isT hs), s_Sh_holds hV hC hs, cI_s, b2i_n, decide_eq_false q, Bool.not_false, Bool.not_true, cond_false, gd_h (isT ho), s_Sh_holds hV hC ho, cI_s, b2i_n, decide_eq_false q2, Bool.not_false, Bool.not_true, cond_false, gd_h (isT hs), s_Sh_hasPlaces hC hs, cI_s, b2i_n, gd_h (isT ho), s_Sh_hasPlaces hC ho, cI_s, b2i_n]
            cases fitsN (v s).2.1 y n
            · rfl
            · cases fitsN (v o).2.1 r n <;> rfl
          have c2 : ∀ μ', SM 328 329 330 v μ' → m_Mo_move (nI s) y (nI o) r n μ' = (bif fitsN (v s).2.1 y n && fitsN (v o).2.1 r n then m_Mo_move_90 (nI s) y (nI o) r n (nI 0) μ' else some (some (.int (-12 : Int32)), μ')) := fun μ' hM' => by
            rw [e_Mo_move, (hx μ').2, cI_s, bf (by decide), (hp μ').2, cI_s, bf (by decide), s_Mo_holds hV hM' hs, cI_s, b2i_n, decide_eq_false q, Bool.not_false, Bool.not_true, cond_false, s_Mo_holds hV hM' ho, cI_s, b2i_n, decide_eq_false q2, Bool.not_false, Bool.not_true, cond_false, gd_h (inb_n hs (by omega)), gd_h (inb_n ho (by omega)), nI_clamp (by omega), nI_clamp (by omega), (hM' s hs).2.1, (hM' o ho).2.1]
            unfold fitsN
            cases decide (n < nI 0)
            · cases decide (y < nI 0)
              · cases decide (r < nI 0)
                · cases decide (nI 0 < lg_cmp (y.toInt64 + n.toInt64) (nI (v s).2.1).toInt64)
                  · cases decide (nI 0 < lg_cmp (r.toInt64 + n.toInt64) (nI (v o).2.1).toInt64) <;> rfl
                  · rfl
                · cases decide (nI 0 < lg_cmp (y.toInt64 + n.toInt64) (nI (v s).2.1).toInt64) <;> rfl
              · rfl
            · cases decide (y < nI 0) <;> rfl
          cases hf : (fitsN (v s).2.1 y n && fitsN (v o).2.1 r n)
          · exact Bo.same (r := (-12 : Int32)) hV hC hM (by rw [c1, hf]; rfl) (by rw [c2 μ hM, hf]; rfl)
          · obtain ⟨f1, f2⟩ := Bool.and_eq_true_iff.mp hf
            obtain ⟨i, k, rfl, rfl, hik⟩ := fits_e hw f1
            obtain ⟨j, k', rfl, e2, hjk⟩ := fits_e hw2 f2
            have hk1 : k < 2 ^ 31 := by omega
            have hk2 : k' < 2 ^ 31 := by omega
            have := (nI_eq hk1 hk2).mp e2
            subst this
            have hz : ∀ a, a < k → (fun a => (v s).2.2 (i + a)) a ≤ 19 := fun a ha => (hV s hs).2.2.2 (i + a) (by omega)
            obtain ⟨g, g1, g2, -⟩ := s_TI_move_74 (o := o) (j := j) hs (show i + k ≤ 20 by omega) k 0 μ (by omega)
            have fg : Fr (fun k => k = 275) μ (sR μ 275 g) := Fr.sR rfl
            obtain ⟨μ1, h1, h2, h3, h4⟩ := s_TI_move_116 (z := fun a => (v s).2.2 (i + a)) ho (show j + k ≤ 20 by omega) hz k 0 v (sR μ 275 g) (by omega) hV (hC.fr fg (fun a b c => by omega)) (fun a ha => by rw [sR_s, g2 a (Nat.zero_le a) ha]; exact (hC s hs).2.2 (i + a) (by omega))
            have fa : Fr (fun k => (266 ≤ k ∧ k < 274) ∨ k = 275) μ μ1 := (fg.w (fun a b => Or.inr b)).t2 (h4.w (fun a b => Or.inl b))
            have hT1 := hT.fr fa (by omega) (by omega) (by omega)
            have hM1 := hM.fr fa (by omega) (by omega) (by omega)
            obtain ⟨g', k1, k2, -⟩ := s_Mo_move_90 (o := o) (j := j) hs (show i + k ≤ 20 by omega) k 0 μ1 (by omega)
            have fb : Fr (fun k => k = 331) μ1 (sR μ1 331 g') := Fr.sR rfl
            obtain ⟨μ2, l1, l2, l3⟩ := s_Mo_move_127 (z := fun a => (v s).2.2 (i + a)) ho (show j + k ≤ 20 by omega) hz k 0 v (sR μ1 331 g') (by omega) (hT1.fr fb (by omega) (by omega) (by omega)) hV (hM1.fr fb (by omega) (by omega) (by omega)) (fun a ha => by rw [sR_s, k2 a (Nat.zero_le a) ha]; exact (hM1 s hs).2.2 (i + a) (by omega))
            refine ⟨nI (mvF (fun a => (v s).2.2 (i + a)) o j k 0 v).1, μ1, μ2, (mvF (fun a => (v s).2.2 (i + a)) o j k 0 v).2, ?_, ?_, h2, ?_, l2, ?_⟩
            · rw [c1, hf, cond_true, g1, h1]
            · rw [c2 μ1 hM1, hf, cond_true, k1, l1]
            · exact (h3.fr fb (fun a b c => by omega)).fr l3 (fun a b c => by omega)
            · exact (fa.w (fun a b => b.elim (fun c => Or.inl c) (fun c => Or.inr (Or.inl c)))).t2 (((fb.w (T := fun k => 328 ≤ k ∧ k < 332) (fun a b => by omega)).t2 (l3.w (fun a b => by omega))).w (fun a b => Or.inr (Or.inr b)))
    · refine Bo.same (r := (-1 : Int32)) hV hC hM ?_ ?_
      · rw [e_TI_move, (hx μ).1, cN_s, (hp μ).1, cN_n]
      · rw [e_Mo_move, (hx μ).2, cI_s, bf (by decide), (hp μ).2, cI_s]
        exact bt (by decide)
  · refine Bo.same (r := (-1 : Int32)) hV hC hM ?_ ?_
    · rw [e_TI_move, (hx μ).1, cN_n]
      rcases both_ix p with ⟨o, ho, rfl, hp⟩ | hp
      · rw [(hp μ).1, cN_s]
      · rw [(hp μ).1, cN_n]
    · rw [e_Mo_move, (hx μ).2, cI_s]
      exact bt (by decide)
