/-! shelves: shelf, all, move, how many hold a row -/
theorem s_fillI_5 {k n : Nat} {v : Int32} (hk : lnI k = n) (hn : n < 2 ^ 31) : ∀ (f i : Nat) (μ : Mm), i + f = n → ∃ g, m_jA_fill_5 k v (nI i) (nI n) μ = some (none, sR μ k g) ∧ (∀ j, i ≤ j → j < n → g j = v) ∧ ∀ j, j < i → g j = μ.1 k j
  | 0, i, μ, h => by
    obtain rfl : i = n := by omega
    refine ⟨μ.1 k, ?_, fun j a b => absurd a (by omega), fun _ _ => rfl⟩
    rw [e_jA_fill_5, bf (by rw [d_lt hn hn]; exact decide_eq_false (by omega)), sR_id]
  | f + 1, i, μ, h => by
    obtain ⟨g, h1, h2, h3⟩ := s_fillI_5 hk hn f (i + 1) (sI μ k i v) (by omega)
    refine ⟨g, ?_, fun j a b => ?_, fun j a => ?_⟩
    · rw [e_jA_fill_5, bt (by rw [d_lt (by omega) hn]; exact decide_eq_true (by omega)), hk, gd_h (inb_n (by omega) hn), nI_p1, nI_clamp (by omega), h1, sI_e, sR_w]
    · by_cases q : j = i
      · rw [h3 j (by omega), sI_s, q, up_s]
      · exact h2 j (by omega) b
    · rw [h3 j (by omega), sI_s, up_o (by omega)]
theorem s_max (x y : Nat) (hx : x < 2 ^ 31) (hy : y < 2 ^ 31) (μ : Mm) : m_jM_max (nI x) (nI y) μ = some (some (.int (nI (max x y))), μ) := by
  rw [e_jM_max, d_lt hx hy]
  by_cases q : x < y
  · rw [bt (decide_eq_true q), Nat.max_eq_right (by omega)]
  · rw [bf (decide_eq_false q), Nat.max_eq_left (by omega)]
/-- a shelf anew -/
theorem s_Sh_become {s : Nat} (hs : s < 4) (x : Int32) {n : Nat} (hn : n ≤ 20) (μ : Mm) : ∃ g, m_Sh_become (266 + 2 * s) x (nI n) μ = some (none, sR (sI (sI μ (266 + 2 * s) 0 x) (266 + 2 * s) 1 (nI n)) (266 + 2 * s + 1) g) ∧ ∀ j, j < 20 → g j = (-1 : Int32) := by
  obtain ⟨a1, a2, a3, a4, a5⟩ := shf hs
  obtain ⟨g, h1, h2, -⟩ := s_fillI_5 (k := 266 + 2 * s + 1) (n := 20) (v := (-1 : Int32)) a5 (by omega) 20 0 (sI (sI μ (266 + 2 * s) 0 x) (266 + 2 * s) 1 (nI n)) (by omega)
  refine ⟨g, ?_, fun j hj => h2 j (Nat.zero_le j) hj⟩
  have z : (isO (266 + 2 * s) 4 && true) = true := by rw [a1]; rfl
  rw [e_Sh_become, gd_h z, s_min _ _ (by omega) (by omega), cI_s, s_max _ _ (by omega) (by omega), cI_s, gd_h z, gd_h a1, a2, show max 0 (min n 20) = n by omega, e_jA_fill, gd_h a3, a4, h1, cV_s]
/-- the reference's places of a shelf, emptied -/
theorem s_Mo_shelf_74 {s : Nat} (hs : s < 4) : ∀ (f i : Nat) (μ : Mm), i + f = 20 → ∃ g, m_Mo_shelf_74 (nI s) (nI i) μ = some (some (.int (nI 1)), sR μ 330 g) ∧ (∀ j, i ≤ j → j < 20 → g (20 * s + j) = nI 0) ∧ ∀ j, (j < 20 * s + i ∨ 20 * s + 20 ≤ j) → g j = μ.1 330 j
  | 0, i, μ, h => by
    obtain rfl : i = 20 := by omega
    refine ⟨μ.1 330, ?_, fun j a b => absurd a (by omega), fun _ _ => rfl⟩
    rw [e_Mo_shelf_74, bf (by rw [d_lt (by omega) (by omega)]; exact decide_eq_false (by omega)), sR_id]
  | f + 1, i, μ, h => by
    obtain ⟨g, h1, h2, h3⟩ := s_Mo_shelf_74 hs f (i + 1) (sI μ 330 (20 * s + i) (nI 0)) (by omega)
    refine ⟨g, ?_, fun j a b => ?_, fun j a => ?_⟩
    · rw [e_Mo_shelf_74, bt (by rw [d_lt (by omega) (by omega)]; exact decide_eq_true (by omega)), nI_mul, nI_add, gd_h (inb_n (by omega) (by omega)), nI_p1, nI_clamp (by omega), h1, sI_e, sR_w]
    · by_cases q : j = i
      · rw [h3 _ (by omega), sI_s, q, up_s]
      · exact h2 j (by omega) b
    · rw [h3 j (by omega), sI_s, up_o (by omega)]
/-- a shelf of the picture anew -/
def svN (v : Sv) (s a n : Nat) : Sv := fun b => if b = s then (a, n, fun _ => 0) else v b
theorem VS.new {v : Sv} (h : VS v) {s a n : Nat} (ha : a ≤ 4) (hn : n ≤ 20) (h0 : a = 0 → n = 0) : VS (svN v s a n) := fun b hb => by
  unfold svN
  by_cases q : b = s
  · rw [if_pos q]
    exact ⟨ha, hn, h0, fun i hi => Nat.zero_le _⟩
  · rw [if_neg q]
    exact h b hb
theorem SC.new {v : Sv} {μ : Mm} (h : SC 266 v μ) {s a n : Nat} (hs : s < 4) (hn : n ≤ 20) {g : Nat → Int32} (hg : ∀ j, j < 20 → g j = (-1 : Int32)) : SC 266 (svN v s a n) (sR (sI (sI μ (266 + 2 * s) 0 (cod a)) (266 + 2 * s) 1 (nI n)) (266 + 2 * s + 1) g) := fun b hb => by
  obtain ⟨h1, h2, h3⟩ := h b hb
  unfold svN
  by_cases q : b = s
  · subst q
    rw [if_pos rfl, sR_o (by omega), sI_s, sI_s, sR_s]
    refine ⟨?_, up_s, fun i hi => ?_⟩
    · rw [up_o (by omega), up_s]
    · show g i = cod 0
      rw [cod_0]
      exact hg i (Nat.lt_of_lt_of_le hi hn)
  · rw [if_neg q, sR_o (by omega), sI_o (by omega), sI_o (by omega)]
    refine ⟨h1, h2, fun i hi => ?_⟩
    rw [sR_o (by omega), sI_o (by omega), sI_o (by omega)]
    exact h3 i hi
theorem SM.new {v : Sv} {μ : Mm} (hV : VS v) (h : SM 328 329 330 v μ) {s a n : Nat} (hs : s < 4) (hn : n ≤ 20) {g : Nat → Int32} (hg : ∀ j, j < 20 → g (20 * s + j) = nI 0) (hg2 : ∀ j, (j < 20 * s ∨ 20 * s + 20 ≤ j) → g j = μ.1 330 j) : SM 328 329 330 (svN v s a n) (sR (sI (sI μ 328 s (nI a)) 329 s (nI n)) 330 g) := fun b hb => by
  obtain ⟨h1, h2, h3⟩ := h b hb
  have hw := (hV b hb).2.1
  rw [sR_o (by omega), sR_o (by omega), sR_s, sI_s, sI_o (by omega), sI_s, sI_o (by omega)]
  unfold svN
  by_cases q : b = s
  · subst q
    rw [if_pos rfl]
    exact ⟨up_s, up_s, fun i hi => hg i (Nat.lt_of_lt_of_le hi hn)⟩
  · rw [if_neg q, up_o q, up_o q]
    exact ⟨h1, h2, fun i hi => by rw [hg2 _ (by omega)]; exact h3 i hi⟩
theorem m1_l : ((-1 : Int32)).toInt64 = (-1 : Int64) := by decide
theorem l_m1 (x : Int32) : decide (x.toInt64 < (-1 : Int64)) = decide (x < (-1 : Int32)) := by
  rw [← m1_l]
  by_cases h : x < (-1 : Int32)
  · rw [decide_eq_true h, decide_eq_true (Int32.toInt64_lt.mpr h)]
  · rw [decide_eq_false h, decide_eq_false (fun q => h (Int32.toInt64_lt.mp q))]
/-- -1 or above: a sort and one -/
theorem i_cod (x : Int32) : x < (-1 : Int32) ∨ ∃ n, n ≤ 2 ^ 31 ∧ x = cod n := by
  rcases i_cases x with h | ⟨n, hn, rfl⟩
  · by_cases q : x = (-1 : Int32)
    · exact Or.inr ⟨0, by omega, by rw [cod_0]; exact q⟩
    · refine Or.inl ?_
      have a : x.toInt < 0 := by
        have := Int32.lt_iff_toInt_lt.mp h
        rwa [nI_toInt (by omega)] at this
      have b : x.toInt ≠ -1 := fun e => q (Int32.toInt_inj.mp (e.trans (by decide)))
      rw [Int32.lt_iff_toInt_lt]
      have c : (-1 : Int32).toInt = -1 := by decide
      omega
  · exact Or.inr ⟨n + 1, by omega, (cod_s n).symm⟩
section BOTH2
variable {v : Sv} {μ : Mm}
theorem fr_new {s : Nat} (hs : s < 4) (μ : Mm) (x : Int32) (n : Nat) (g : Nat → Int32) : Fr (fun k => 266 ≤ k ∧ k < 274) μ (sR (sI (sI μ (266 + 2 * s) 0 x) (266 + 2 * s) 1 (nI n)) (266 + 2 * s + 1) g) :=
  ((Fr.sI (S := fun k => 266 ≤ k ∧ k < 274) (by omega)).t2 (Fr.sI (by omega))).t2 (Fr.sR (by omega))
/-- a shelf gets a row: what both do -/
theorem both_new (hT : MT μ) (hV : VS v) (hC : SC 266 v μ) (hM : SM 328 329 330 v μ) {s a n : Nat} (hs : s < 4) (ha : a ≤ 4) (hn : n ≤ 20) (h0 : a = 0 → n = 0) : ∃ μ1 μ2, m_Sh_become (266 + 2 * s) (cod a) (nI n) μ = some (none, μ1) ∧ m_Mo_shelf_74 (nI s) (nI 0) (sI (sI μ1 328 s (nI a)) 329 s (nI n)) = some (some (.int (nI 1)), μ2) ∧ VS (svN v s a n) ∧ SC 266 (svN v s a n) μ2 ∧ SM 328 329 330 (svN v s a n) μ2 ∧ Fr cS μ μ2 := by
  obtain ⟨g, h1, h2⟩ := s_Sh_become hs (cod a) hn μ
  have f1 := fr_new hs μ (cod a) n g
  have hM1 := hM.fr f1 (by omega) (by omega) (by omega)
  have hC1 := hC.new (a := a) hs hn h2
  obtain ⟨g2, k1, k2, k3⟩ := s_Mo_shelf_74 hs 20 0 (sI (sI (sR (sI (sI μ (266 + 2 * s) 0 (cod a)) (266 + 2 * s) 1 (nI n)) (266 + 2 * s + 1) g) 328 s (nI a)) 329 s (nI n)) rfl
  refine ⟨_, _, h1, k1, hV.new ha hn h0, ?_, hM1.new hV hs hn (fun j hj => k2 j (Nat.zero_le j) hj) (fun j hj => ?_), ?_⟩
  · exact hC1.fr (((Fr.sI (S := fun k => 328 ≤ k ∧ k < 331) (by omega)).t2 (Fr.sI (by omega))).t2 (Fr.sR (by omega))) (fun k a b => by omega)
  · rw [k3 j (by omega), sI_o (by omega), sI_o (by omega)]
  · exact (f1.w (fun k h => Or.inl h)).t2 ((((Fr.sI (S := fun k => 328 ≤ k ∧ k < 331) (by omega)).t2 (Fr.sI (by omega))).t2 (Fr.sR (by omega))).w (fun k h => Or.inr (Or.inr (by omega))))
/-- promise 29: shelf -/
theorem both_shelf (hT : MT μ) (hV : VS v) (hC : SC 266 v μ) (hM : SM 328 329 330 v μ) (x y z : Int32) : Bo v μ (m_TI_shelf x y z) (m_Mo_shelf x y z) := by
  rcases both_ix x with ⟨s, hs, rfl, hx⟩ | hx
  · rcases i_cod y with hy | ⟨a, ha, rfl⟩
    · refine Bo.same (r := (-2 : Int32)) hV hC hM ?_ ?_
      · rw [e_TI_shelf, (hx μ).1, cN_s, bt (decide_eq_true hy)]
      · rw [e_Mo_shelf, (hx μ).2, cI_s, bf (by decide), s_Mo_in, cI_s, b2i_n, l_m1, decide_eq_true hy]
        rfl
    · have y1 : decide (cod a < (-1 : Int32)) = false := by
        cases a with
        | zero => rw [cod_0]; decide
        | succ a => rw [cod_s]; exact d_m1 (by omega)
      have y2 : decide (nI 3 < cod a) = decide (4 < a) := by
        cases a with
        | zero => rw [cod_0]; decide
        | succ a =>
          rw [cod_s, d_lt (by omega) (by omega)]
          by_cases q : 3 < a
          · rw [decide_eq_true q, decide_eq_true (by omega)]
          · rw [decide_eq_false q, decide_eq_false (by omega)]
      have y3 : decide (cod a = (-1 : Int32)) = decide (a = 0) := by
        cases a with
        | zero => rw [cod_0]; decide
        | succ a => rw [cod_s, d_e1 (by omega)]; exact (decide_eq_false (by omega)).symm
      have y4 : decide (cod a < nI 0) = decide (a = 0) := by
        cases a with
        | zero => rw [cod_0]; decide
        | succ a => rw [cod_s, nI_lt0 (by omega)]; exact (decide_eq_false (by omega)).symm
      by_cases q : 4 < a
      · refine Bo.same (r := (-2 : Int32)) hV hC hM ?_ ?_
        · rw [e_TI_shelf, (hx μ).1, cN_s, y1, cond_false, y2, decide_eq_true q]
          rfl
        · rw [e_Mo_shelf, (hx μ).2, cI_s, bf (by decide), s_Mo_in, cI_s, b2i_n, l_m1, y1, l_gt _ _ (by omega), y2, decide_eq_true q]
          rfl
      · have c0 : ∀ μ', m_Mo_shelf (nI s) (cod a) z μ' = (bif decide (a = 0) then m_Mo_shelf_47 (nI s) (cod a) z μ' else bif decide (nI 20 < z) then some (some (.int (-2 : Int32)), μ') else bif decide (z < nI 0) then some (some (.int (-14 : Int32)), μ') else m_Mo_shelf_47 (nI s) (cod a) z μ') := fun μ' => by
          rw [e_Mo_shelf, (hx μ').2, cI_s, bf (by decide), s_Mo_in, cI_s, b2i_n, l_m1, y1, l_gt _ _ (by omega), y2, decide_eq_false q, y4]
          cases decide (a = 0) <;> rfl
        have c47 : ∀ μ', m_Mo_shelf_47 (nI s) (cod a) z μ' = (bif decide (a = 0) then m_Mo_shelf_74 (nI s) (nI 0) (sI (sI μ' 328 s (nI a)) 329 s (nI 0)) else m_Mo_shelf_74 (nI s) (nI 0) (sI (sI μ' 328 s (nI a)) 329 s z)) := fun μ' => by
          rw [e_Mo_shelf_47, gd_h (inb_n hs (by omega)), gd_h (inb_n hs (by omega)), gd_h (inb_n hs (by omega)), y4, nI_clamp (by omega), show cod a + nI 1 = nI a from Int32.sub_add_cancel _ _]
        have t0 : m_TI_shelf (nI s) (cod a) z μ = (bif decide (a = 0) then cV (m_Sh_become (266 + 2 * s) (-1 : Int32) (nI 0) μ) (fun μ4 => some (some (.int (nI 1)), μ4)) else bif decide (nI 20 < z) then some (some (.int (-2 : Int32)), μ) else bif decide (z < nI 0) then some (some (.int (-14 : Int32)), μ) else cV (m_Sh_become (266 + 2 * s) (cod a) z μ) (fun μ3 => some (some (.int (nI 1)), μ3))) := by
          rw [e_TI_shelf, (hx μ).1, cN_s, y1, cond_false, y2, decide_eq_false q, cond_false, y3, gd_h (isT hs), gd_h (isT hs)]
        by_cases q0 : a = 0
        · subst q0
          obtain ⟨μ1, μ2, h1, h2, h3, h4, h5, h6⟩ := both_new hT hV hC hM hs (a := 0) (n := 0) (by omega) (by omega) (fun _ => rfl)
          rw [cod_0] at h1
          refine ⟨nI 1, μ1, μ2, _, ?_, ?_, h3, h4, h5, h6⟩
          · rw [t0, decide_eq_true rfl, cond_true, h1, cV_s]
          · rw [c0, decide_eq_true rfl, cond_true, c47, decide_eq_true rfl, cond_true, h2]
        · rcases i_cases z with hz | ⟨n, hn, rfl⟩
          · have z1 : decide (nI 20 < z) = false := by
              apply decide_eq_false
              intro hq
              have h1 := Int32.lt_iff_toInt_lt.mp hz
              have h2 := Int32.lt_iff_toInt_lt.mp hq
              rw [nI_toInt (by omega)] at h1 h2
              omega
            refine Bo.same (r := (-14 : Int32)) hV hC hM ?_ ?_
            · rw [t0, decide_eq_false q0, z1, decide_eq_true hz]
              rfl
            · rw [c0, decide_eq_false q0, z1, decide_eq_true hz]
              rfl
          · by_cases qn : 20 < n
            · refine Bo.same (r := (-2 : Int32)) hV hC hM ?_ ?_
              · rw [t0, decide_eq_false q0, d_lt (by omega) hn, decide_eq_true qn]
                rfl
              · rw [c0, decide_eq_false q0, d_lt (by omega) hn, decide_eq_true qn]
                rfl
            · obtain ⟨μ1, μ2, h1, h2, h3, h4, h5, h6⟩ := both_new hT hV hC hM hs (a := a) (n := n) (by omega) (by omega) (fun e => absurd e q0)
              refine ⟨nI 1, μ1, μ2, _, ?_, ?_, h3, h4, h5, h6⟩
              · rw [t0, decide_eq_false q0, d_lt (by omega) hn, decide_eq_false qn, nI_lt0 hn]
                show cV (m_Sh_become (266 + 2 * s) (cod a) (nI n) μ) _ = _
                rw [h1, cV_s]
              · rw [c0, decide_eq_false q0, d_lt (by omega) hn, decide_eq_false qn, nI_lt0 hn]
                show m_Mo_shelf_47 (nI s) (cod a) (nI n) μ1 = _
                rw [c47, decide_eq_false q0, cond_false, h2]
  · refine Bo.same (r := (-1 : Int32)) hV hC hM ?_ ?_
    · rw [e_TI_shelf, (hx μ).1, cN_n]
    · rw [e_Mo_shelf, (hx μ).2, cI_s]
      exact bt (by decide)
end BOTH2
