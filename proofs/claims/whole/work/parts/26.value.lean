/-! automorphisms, chains; whole, value: both sides -/
/-- the class's automorphisms; none where a row would be too short -/
def turJ : Nat → Nat → List Int → Option (List Int)
  | 0, _, A => some A
  | f + 1, j, A => if A.length ≤ 31 ∧ j ≤ 31 then turJ f (j + 1) (addP A (scaP (-1) (A.drop j))) else none
def turF (t : Nat) : Nat → Nat → List Int → Option (List Int)
  | 0, _, A => some A
  | f + 1, i, A => match turJ (colN t i - colN t (i + 1)) 1 (shP (colN t i * colN t i) A) with
    | none => none
    | some B => turF t f (i + 1) B
def turC (t : Nat) : List Int := (turF t 5 1 [1]).getD []
theorem tur_ok : ∀ t, t < 19 → (turF t 5 1 [1]).isSome = true := by decide +kernel
theorem s_aut_36 {k t : Nat} (h1 : shK k = 1) (h2 : shN k = 31) {i c b : Nat} (hi : i < 100) (hc : c < 6) (hb : b ≤ c) : ∀ (f j : Nat) (A B : List Int) (μ : Mm), j + f = c - b + 1 → 1 ≤ j → turJ f j A = some B → HL k A μ → ∃ μ', m_Co_writeAutomorphisms_36 k (nI t) (nI i) (nI c) (nI b) (nI j) μ = m_Co_writeAutomorphisms_6 k (nI t) (nI (i + 1)) μ' ∧ Fr (fun x => x = k) μ μ' ∧ HL k B μ'
  | 0, j, A, B, μ, e, hj, hB, h => by
    obtain rfl : j = c - b + 1 := by omega
    cases hB
    refine ⟨μ, ?_, Fr.rf, h⟩
    rw [e_Co_writeAutomorphisms_36, nI_sub hb, bLt (by omega) (by omega), nI_p1]
  | f + 1, j, A, B, μ, e, hj, hB, h => by
    unfold turJ at hB
    by_cases q : A.length ≤ 31 ∧ j ≤ 31
    · rw [if_pos q] at hB
      obtain ⟨μ1, g1, g2, g3⟩ := c_lessen h1 h2 (show 0 < j by omega) q.2 q.1 h
      obtain ⟨μ2, k1, k2, k3⟩ := s_aut_36 h1 h2 hi hc hb f (j + 1) _ B μ1 (by omega) (by omega) hB g3
      refine ⟨μ2, ?_, g2.t2 k2, k3⟩
      rw [e_Co_writeAutomorphisms_36, nI_sub hb, bLf (by omega) (by omega), g1, cV_s, nI_p1, k1]
    · rw [if_neg q] at hB
      cases hB
theorem s_aut_6 {k t : Nat} (h1 : shK k = 1) (h2 : shN k = 31) (ht : t < 19) : ∀ (f i : Nat) (A B : List Int) (μ : Mm), i + f = 6 → 1 ≤ i → turF t f i A = some B → HL k A μ → ∃ μ', m_Co_writeAutomorphisms_6 k (nI t) (nI i) μ = some (none, μ') ∧ Fr (fun x => x = k) μ μ' ∧ HL k B μ'
  | 0, i, A, B, μ, e, hi, hB, h => by
    obtain rfl : i = 6 := by omega
    cases hB
    refine ⟨μ, ?_, Fr.rf, h⟩
    rw [e_Co_writeAutomorphisms_6, bLt (by omega) (by omega)]
  | f + 1, i, A, B, μ, e, hi, hB, h => by
    have c1 := col_lt ht (i := i) (by omega)
    have c2 := col_down t ht i (by omega) hi
    have c3 : colN t i * colN t i ≤ 5 * 5 := Nat.mul_le_mul (by omega) (by omega)
    unfold turF at hB
    obtain ⟨μ1, g1, g2, g3⟩ := c_raise (b := colN t i * colN t i) h1 h2 (by omega) h
    cases hJ : turJ (colN t i - colN t (i + 1)) 1 (shP (colN t i * colN t i) A) with
    | none => rw [hJ] at hB; cases hB
    | some A1 =>
      rw [hJ] at hB
      obtain ⟨μ2, k1, k2, k3⟩ := s_aut_36 (t := t) h1 h2 (show i < 100 by omega) c1 c2 _ 1 _ A1 μ1 (by omega) (by omega) hJ g3
      obtain ⟨μ3, l1, l2, l3⟩ := s_aut_6 h1 h2 ht f (i + 1) A1 B μ2 (by omega) (by omega) hB k3
      refine ⟨μ3, ?_, (g2.t2 k2).t2 l2, l3⟩
      rw [e_Co_writeAutomorphisms_6, bLf (by omega) (by omega), s_Ty_column ht (by omega), cI_s, nI_p1, s_Ty_column ht (by omega), cI_s, nI_mul, g1, cV_s, k1, l1]
theorem s_aut {k t : Nat} (h1 : shK k = 1) (h2 : shN k = 31) (ht : t < 19) (μ : Mm) : ∃ μ', m_Co_writeAutomorphisms k (nI t) μ = some (none, μ') ∧ Fr (fun x => x = k) μ μ' ∧ HL k (turC t) μ' := by
  obtain ⟨μ1, g1, g2, g3⟩ := c_one h1 h2 μ
  have ho := tur_ok t ht
  unfold turC
  cases hB : turF t 5 1 [1] with
  | none => rw [hB] at ho; cases ho
  | some B =>
    obtain ⟨μ2, k1, k2, k3⟩ := s_aut_6 h1 h2 ht 5 1 [1] B μ1 rfl (by omega) hB g3
    exact ⟨μ2, by rw [e_Co_writeAutomorphisms, g1, cV_s, k1], g2.t2 k2, k3⟩
/-- the reference's -/
def tumJ : Nat → Nat → Nat → List Int → Option (Nat × List Int)
  | 0, _, by', A => some (by', A)
  | f + 1, j, by', A => if j ≤ by' then tumJ f (j + 1) (by' - j) (addP (shP j A) (scaP (-1) A)) else none
def tumF (t : Nat) : Nat → Nat → Nat → List Int → Option (Nat × List Int)
  | 0, _, by', A => some (by', A)
  | f + 1, i, by', A => match tumJ (colN t i - colN t (i + 1)) 1 (by' + colN t i * colN t i) A with
    | none => none
    | some B => tumF t f (i + 1) B.1 B.2
def tumC (t : Nat) : List Int := match tumF t 5 1 0 [1] with
  | none => []
  | some B => shP B.1 B.2
theorem tum_ok : ∀ t, t < 19 → (match tumF t 5 1 0 [1] with | none => false | some B => decide (B.1 < 100)) = true := by decide +kernel
theorem tum_CM : ∀ t, t < 19 → eqP (tumC t) (turC t) = true := by decide +kernel
theorem s_timesLess {μ : Mm} {A : List Int} (h : HL 310 A μ) {b : Nat} (h0 : 0 < b) (hb : b < 1000) : ∃ μ', m_Mo_timesLess (nI b) μ = some (none, μ') ∧ Fr (fun k => k = 310) μ μ' ∧ HL 310 (addP (shP b A) (scaP (-1) A)) μ' := by
  have e : ∀ x : Int64, Int64.ofInt (-1) * x = -x := fun x => by
    rw [show Int64.ofInt (-1) = -1 by decide, Int64.neg_mul, Int64.one_mul]
  have hv : ∀ i, rp (addP (shP b A) (scaP (-1) A)) i = (if b ≤ i then rp A (i - b) else lN 0) - rp A i := fun i => by
    rw [rp_add, rp_sca, e, rp_sh, Int64.sub_eq_add_neg]
  have key : ∀ i, i < 31 → ∀ f : Nat → Int64, (∀ j, j ≤ i → f j = μ.2 310 j) → (∀ j, i < j → j < 31 → f j = rp (addP (shP b A) (scaP (-1) A)) j) → ∃ g, m_Mo_timesLess_3 (nI b) (nI i) (wL μ 310 f) = some (none, wL μ 310 g) ∧ ∀ j, j < 31 → g j = rp (addP (shP b A) (scaP (-1) A)) j := by
    have st : ∀ i, i < 31 → ∀ f : Nat → Int64, (∀ j, j ≤ i → f j = μ.2 310 j) → m_Mo_timesLess_3 (nI b) (nI i) (wL μ 310 f) = m_Mo_timesLess_3 (nI b) (nI i + (-1 : Int32)) (wL μ 310 (vp_updL f i (rp (addP (shP b A) (scaP (-1) A)) i))) := fun i hi f hf => by
      rw [e_Mo_timesLess_3, bf (nI_lt0 (by omega)), hv]
      by_cases q : i < b
      · rw [bLt q (by omega), gi hi (by omega), gi hi (by omega), kl (by omega), wL_u, wL_s, if_neg (by omega), hf i (Nat.le_refl i), h i hi]
      · rw [bLf (by omega) (by omega), nI_sub (by omega), gi (by omega) (by omega), gi hi (by omega), gi hi (by omega), kl (by omega), kl (by omega), wL_u, wL_s, if_pos (by omega), hf (i - b) (by omega), h (i - b) (by omega), hf i (Nat.le_refl i), h i hi]
    intro i
    induction i with
    | zero =>
      intro hi f hf hg
      refine ⟨vp_updL f 0 (rp (addP (shP b A) (scaP (-1) A)) 0), ?_, fun j hj => ?_⟩
      · rw [st 0 hi f hf, nI_z1, e_Mo_timesLess_3, bt d_neg]
      · by_cases q : j = 0
        · rw [q, uL_s]
        · rw [uL_o q, hg j (by omega) hj]
    | succ i ih =>
      intro hi f hf hg
      obtain ⟨g, g1, g2⟩ := ih (by omega) (vp_updL f (i + 1) (rp (addP (shP b A) (scaP (-1) A)) (i + 1))) (fun j hj => by rw [uL_o (by omega), hf j (by omega)]) (fun j hj hj2 => by
        by_cases q : j = i + 1
        · rw [q, uL_s]
        · rw [uL_o q, hg j (by omega) hj2])
      exact ⟨g, by rw [st (i + 1) hi f hf, nI_m1, g1], g2⟩
  obtain ⟨g, g1, g2⟩ := key 30 (by omega) (μ.2 310) (fun _ _ => rfl) (fun j hj hj2 => absurd hj (by omega))
  rw [wL_e] at g1
  exact ⟨_, (e_Mo_timesLess _ μ).trans g1, Fr.wL rfl, fun j hj => by rw [wL_s, g2 j hj]⟩
abbrev fMade (k : Nat) : Prop := k = 310
theorem s_turns_35 {t : Nat} (ht : t < 19) {i : Nat} (h1 : 1 ≤ i) (h5 : i ≤ 5) : ∀ (f j n : Nat) (A : List Int) (B : Nat × List Int) (μ : Mm), j + f = colN t i - colN t (i + 1) + 1 → 1 ≤ j → tumJ f j n A = some B → MT μ → HL 310 A μ → ∃ μ', m_Mo_makesTurns_35 (nI t) (nI n) (nI i) (nI (colN t i)) (nI j) μ = m_Mo_makesTurns_11 (nI t) (nI B.1) (nI (i + 1)) μ' ∧ Fr fMade μ μ' ∧ HL 310 B.2 μ'
  | 0, j, n, A, B, μ, e, hj, hB, hT, h => by
    have c1 := col_lt ht (i := i) (by omega)
    have c2 := col_down t ht i (by omega) h1
    obtain rfl : j = colN t i - colN t (i + 1) + 1 := by omega
    cases hB
    refine ⟨μ, ?_, Fr.rf, h⟩
    rw [e_Mo_makesTurns_35, nI_p1, s_Mo_column hT ht (by omega) (by omega), cI_s, nI_sub c2, bLt (by omega) (by omega)]
  | f + 1, j, n, A, B, μ, e, hj, hB, hT, h => by
    have c1 := col_lt ht (i := i) (by omega)
    have c2 := col_down t ht i (by omega) h1
    unfold tumJ at hB
    by_cases q : j ≤ n
    · rw [if_pos q] at hB
      obtain ⟨μ1, g1, g2, g3⟩ := s_timesLess h (show 0 < j by omega) (show j < 1000 by omega)
      obtain ⟨μ2, k1, k2, k3⟩ := s_turns_35 ht h1 h5 f (j + 1) (n - j) _ B μ1 (by omega) (by omega) hB (hT.fr g2 (by omega) (by omega) (by omega)) g3
      refine ⟨μ2, ?_, Fr.t2 g2 k2, k3⟩
      rw [e_Mo_makesTurns_35, nI_p1, s_Mo_column hT ht (by omega) (by omega), cI_s, nI_sub c2, bLf (by omega) (by omega), g1, cV_s, nI_p1, nI_sub q, k1]
    · rw [if_neg q] at hB
      cases hB
theorem s_turns_11 {t : Nat} (ht : t < 19) : ∀ (f i n : Nat) (A : List Int) (B : Nat × List Int) (μ : Mm), i + f = 6 → 1 ≤ i → tumF t f i n A = some B → B.1 < 100 → MT μ → HL 310 A μ → ∃ μ', m_Mo_makesTurns_11 (nI t) (nI n) (nI i) μ = some (none, μ') ∧ Fr fMade μ μ' ∧ HL 310 (shP B.1 B.2) μ'
  | 0, i, n, A, B, μ, e, hi, hB, hb, hT, h => by
    obtain rfl : i = 6 := by omega
    cases hB
    obtain ⟨μ1, g1, g2, g3⟩ := s_shifts (b := n) h (Nat.lt_trans hb (by omega))
    refine ⟨μ1, ?_, g2, g3⟩
    rw [e_Mo_makesTurns_11, bLt (by omega) (by omega), g1, cV_s]
  | f + 1, i, n, A, B, μ, e, hi, hB, hb, hT, h => by
    unfold tumF at hB
    cases hJ : tumJ (colN t i - colN t (i + 1)) 1 (n + colN t i * colN t i) A with
    | none => rw [hJ] at hB; cases hB
    | some A1 =>
      rw [hJ] at hB
      obtain ⟨μ2, k1, k2, k3⟩ := s_turns_35 ht hi (by omega) _ 1 _ _ A1 μ (by omega) (by omega) hJ hT h
      obtain ⟨μ3, l1, l2, l3⟩ := s_turns_11 ht f (i + 1) A1.1 A1.2 B μ2 (by omega) (by omega) hB hb (hT.fr k2 (by omega) (by omega) (by omega)) k3
      refine ⟨μ3, ?_, k2.t2 l2, l3⟩
      rw [e_Mo_makesTurns_11, bLf (by omega) (by omega), s_Mo_column hT ht hi (by omega), cI_s, nI_mul, nI_add, k1, l1]
theorem s_makesTurns {t : Nat} (ht : t < 19) {μ : Mm} (hT : MT μ) : ∃ μ', m_Mo_makesTurns (nI t) μ = some (none, μ') ∧ Fr fMade μ μ' ∧ HL 310 (turC t) μ' := by
  obtain ⟨μ1, g1, g2, g3⟩ := s_ones ln310 μ
  have ho := tum_ok t ht
  have he := tum_CM t ht
  unfold tumC at he
  cases hB : tumF t 5 1 0 [1] with
  | none => rw [hB] at ho; cases ho
  | some B =>
    rw [hB] at ho he
    obtain ⟨μ2, k1, k2, k3⟩ := s_turns_11 ht 5 1 0 [1] B μ1 rfl (by omega) hB (of_decide_eq_true ho) (hT.fr g2 (by omega) (by omega) (by omega)) g3
    exact ⟨μ2, by rw [e_Mo_makesTurns, g1, cV_s, k1], Fr.t2 g2 k2, k3.eq he⟩
theorem sz_lt : ∀ {t}, t < 19 → sizN t < 6 := by
  intro t
  revert t
  decide +kernel
/-- chains -/
def chn (t : Nat) : List Int := ([[1], [1], [1], [1, 1], [1], [1, 2], [1, 2, 2, 1], [1], [1, 3], [1, 3, 2], [1, 3, 5, 3], [1, 3, 5, 6, 5, 3, 1], [1], [1, 4], [1, 4, 5], [1, 4, 9, 6], [1, 4, 9, 11, 5], [1, 4, 9, 15, 16, 11, 4], [1, 4, 9, 15, 20, 22, 20, 15, 9, 4, 1]] : List (List Int)).getD t []
def chnF (t : Nat) : Nat → Nat → List Int → List Int
  | 0, _, A => A
  | f + 1, m, A => chnF t f (m + 1) (if sizN m + 1 = sizN t then addP A (mulP (subC t m) (chn m)) else A)
theorem chn_ok : ∀ t, t < 19 → t ≠ 0 → eqP (chnF t t 0 []) (chn t) = true := by decide +kernel
def CHs (μ : Mm) : Prop := ∀ t, t < 19 → HL (40 + t) (chn t) μ
def CH (μ : Mm) : Prop := μ.1 1 2 = nI 0 ∨ μ.1 1 2 = nI 1 ∧ CHs μ
theorem CHs.fr {S : Nat → Prop} {μ μ' : Mm} (h : CHs μ) (g : Fr S μ μ') (h1 : ∀ k, 40 ≤ k → k < 59 → ¬ S k) : CHs μ' := fun t ht => (h t ht).fr g (h1 _ (by omega) (by omega))
theorem CH.fr {S : Nat → Prop} {μ μ' : Mm} (h : CH μ) (g : Fr S μ μ') (h0 : ¬ S 1) (h1 : ∀ k, 40 ≤ k → k < 59 → ¬ S k) : CH μ' := by
  unfold CH
  rw [(g 1 h0).1]
  rcases h with h | ⟨h, h2⟩
  · exact Or.inl h
  · exact Or.inr ⟨h, h2.fr g h1⟩
theorem ch_cell : ∀ t, t < 19 → sub 39 t = 40 + t ∧ shK (40 + t) = 1 ∧ shN (40 + t) = 31 := by decide +kernel
abbrev fCh (k : Nat) : Prop := (40 ≤ k ∧ k < 59) ∨ k = 59
theorem s_chains_28 {t : Nat} (ht : t < 19) : ∀ (f m : Nat) (A : List Int) (μ : Mm), m + f = t → CT μ → (∀ u, u < t → HL (40 + u) (chn u) μ) → HL (40 + t) A μ → ∃ μ', m_Co_learnChains_28 (nI t) (nI m) μ = m_Co_learnChains_11 (nI (t + 1)) μ' ∧ Fr fCh μ μ' ∧ CT μ' ∧ (∀ u, u < t → HL (40 + u) (chn u) μ') ∧ HL (40 + t) (chnF t f m A) μ'
  | 0, m, A, μ, e, hC, hu, h => by
    obtain rfl : m = t := by omega
    refine ⟨μ, ?_, Fr.rf, hC, hu, h⟩
    rw [e_Co_learnChains_28, bLf (by omega) (by omega), nI_p1]
  | f + 1, m, A, μ, e, hC, hu, h => by
    have hm : m < 19 := by omega
    have s1 := sz_lt ht
    have s2 := sz_lt hm
    obtain ⟨t1, t2, t3⟩ := ch_cell t ht
    obtain ⟨m1, m2, m3⟩ := ch_cell m hm
    by_cases q : sizN m + 1 = sizN t
    · obtain ⟨μ1, g1, g2, g3⟩ := s_writeSubgroups (k := 59) (by decide) (by decide) (by omega) ht hm hC
      have hm1 : ∀ j, j < 31 → cut 31 (μ1.2 (40 + m)) j = rp (chn m) j := fun j hj => by
        unfold cut
        rw [if_pos hj, (g2 (40 + m) (by omega)).2]
        exact hu m (by omega) j hj
      obtain ⟨μ2, g4, g5, g6⟩ := c_mul (k := 59) (by decide) (by decide) m2 m3 (by omega) (by omega) (by omega) g3 hm1
      obtain ⟨μ3, g7, g8, g9⟩ := c_add1 (k := 40 + t) (b := 59) t2 t3 (by decide) (by decide) (by omega) ((h.fr g2 (by omega)).fr g5 (by omega)) g6
      have F3 : Fr fCh μ μ3 := ((g2.w (T := fCh) (fun c hc => Or.inr hc)).t2 (g5.w (fun c hc => Or.inr hc))).t2 (g8.w (fun c hc => Or.inl ⟨by omega, by omega⟩))
      have G3 : Fr (fun c => c = 59 ∨ c = 40 + t) μ μ3 := ((g2.w (T := fun c => c = 59 ∨ c = 40 + t) (fun c hc => Or.inl hc)).t2 (g5.w (fun c hc => Or.inl hc))).t2 (g8.w (fun c hc => Or.inr hc))
      obtain ⟨μ4, k1, k2, k3, k4, k5⟩ := s_chains_28 ht f (m + 1) _ μ3 (by omega) (hC.fr F3 (fun c a b => by omega) (by omega)) (fun u hu2 => (hu u hu2).fr G3 (by omega)) g9
      refine ⟨μ4, ?_, F3.t2 k2, k3, k4, ?_⟩
      · rw [e_Co_learnChains_28, bLt (by omega) (by omega), s_Ty_size hm, cI_s, s_Ty_size ht, cI_s, nI_p1, bEt q, g1, cV_s, gi hm (by omega), kl (by omega), m1, g4, cV_s, gi ht (by omega), kl (by omega), t1, g7, cV_s, nI_p1, k1]
      · show HL (40 + t) (chnF t f (m + 1) (if sizN m + 1 = sizN t then addP A (mulP (subC t m) (chn m)) else A)) μ4
        rw [if_pos q]
        exact k5
    · obtain ⟨μ4, k1, k2, k3, k4, k5⟩ := s_chains_28 ht f (m + 1) A μ (by omega) hC hu h
      refine ⟨μ4, ?_, k2, k3, k4, ?_⟩
      · rw [e_Co_learnChains_28, bLt (by omega) (by omega), s_Ty_size hm, cI_s, s_Ty_size ht, cI_s, nI_p1, bEf q (by omega) (by omega), nI_p1, k1]
      · show HL (40 + t) (chnF t f (m + 1) (if sizN m + 1 = sizN t then addP A (mulP (subC t m) (chn m)) else A)) μ4
        rw [if_neg q]
        exact k5
theorem s_chains_11 : ∀ (f t : Nat) (μ : Mm), t + f = 19 → 1 ≤ t → CT μ → (∀ u, u < t → HL (40 + u) (chn u) μ) → ∃ μ', m_Co_learnChains_11 (nI t) μ = some (none, μ') ∧ Fr fCh μ μ' ∧ CHs μ'
  | 0, t, μ, e, h1, hC, hu => by
    obtain rfl : t = 19 := by omega
    refine ⟨μ, ?_, Fr.rf, hu⟩
    rw [e_Co_learnChains_11, bLf (by omega) (by omega)]
  | f + 1, t, μ, e, h1, hC, hu => by
    have ht : t < 19 := by omega
    obtain ⟨t1, t2, t3⟩ := ch_cell t ht
    obtain ⟨μ1, g1, g2, g3⟩ := c_zero t2 t3 μ
    obtain ⟨μ2, k1, k2, k3, k4, k5⟩ := s_chains_28 ht t 0 [] μ1 (by omega) (hC.fr g2 (fun c a b => by omega) (by omega)) (fun u hu2 => (hu u hu2).fr g2 (by omega)) g3
    obtain ⟨μ3, l1, l2, l3⟩ := s_chains_11 f (t + 1) μ2 (by omega) (by omega) k3 (fun u hu2 => by
      rcases Nat.lt_succ_iff_lt_or_eq.mp hu2 with h | rfl
      · exact k4 u h
      · exact k5.eq (chn_ok u ht (by omega)))
    refine ⟨μ3, ?_, ((g2.w (fun c hc => Or.inl ⟨by omega, by omega⟩)).t2 k2).t2 l2, l3⟩
    rw [e_Co_learnChains_11, bLt ht (by omega), gi ht (by omega), kl (by omega), t1, g1, cV_s, k1, l1]
theorem s_learnChains {μ : Mm} (hC : CT μ) : ∃ μ', m_Co_learnChains μ = some (none, μ') ∧ Fr fCh μ μ' ∧ CHs μ' := by
  obtain ⟨t1, t2, t3⟩ := ch_cell 0 (by omega)
  obtain ⟨μ1, g1, g2, g3⟩ := c_one t2 t3 μ
  obtain ⟨μ2, k1, k2, k3⟩ := s_chains_11 18 1 μ1 rfl (by omega) (hC.fr g2 (fun c a b => by omega) (by omega)) (fun u hu => by
    obtain rfl : u = 0 := by omega
    exact g3)
  refine ⟨μ2, ?_, (g2.w (fun c hc => Or.inl ⟨by omega, by omega⟩)).t2 k2, k3⟩
  rw [e_Co_learnChains, gi (by omega) (by omega), kl (by omega), t1, g1, cV_s, k1]
theorem s_writeChains {t : Nat} (ht : t < 19) {μ : Mm} (hC : CT μ) (hH : CH μ) : ∃ μ', m_Co_writeChains 274 (nI t) μ = some (none, μ') ∧ Fr cW μ μ' ∧ CH μ' ∧ HL 274 (chn t) μ' := by
  obtain ⟨t1, t2, t3⟩ := ch_cell t ht
  have fin : ∀ ν : Mm, CHs ν → ∃ μ', m_Po_copy (40 + t) 274 ν = some (none, μ') ∧ Fr (fun c => c = 274) ν μ' ∧ HL 274 (chn t) μ' := fun ν hν => by
    obtain ⟨g, g1, g2⟩ := s_copy (a := 40 + t) (b := 274) (by omega) t2 t3 k274 n274 (by omega) ν
    exact ⟨_, g1, Fr.wL rfl, fun j hj => by rw [wL_s, g2 j hj, hν t ht j hj]⟩
  rcases hH with h | ⟨h, hs⟩
  · obtain ⟨μ1, g1, g2, g3⟩ := s_learnChains hC
    have F1 : Fr (fun c => c = 1) μ1 (sI μ1 1 2 (nI 1)) := Fr.sI rfl
    have hs2 := g3.fr F1 (fun k a b => by omega)
    obtain ⟨μ2, k1, k2, k3⟩ := fin _ hs2
    refine ⟨μ2, ?_, ((g2.w (fun c hc => by omega)).t2 (F1.w (fun c hc => Or.inl hc))).t2 (k2.w (fun c hc => by omega)), Or.inr ⟨?_, hs2.fr k2 (fun k a b => by omega)⟩, k3⟩
    · rw [e_Co_writeChains, h, bEt rfl, g1, cV_s, gd_h isb_1, bf (nI_lt0 (by omega)), bLt ht (by omega), gi ht (by omega), kl (by omega), t1, k1, cV_s]
    · rw [(k2 1 (by omega)).1, sI_s, up_s]
  · obtain ⟨μ2, k1, k2, k3⟩ := fin _ hs
    refine ⟨μ2, ?_, k2.w (fun c hc => by omega), Or.inr ⟨?_, hs.fr k2 (fun k a b => by omega)⟩, k3⟩
    · rw [e_Co_writeChains, h, bEf (by omega) (by omega) (by omega), bf (nI_lt0 (by omega)), bLt ht (by omega), gi ht (by omega), kl (by omega), t1, k1, cV_s]
    · rw [(k2 1 (by omega)).1, h]
