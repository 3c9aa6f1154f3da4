/-! choices, subgroups: both sides -/
theorem rowL0 {n : Nat} {F : Nat → Int64 → Int64} {f : Nat → Int64} {j : Nat} (h : j < n) : rowL 0 n F f j = F j (f j) := by
  have := rowL_in (o := 0) (F := F) (f := f) h
  rwa [Nat.zero_add] at this
theorem rowI0 {n : Nat} {F : Nat → Int32 → Int32} {f : Nat → Int32} {j : Nat} (h : j < n) : rowI 0 n F f j = F j (f j) := by
  have := rowI_in (o := 0) (F := F) (f := f) h
  rwa [Nat.zero_add] at this
theorem cvRow_in {o : Nat} {x B f : Nat → Int64} {j : Nat} (h : j < 31) : cvRow o x B f (o + j) = f (o + j) + pmul x B j := by
  unfold cvRow
  rw [if_pos (by omega), Nat.add_sub_cancel_left]
theorem cvRow_out {o : Nat} {x B f : Nat → Int64} {j : Nat} (h : j < o ∨ o + 31 ≤ j) : cvRow o x B f j = f j := if_neg (by omega)
theorem cvRow0 {x B f : Nat → Int64} {j : Nat} (h : j < 31) : cvRow 0 x B f j = f j + pmul x B j := by
  have := cvRow_in (o := 0) (x := x) (B := B) (f := f) h
  rwa [Nat.zero_add] at this
def iI (z : Int) : Int32 := Int32.ofInt z
theorem iI_n (n : Nat) : nI n = iI n := (Int32.ofInt_eq_ofNat (n := n)).symm
theorem iI_add (a b : Int) : iI a + iI b = iI (a + b) := (Int32.ofInt_add a b).symm
theorem iI_sub (a b : Int) : iI a - iI b = iI (a - b) := (Int32.ofInt_sub a b).symm
theorem iI_mul (a b : Int) : iI a * iI b = iI (a * b) := (Int32.ofInt_mul a b).symm
theorem iI_lt {a b : Int} (h1 : -1000 ≤ a) (h2 : a ≤ 1000) (h3 : -1000 ≤ b) (h4 : b ≤ 1000) : decide (iI a < iI b) = decide (a < b) := by
  have e : (iI a < iI b) ↔ a < b := by
    rw [Int32.lt_iff_toInt_lt]
    show (Int32.ofInt a).toInt < (Int32.ofInt b).toInt ↔ _
    rw [Int32.toInt_ofInt_of_le (by omega) (by omega), Int32.toInt_ofInt_of_le (by omega) (by omega)]
  by_cases q : a < b
  · rw [decide_eq_true q, decide_eq_true (e.mpr q)]
  · rw [decide_eq_false q, decide_eq_false (fun z => q (e.mp z))]
theorem iI_0 : nI 0 = iI 0 := iI_n 0
theorem iI_ltn {a : Int} {n : Nat} (h1 : -1000 ≤ a) (h2 : a ≤ 1000) (h3 : n ≤ 1000) : decide (iI a < nI n) = decide (a < (n : Int)) := by
  rw [iI_n, iI_lt h1 h2 (by omega) (by omega)]
def HL (k : Nat) (A : List Int) (μ : Mm) : Prop := ∀ j, j < 31 → μ.2 k j = rp A j
theorem HL.fr {k : Nat} {A : List Int} {S : Nat → Prop} {μ μ' : Mm} (h : HL k A μ) (g : Fr S μ μ') (h1 : ¬ S k) : HL k A μ' := fun j hj => by
  rw [(g k h1).2]
  exact h j hj
theorem HL.eq {k : Nat} {A B : List Int} {μ : Mm} (h : HL k A μ) (e : eqP A B = true) : HL k B μ := fun j hj => (h j hj).trans (rp_eq e hj)
section ROW
variable {k : Nat} {μ : Mm} {A B : List Int}
theorem c_zero (h1 : shK k = 1) (h2 : shN k = 31) (μ : Mm) : ∃ μ', m_Po_writeZero k μ = some (none, μ') ∧ Fr (fun c => c = k) μ μ' ∧ HL k [] μ' := by
  obtain ⟨g, g1, g2⟩ := s_writeZero h1 h2 (by omega) μ
  exact ⟨_, g1, Fr.wL rfl, fun j hj => by rw [wL_s, g2 j hj, rp_nil]⟩
theorem c_one (h1 : shK k = 1) (h2 : shN k = 31) (μ : Mm) : ∃ μ', m_Po_writeOne k μ = some (none, μ') ∧ Fr (fun c => c = k) μ μ' ∧ HL k [1] μ' := by
  obtain ⟨g, g1, g2⟩ := s_writeOne h1 h2 (by omega) (by omega) μ
  refine ⟨_, g1, Fr.wL rfl, fun j hj => ?_⟩
  rw [wL_s, g2 j hj]
  cases j with
  | zero => rw [if_pos rfl]; decide
  | succ j => rw [if_neg (by omega), rp_s, rp_nil]
theorem c_raise (h1 : shK k = 1) (h2 : shN k = 31) {b : Nat} (hb : b < 2 ^ 31) (h : HL k A μ) : ∃ μ', m_Po_raise k (nI b) μ = some (none, μ') ∧ Fr (fun c => c = k) μ μ' ∧ HL k (shP b A) μ' := by
  obtain ⟨g, g1, g2⟩ := s_raise h1 h2 (by omega) (by omega) hb μ
  refine ⟨_, g1, Fr.wL rfl, fun j hj => ?_⟩
  rw [wL_s, g2 j hj, rp_sh]
  by_cases q : b ≤ j
  · rw [if_pos q, if_pos q, h _ (by omega)]
  · rw [if_neg q, if_neg q]
theorem c_mul (h1 : shK k = 1) (h2 : shN k = 31) {b n : Nat} (hb1 : shK b = 1) (hb2 : shN b = n) (hn : n < 100) (hn0 : 0 < n) (hkb : k ≠ b) (h : HL k A μ) (hB : ∀ j, j < 31 → cut n (μ.2 b) j = rp B j) : ∃ μ', m_Po_multiply k b μ = some (none, μ') ∧ Fr (fun c => c = k) μ μ' ∧ HL k (mulP A B) μ' := by
  obtain ⟨g, g1, g2⟩ := s_multiply hkb h1 h2 hb1 hb2 (by omega) (by omega) (by omega) hn0 μ
  refine ⟨_, g1, Fr.wL rfl, fun j hj => ?_⟩
  rw [wL_s, g2 j hj, rp_mul, pmul_comm]
  exact pmul_congr (fun i hi => h i (by omega)) (fun i hi => hB i (by omega))
theorem c_add (h1 : shK k = 1) (h2 : shN k = 31) {b : Nat} (hb1 : shK b = 1) (hb2 : shN b = 31) (hkb : k ≠ b) {x : Int64} {z : Int} (hx : x = Int64.ofInt z) (h : HL k A μ) (hB : HL b B μ) : ∃ μ', m_Po_add k b x μ = some (none, μ') ∧ Fr (fun c => c = k) μ μ' ∧ HL k (addP A (scaP z B)) μ' := by
  obtain ⟨g, g1, g2⟩ := s_add (t := x) hkb h1 h2 hb1 hb2 (by omega) μ
  refine ⟨_, g1, Fr.wL rfl, fun j hj => ?_⟩
  rw [wL_s, g2 j hj, rp_add, rp_sca, h j hj, hB j hj, hx, Int64.mul_comm]
theorem c_lessen (h1 : shK k = 1) (h2 : shN k = 31) {b : Nat} (h0 : 0 < b) (hb : b ≤ 31) (hA : A.length ≤ 31) (h : HL k A μ) : ∃ μ', m_Po_lessen k (nI b) μ = some (none, μ') ∧ Fr (fun c => c = k) μ μ' ∧ HL k (addP A (scaP (-1) (A.drop b))) μ' := by
  obtain ⟨g, g1, g2⟩ := s_lessen h1 h2 (by omega) h0 hb μ
  refine ⟨_, g1, Fr.wL rfl, fun j hj => ?_⟩
  rw [wL_s, g2 j hj, rp_add, rp_sca, rp_drop]
  have e : ∀ x : Int64, Int64.ofInt (-1) * x = -x := fun x => by
    rw [show Int64.ofInt (-1) = -1 by decide, Int64.neg_mul, Int64.one_mul]
  rw [e, ← Int64.sub_eq_add_neg, h j hj]
  by_cases q : j + b < 31
  · rw [if_pos q, h (j + b) q]
  · rw [if_neg q, rp_len (show A.length ≤ j + b by omega), lN_z, Int64.sub_zero]
end ROW
/-- choices -/
def gauF : Nat → Nat → List Int
  | _, 0 => [1]
  | 0, _ + 1 => []
  | a + 1, b + 1 => if b ≤ a then addP (gauF a b) (shP (b + 1) (gauF a (b + 1))) else []
def chL (i : Nat) : List Int := gauF (i / 6) (i % 6)
def CT (μ : Mm) : Prop := ∀ i, i < 36 → (∀ j, j < 31 → cut 7 (μ.2 (3 + i)) j = rp (chL i) j) ∧ ∀ k, k < 31 → μ.2 312 (31 * i + k) = rp (chL i) k
theorem CT.fr {S : Nat → Prop} {μ μ' : Mm} (h : CT μ) (g : Fr S μ μ') (h1 : ∀ k, 3 ≤ k → k < 39 → ¬ S k) (h2 : ¬ S 312) : CT μ' := fun i hi => by
  rw [(g _ (h1 (3 + i) (by omega) (by omega))).2, (g _ h2).2]
  exact h i hi
theorem ch_row : ∀ i, i < 36 → sub 2 i = 3 + i ∧ shK (3 + i) = 1 ∧ shN (3 + i) = 7 := by decide +kernel
def chI (a b : Int) : Nat := if 0 ≤ a ∧ a < 6 ∧ 0 ≤ b ∧ b < 6 then (6 * a + b).toNat else 1
theorem chI_lt (a b : Int) : chI a b < 36 := by
  unfold chI
  split <;> omega
theorem s_Co_chosen {a b : Int} (a1 : -1000 ≤ a) (a2 : a ≤ 1000) (b1 : -1000 ≤ b) (b2 : b ≤ 1000) (μ : Mm) : m_Co_chosen (iI a) (iI b) μ = some (some (.ref (3 + chI a b)), μ) := by
  have o : (bif decide (nI 0 = nI 0) then (gd (inb (nI 1) 36) (some (some (Value.ref (sub 2 (nI 1).toNatClampNeg)), μ))) else (gd (inb ((iI a * (nI 6)) + iI b) 36) (some (some (Value.ref (sub 2 ((iI a * (nI 6)) + iI b).toNatClampNeg)), μ)))) = some (some (.ref (3 + 1)), μ) := by
    rw [bt (by decide), gi (by omega) (by omega), kl (by omega)]
    rfl
  rw [e_Co_chosen, iI_ltn a1 a2 (by omega), iI_ltn a1 a2 (by omega), iI_ltn b1 b2 (by omega), iI_ltn b1 b2 (by omega)]
  unfold chI
  by_cases h1 : a < ((0 : Nat) : Int)
  · rw [decide_eq_true h1, if_neg (by omega)]
    exact o
  · by_cases h2 : a < ((6 : Nat) : Int)
    · by_cases h3 : b < ((0 : Nat) : Int)
      · rw [decide_eq_false h1, decide_eq_true h2, decide_eq_true h3, if_neg (by omega)]
        exact o
      · by_cases h4 : b < ((6 : Nat) : Int)
        · rw [decide_eq_false h1, decide_eq_true h2, decide_eq_false h3, decide_eq_true h4, if_pos (by omega)]
          simp only [cond_true, cond_false]
          obtain ⟨a', rfl⟩ : ∃ n : Nat, a = n := ⟨a.toNat, by omega⟩
          obtain ⟨b', rfl⟩ : ∃ n : Nat, b = n := ⟨b.toNat, by omega⟩
          have e : (6 * (a' : Int) + b').toNat = 6 * a' + b' := by omega
          rw [bf (by decide), ← iI_n, ← iI_n, nI_mul, nI_add, gi (by omega) (by omega), kl (by omega), e, show a' * 6 + b' = 6 * a' + b' by omega, (ch_row _ (by omega)).1]
        · rw [decide_eq_false h1, decide_eq_true h2, decide_eq_false h3, decide_eq_false h4, if_neg (by omega)]
          exact o
    · rw [decide_eq_false h1, decide_eq_false h2, if_neg (by omega)]
      exact o
/-- the reference's product with choices -/
def chM (a b : Int) : List Int := if 0 ≤ b ∧ b ≤ a then chL (6 * a + b).toNat else []
theorem s_ones {c : Nat} (hc : lnL c = 31) (μ : Mm) : ∃ μ', m_Mo_ones c μ = some (none, μ') ∧ Fr (fun k => k = c) μ μ' ∧ HL c [1] μ' := by
  have h1 := lp_L (L := fun i m => m_Mo_ones_2 c (nI i) m) (K := kN) (μ := μ) c 0 31 (fun i _ => if i = 0 then lN 1 else lN 0) (fun i f hi _ => by
    show m_Mo_ones_2 c (nI i) _ = m_Mo_ones_2 c (nI (i + 1)) _
    rw [e_Mo_ones_2, bLt hi (by omega), hc, nI_p1, kl (by omega), wL_u, wL_u, Nat.zero_add, d_eq (by omega) (by omega)]
    by_cases q : i = 0
    · rw [decide_eq_true q, if_pos q, cond_true, gi hi (by omega)]
    · rw [decide_eq_false q, if_neg q, cond_false, gi hi (by omega)]) (fun f => by
    show m_Mo_ones_2 c (nI 31) _ = _
    rw [e_Mo_ones_2, bLf (by omega) (by omega)])
  refine ⟨_, (e_Mo_ones c μ).trans h1, Fr.wL rfl, fun j hj => ?_⟩
  rw [wL_s]
  unfold rowL
  rw [if_pos ⟨Nat.zero_le j, by omega⟩]
  show (if j - 0 = 0 then lN 1 else lN 0) = _
  cases j with
  | zero => decide
  | succ j => rw [if_neg (by omega), rp_s, rp_nil]
theorem ln310 : lnL 310 = 31 := by decide
theorem s_timesChoices {μ : Mm} {A : List Int} (hC : CT μ) (h : HL 310 A μ) {a b : Int} (a1 : -100 ≤ a) (a2 : a ≤ 100) (b1 : -100 ≤ b) (b2 : b ≤ 100) (hab : 0 ≤ b → b ≤ a → a ≤ 5) : ∃ μ', m_Mo_timesChoices (iI a) (iI b) μ = some (none, μ') ∧ Fr (fun k => k = 310 ∨ k = 311) μ μ' ∧ HL 310 (mulP A (chM a b)) μ' := by
  have h1 := lp_L (L := fun i m => m_Mo_timesChoices_2 (iI a) (iI b) (nI i) m) (K := fun m => m_Mo_timesChoices_23 (iI a) (iI b) (nI 0) m) (μ := μ) 311 0 31 (fun _ _ => lN 0) (fun i f hi _ => by
    show m_Mo_timesChoices_2 _ _ (nI i) _ = m_Mo_timesChoices_2 _ _ (nI (i + 1)) _
    rw [e_Mo_timesChoices_2, bLt hi (by omega), gi hi (by omega), nI_p1, kl (by omega), wL_u, Nat.zero_add]) (fun f => by
    show m_Mo_timesChoices_2 _ _ (nI 31) _ = _
    rw [e_Mo_timesChoices_2, bLf (by omega) (by omega)])
  have h2 := lp_C (Lo := fun i m => m_Mo_timesChoices_23 (iI a) (iI b) (nI i) m) (Li := fun i j m => m_Mo_timesChoices_32 (iI a) (iI b) (nI i) (nI j) m) (K := fun m => m_Mo_timesChoices_115 (nI 0) m) (μ := wL μ 311 (rowL 0 31 (fun _ _ => lN 0) (μ.2 311))) 311 0 (μ.2 310) (rp (chM a b)) (fun i f hi => by
    show m_Mo_timesChoices_23 _ _ (nI i) _ = _
    rw [e_Mo_timesChoices_23, bLt hi (by omega)]) (fun i hi => by
    by_cases q : μ.2 310 i = lN 0
    · refine Or.inr ⟨q, fun f => ?_⟩
      show m_Mo_timesChoices_32 _ _ (nI i) (nI 0) _ = m_Mo_timesChoices_23 _ _ (nI (i + 1)) _
      rw [e_Mo_timesChoices_32, nI_add, bLt (by omega) (by omega), gi hi (by omega), kl (by omega), wL_w, wL_o (by omega), lgc_eq, bt (decide_eq_true q), nI_p1]
    · refine Or.inl ⟨fun j f hij => ?_, fun f => ?_⟩
      · show m_Mo_timesChoices_32 _ _ (nI i) (nI j) _ = m_Mo_timesChoices_32 _ _ (nI i) (nI (j + 1)) _
        rw [e_Mo_timesChoices_32, nI_add j i, nI_add i j, bLt (by omega) (by omega), gi hi (by omega), kl (by omega), kl (by omega), wL_w, wL_w, wL_o (by omega), lgc_eq, bf (decide_eq_false q), gi (by omega) (by omega), gi hi (by omega), wL_s, iI_ltn (by omega) (by omega) (by omega), iI_lt (by omega) (by omega) (by omega) (by omega), nI_p1, Nat.zero_add]
        unfold chM
        by_cases c1 : b < ((0 : Nat) : Int)
        · rw [bt (decide_eq_true c1), gi (by omega) (by omega), if_neg (by omega), rp_nil, wL_u]
        · rw [bf (decide_eq_false c1)]
          by_cases c2 : a < b
          · rw [bt (decide_eq_true c2), gi (by omega) (by omega), if_neg (by omega), rp_nil, wL_u]
          · have ha := hab (by omega) (by omega)
            obtain ⟨a', rfl⟩ : ∃ n : Nat, a = n := ⟨a.toNat, by omega⟩
            obtain ⟨b', rfl⟩ : ∃ n : Nat, b = n := ⟨b.toNat, by omega⟩
            have e : (6 * (a' : Int) + b').toNat = 6 * a' + b' := by omega
            rw [bf (decide_eq_false c2), ← iI_n, ← iI_n, nI_mul, nI_add, nI_mul, nI_add, gi (by omega) (by omega), gi (by omega) (by omega), kl (by omega), if_pos ⟨by omega, by omega⟩, e, wL_o (by omega), Nat.mul_comm (6 * a' + b') 31, (hC (6 * a' + b') (by omega)).2 j (by omega), wL_u]
      · show m_Mo_timesChoices_32 _ _ (nI i) (nI (31 - i)) _ = m_Mo_timesChoices_23 _ _ (nI (i + 1)) _
        rw [e_Mo_timesChoices_32, nI_add, bLf (by omega) (by omega), nI_p1]) (fun f => by
    show m_Mo_timesChoices_23 _ _ (nI 31) _ = _
    rw [e_Mo_timesChoices_23, bLf (by omega) (by omega)])
  rw [wL_s, wL_w] at h2
  have h3 := lp_L (L := fun i m => m_Mo_timesChoices_115 (nI i) m) (K := kN) (μ := wL μ 311 (cvRow 0 (μ.2 310) (rp (chM a b)) (rowL 0 31 (fun _ _ => lN 0) (μ.2 311)))) 310 0 31 (fun i _ => cvRow 0 (μ.2 310) (rp (chM a b)) (rowL 0 31 (fun _ _ => lN 0) (μ.2 311)) i) (fun i f hi _ => by
    show m_Mo_timesChoices_115 (nI i) _ = m_Mo_timesChoices_115 (nI (i + 1)) _
    rw [e_Mo_timesChoices_115, bLt hi (by omega), gi hi (by omega), gi hi (by omega), nI_p1, kl (by omega), wL_u, wL_o (by omega), wL_s, Nat.zero_add]) (fun f => by
    show m_Mo_timesChoices_115 (nI 31) _ = _
    rw [e_Mo_timesChoices_115, bLf (by omega) (by omega)])
  refine ⟨_, (e_Mo_timesChoices _ _ μ).trans (h1.trans (h2.trans h3)), (Fr.wL (Or.inr rfl)).t2 (Fr.wL (Or.inl rfl)), fun j hj => ?_⟩
  rw [wL_s, rowL0 hj]
  show cvRow 0 (μ.2 310) (rp (chM a b)) (rowL 0 31 (fun _ _ => lN 0) (μ.2 311)) j = _
  rw [cvRow0 hj, rowL0 hj, l_0a, rp_mul]
  exact pmul_congr (fun i hi => h i (by omega)) (fun _ _ => rfl)
theorem s_shifts {μ : Mm} {A : List Int} (h : HL 310 A μ) {b : Nat} (hb : b < 1000) : ∃ μ', m_Mo_shifts (nI b) μ = some (none, μ') ∧ Fr (fun k => k = 310) μ μ' ∧ HL 310 (shP b A) μ' := by
  have key : ∀ i, i < 31 → ∀ f : Nat → Int64, (∀ j, j ≤ i → f j = μ.2 310 j) → (∀ j, i < j → j < 31 → f j = rp (shP b A) j) → ∃ g, m_Mo_shifts_3 (nI b) (nI i) (wL μ 310 f) = some (none, wL μ 310 g) ∧ ∀ j, j < 31 → g j = rp (shP b A) j := by
    have st : ∀ i, i < 31 → ∀ f : Nat → Int64, (∀ j, j ≤ i → f j = μ.2 310 j) → m_Mo_shifts_3 (nI b) (nI i) (wL μ 310 f) = m_Mo_shifts_3 (nI b) (nI i + (-1 : Int32)) (wL μ 310 (vp_updL f i (rp (shP b A) i))) := fun i hi f hf => by
      rw [e_Mo_shifts_3, bf (nI_lt0 (by omega)), rp_sh]
      by_cases q : i < b
      · rw [bLt q (by omega), gi hi (by omega), kl (by omega), wL_u, if_neg (by omega)]
      · rw [bLf (by omega) (by omega), nI_sub (by omega), gi (by omega) (by omega), gi hi (by omega), kl (by omega), kl (by omega), wL_u, wL_s, if_pos (by omega), hf (i - b) (by omega), h (i - b) (by omega)]
    intro i
    induction i with
    | zero =>
      intro hi f hf hg
      refine ⟨vp_updL f 0 (rp (shP b A) 0), ?_, fun j hj => ?_⟩
      · rw [st 0 hi f hf, nI_z1, e_Mo_shifts_3, bt d_neg]
      · by_cases q : j = 0
        · rw [q, uL_s]
        · rw [uL_o q, hg j (by omega) hj]
    | succ i ih =>
      intro hi f hf hg
      obtain ⟨g, g1, g2⟩ := ih (by omega) (vp_updL f (i + 1) (rp (shP b A) (i + 1))) (fun j hj => by rw [uL_o (by omega), hf j (by omega)]) (fun j hj hj2 => by
        by_cases q : j = i + 1
        · rw [q, uL_s]
        · rw [uL_o q, hg j (by omega) hj2])
      exact ⟨g, by rw [st (i + 1) hi f hf, nI_m1, g1], g2⟩
  obtain ⟨g, g1, g2⟩ := key 30 (by omega) (μ.2 310) (fun _ _ => rfl) (fun j hj hj2 => absurd hj (by omega))
  rw [wL_e] at g1
  exact ⟨_, (e_Mo_shifts _ μ).trans g1, Fr.wL rfl, fun j hj => by rw [wL_s, g2 j hj]⟩
/-- subgroups of a type: the class's row, the reference's -/
def subF (l m : Nat) : Nat → Nat → List Int → List Int
  | 0, _, A => A
  | f + 1, i, A => subF l m f (i + 1) (mulP (shP (colN m (i + 1) * (colN l i - colN m i)) A) (chL (6 * (colN l i - colN m (i + 1)) + (colN m i - colN m (i + 1)))))
def subC (l m : Nat) : List Int := if liesN m l then subF l m 5 1 [1] else []
def subG (l m : Nat) : Nat → Nat → List Int → List Int
  | 0, _, A => A
  | f + 1, i, A => subG l m f (i + 1) (shP (colN m (i + 1) * (colN l i - colN m i)) (mulP A (chL (6 * (colN l i - colN m (i + 1)) + (colN m i - colN m (i + 1))))))
def subM (l m : Nat) : List Int := if liesN m l then subG l m 5 1 [1] else []
theorem sub_CM : ∀ l, l < 19 → ∀ m, m < 19 → eqP (subM l m) (subC l m) = true := by decide +kernel
theorem lies_col : ∀ l, l < 19 → ∀ m, m < 19 → ∀ i, i < 6 → (liesN m l = true ∧ 1 ≤ i) → colN m i ≤ colN l i := by decide +kernel
theorem col_down : ∀ m, m < 19 → ∀ i, i < 6 → 1 ≤ i → colN m (i + 1) ≤ colN m i := by decide +kernel
theorem s_Co_sub20 {k l m : Nat} (h1 : shK k = 1) (h2 : shN k = 31) (hk : 38 < k) (hl : l < 19) (hm : m < 19) (hL : liesN m l = true) : ∀ (f i : Nat) (A : List Int) (μ : Mm), i + f = 6 → 1 ≤ i → CT μ → HL k A μ → ∃ μ', m_Co_writeSubgroups_20 k (nI l) (nI m) (nI i) μ = some (none, μ') ∧ Fr (fun c => c = k) μ μ' ∧ HL k (subF l m f i A) μ'
  | 0, i, A, μ, e, _, hC, h => by
    obtain rfl : i = 6 := by omega
    refine ⟨μ, ?_, Fr.rf, h⟩
    rw [e_Co_writeSubgroups_20, bLt (by omega) (by omega)]
  | f + 1, i, A, μ, e, hi, hC, h => by
    have c1 := col_lt hl (i := i) (by omega)
    have c2 := lies_col l hl m hm i (by omega) ⟨hL, hi⟩
    have c3 := col_down m hm i (by omega) hi
    have c4 : colN m (i + 1) * (colN l i - colN m i) ≤ 5 * 5 := Nat.mul_le_mul (by omega) (by omega)
    obtain ⟨μ1, g1, g2, g3⟩ := c_raise (b := colN m (i + 1) * (colN l i - colN m i)) h1 h2 (by omega) h
    have hix : 6 * (colN l i - colN m (i + 1)) + (colN m i - colN m (i + 1)) < 36 := by omega
    have hC1 := hC.fr g2 (fun c a b => by omega) (by
      intro q
      rw [← q] at h2
      exact absurd h2 (by decide))
    obtain ⟨r1, r2, r3⟩ := ch_row _ hix
    obtain ⟨μ2, g4, g5, g6⟩ := c_mul h1 h2 r2 r3 (by omega) (by omega) (by omega) g3 (fun j hj => (hC1 _ hix).1 j hj)
    have hC2 := hC1.fr g5 (fun c a b => by omega) (by
      intro q
      rw [← q] at h2
      exact absurd h2 (by decide))
    obtain ⟨μ3, k1, k2, k3⟩ := s_Co_sub20 h1 h2 hk hl hm hL f (i + 1) _ μ2 (by omega) (by omega) hC2 g6
    refine ⟨μ3, ?_, (g2.t2 g5).t2 k2, k3⟩
    have hch : m_Co_chosen (nI (colN l i) - nI (colN m (i + 1))) (nI (colN m i) - nI (colN m (i + 1))) μ1 = some (some (.ref (3 + (6 * (colN l i - colN m (i + 1)) + (colN m i - colN m (i + 1))))), μ1) := by
      have e : chI ((colN l i - colN m (i + 1) : Nat) : Int) ((colN m i - colN m (i + 1) : Nat) : Int) = 6 * (colN l i - colN m (i + 1)) + (colN m i - colN m (i + 1)) := by
        unfold chI
        rw [if_pos (by omega)]
        omega
      rw [nI_sub (by omega), nI_sub (by omega), iI_n, iI_n, s_Co_chosen (by omega) (by omega) (by omega) (by omega), e]
    rw [e_Co_writeSubgroups_20, bLf (by omega) (by omega), s_Ty_column hl (by omega), cI_s, s_Ty_column hm (by omega), cI_s, nI_p1, s_Ty_column hm (by omega), cI_s, nI_sub c2, nI_mul, g1, cV_s, hch, cA_s, g4, cV_s, k1]
theorem not312 {k : Nat} (h2 : shN k = 31) : ¬ 312 = k := fun q => by
  rw [← q] at h2
  exact absurd h2 (by decide)
theorem s_writeSubgroups {k l m : Nat} (h1 : shK k = 1) (h2 : shN k = 31) (hk : 38 < k) (hl : l < 19) (hm : m < 19) {μ : Mm} (hC : CT μ) : ∃ μ', m_Co_writeSubgroups k (nI l) (nI m) μ = some (none, μ') ∧ Fr (fun c => c = k) μ μ' ∧ HL k (subC l m) μ' := by
  unfold subC
  cases hL : liesN m l
  · obtain ⟨μ1, g1, g2, g3⟩ := c_zero h1 h2 μ
    refine ⟨μ1, ?_, g2, g3⟩
    rw [e_Co_writeSubgroups, s_Ty_lies hm hl, cI_s, b2i_n, hL]
    show cV (m_Po_writeZero k μ) _ = _
    rw [g1, cV_s]
  · obtain ⟨μ1, g1, g2, g3⟩ := c_one h1 h2 μ
    obtain ⟨μ2, g4, g5, g6⟩ := s_Co_sub20 h1 h2 hk hl hm hL 5 1 [1] μ1 rfl (by omega) (hC.fr g2 (fun c a b => by omega) (not312 h2)) g3
    refine ⟨μ2, ?_, g2.t2 g5, g6⟩
    rw [e_Co_writeSubgroups, s_Ty_lies hm hl, cI_s, b2i_n, hL]
    show cV (m_Po_writeOne k μ) _ = _
    rw [g1, cV_s, g4]
abbrev f310 (k : Nat) : Prop := k = 310 ∨ k = 311
theorem s_Mo_sub26 {l m : Nat} (hl : l < 19) (hm : m < 19) (hL : liesN m l = true) : ∀ (f i : Nat) (A : List Int) (μ : Mm), i + f = 6 → 1 ≤ i → CT μ → MT μ → HL 310 A μ → ∃ μ', m_Mo_makesSubgroups_26 (nI l) (nI m) (nI i) μ = some (none, μ') ∧ Fr f310 μ μ' ∧ HL 310 (subG l m f i A) μ'
  | 0, i, A, μ, e, _, hC, hT, h => by
    obtain rfl : i = 6 := by omega
    refine ⟨μ, ?_, Fr.rf, h⟩
    rw [e_Mo_makesSubgroups_26, bLt (by omega) (by omega)]
  | f + 1, i, A, μ, e, hi, hC, hT, h => by
    have c1 := col_lt hl (i := i) (by omega)
    have c2 := lies_col l hl m hm i (by omega) ⟨hL, hi⟩
    have c3 := col_down m hm i (by omega) hi
    have c4 : colN m (i + 1) * (colN l i - colN m i) ≤ 5 * 5 := Nat.mul_le_mul (by omega) (by omega)
    obtain ⟨μ1, g1, g2, g3⟩ := s_timesChoices hC h (a := ((colN l i - colN m (i + 1) : Nat) : Int)) (b := ((colN m i - colN m (i + 1) : Nat) : Int)) (by omega) (by omega) (by omega) (by omega) (by omega)
    have e2 : chM ((colN l i - colN m (i + 1) : Nat) : Int) ((colN m i - colN m (i + 1) : Nat) : Int) = chL (6 * (colN l i - colN m (i + 1)) + (colN m i - colN m (i + 1))) := by
      unfold chM
      rw [if_pos (by omega)]
      congr 1
    rw [e2] at g3
    obtain ⟨μ2, g4, g5, g6⟩ := s_shifts (b := colN m (i + 1) * (colN l i - colN m i)) g3 (by omega)
    have F2 := g2.t2 (g5.w (T := f310) (fun k hk => Or.inl hk))
    have hT1 := hT.fr g2 (by omega) (by omega) (by omega)
    obtain ⟨μ3, k1, k2, k3⟩ := s_Mo_sub26 hl hm hL f (i + 1) _ μ2 (by omega) (by omega) (hC.fr F2 (fun c a b => by omega) (by omega)) (hT.fr F2 (by omega) (by omega) (by omega)) g6
    refine ⟨μ3, ?_, F2.t2 k2, k3⟩
    rw [e_Mo_makesSubgroups_26, bLf (by omega) (by omega), nI_p1, s_Mo_column hT hm (by omega) (by omega), cI_s, s_Mo_column hT hl hi (by omega), cI_s, s_Mo_column hT hm hi (by omega), cI_s, nI_sub (by omega), nI_sub (by omega), iI_n (colN l i - colN m (i + 1)), iI_n (colN m i - colN m (i + 1)), g1, cV_s, s_Mo_column hT1 hl hi (by omega), cI_s, s_Mo_column hT1 hm hi (by omega), cI_s, nI_sub (by omega), nI_mul, g4, cV_s, k1]
theorem s_makesSubgroups {l m : Nat} (hl : l < 19) (hm : m < 19) {μ : Mm} (hC : CT μ) (hT : MT μ) : ∃ μ', m_Mo_makesSubgroups (nI l) (nI m) μ = some (none, μ') ∧ Fr f310 μ μ' ∧ HL 310 (subC l m) μ' := by
  obtain ⟨μ1, g1, g2, g3⟩ := s_ones ln310 μ
  have hT1 := hT.fr g2 (by omega) (by omega) (by omega)
  have hC1 := hC.fr g2 (fun c a b => by omega) (by omega)
  have g2' := g2.w (T := f310) (fun k hk => Or.inl hk)
  cases hL : liesN m l
  · refine ⟨sL μ1 310 0 (lN 0), ?_, g2'.t2 (Fr.sL (Or.inl rfl)), ?_⟩
    · rw [e_Mo_makesSubgroups, g1, cV_s, s_Mo_isIn hT1 hm hl, cI_s, b2i_n, hL, Bool.not_false, cond_true, gi (by omega) (by omega), kl (by omega)]
    · intro j hj
      unfold subC
      rw [hL, sL_s]
      show _ = rp [] j
      rw [rp_nil]
      cases j with
      | zero => rw [uL_s]
      | succ j => rw [uL_o (by omega), g3 _ hj, rp_s, rp_nil]
  · obtain ⟨μ2, g4, g5, g6⟩ := s_Mo_sub26 hl hm hL 5 1 [1] μ1 rfl (by omega) hC1 hT1 g3
    refine ⟨μ2, ?_, g2'.t2 g5, ?_⟩
    · rw [e_Mo_makesSubgroups, g1, cV_s, s_Mo_isIn hT1 hm hl, cI_s, b2i_n, hL]
      exact g4
    · have := sub_CM l hl m hm
      unfold subM at this
      rw [hL] at this
      exact g6.eq this
