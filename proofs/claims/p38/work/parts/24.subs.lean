/-! choices, subgroups: both sides -/
def iI (z : Int) : Int32 := Int32.ofInt z
theorem iI_n (n : Nat) : nI n = iI n := (Int32.ofInt_eq_ofNat (n := n)).symm
theorem iI_sub (a b : Int) : iI a - iI b = iI (a - b) := (Int32.ofInt_sub a b).symm
theorem iI_mul (a b : Int) : iI a * iI b = iI (a * b) := (Int32.ofInt_mul a b).symm
theorem iI_lt {a b : Int} (h1 : -1000 ≤ a) (h2 : a ≤ 1000) (h3 : -1000 ≤ b) (h4 : b ≤ 1000) : decide (iI a < iI b) = decide (a < b) := by
  have e : (iI a < iI b) ↔ a < b := by
    rw [Int32.lt_iff_toInt_lt]
    show (Int32.ofInt a).toInt < (Int32.ofInt b).toInt ↔ _
    rw [Int32.toInt_ofInt_of_le (by omega) (by omega), Int32.toInt_ofInt_of_le (by omega) (by omega)]
  by_cases q : a < b
  · rw [decide_eq_true q, decide_eq_true (e.mpr q)]
  · rw [decide_eq_false q, decide_eq_false (fun z => q (e.mp z))]
theorem iI_0 : nI 0 = iI 0 := iI_n 0
theorem iI_ltn {a : Int} {n : Nat} (h1 : -1000 ≤ a) (h2 : a ≤ 1000) (h3 : n ≤ 1000) : decide (iI a < nI n) = decide (a < (n : Int)) := by
  rw [iI_n, iI_lt h1 h2 (by omega) (by omega)]
def HL (k : Nat) (A : List Int) (μ : Mm) : Prop := ∀ j, j < 31 → μ.2 k j = rp A j
theorem HL.fr {k : Nat} {A : List Int} {S : Nat → Prop} {μ μ' : Mm} (h : HL k A μ) (g : Fr S μ μ') (h1 : ¬ S k) : HL k A μ' := fun j hj => by
  rw [(g k h1).2]
  exact h j hj
theorem HL.eq {k : Nat} {A B : List Int} {μ : Mm} (h : HL k A μ) (e : eqP A B = true) : HL k B μ := fun j hj => (h j hj).trans (rp_eq e hj)
section ROW
variable {k : Nat} {μ : Mm} {A B : List Int}
theorem c_zero (h1 : shK k = 1) (h2 : shN k = 31) (μ : Mm) : ∃ μ', m_Po_writeZero k μ = some (none, μ') ∧ Fr (fun c => c = k) μ μ' ∧ HL k [] μ' := by
  obtain ⟨g, g1, g2⟩ := s_writeZero h1 h2 (by omega) μ
  exact ⟨_, g1, Fr.wL rfl, fun j hj => by rw [wL_s, g2 j hj, rp_nil]⟩
theorem c_one (h1 : shK k = 1) (h2 : shN k = 31) (μ : Mm) : ∃ μ', m_Po_writeOne k μ = some (none, μ') ∧ Fr (fun c => c = k) μ μ' ∧ HL k [1] μ' := by
  obtain ⟨g, g1, g2⟩ := s_writeOne h1 h2 (by omega) (by omega) μ
  refine ⟨_, g1, Fr.wL rfl, fun j hj => ?_⟩
  rw [wL_s, g2 j hj]
  cases j with
  | zero => rw [if_pos rfl]; decide
  | succ j => rw [if_neg (by omega), rp_s, rp_nil]
theorem c_raise (h1 : shK k = 1) (h2 : shN k = 31) {b : Nat} (hb : b < 2 ^ 31) (h : HL k A μ) : ∃ μ', m_Po_raise k (nI b) μ = some (none, μ') ∧ Fr (fun c => c = k) μ μ' ∧ HL k (shP b A) μ' := by
  obtain ⟨g, g1, g2⟩ := s_raise h1 h2 (by omega) (by omega) hb μ
  refine ⟨_, g1, Fr.wL rfl, fun j hj => ?_⟩
  rw [wL_s, g2 j hj, rp_sh]
  by_cases q : b ≤ j
  · rw [if_pos q, if_pos q, h _ (by omega)]
  · rw [if_neg q, if_neg q]
theorem c_mul (h1 : shK k = 1) (h2 : shN k = 31) {b n : Nat} (hb1 : shK b = 1) (hb2 : shN b = n) (hn : n < 100) (hn0 : 0 < n) (hkb : k ≠ b) (h : HL k A μ) (hB : ∀ j, j < 31 → cut n (μ.2 b) j = rp B j) : ∃ μ', m_Po_multiply k b μ = some (none, μ') ∧ Fr (fun c => c = k) μ μ' ∧ HL k (mulP A B) μ' := by
  obtain ⟨g, g1, g2⟩ := s_multiply hkb h1 h2 hb1 hb2 (by omega) (by omega) (by omega) hn0 μ
  refine ⟨_, g1, Fr.wL rfl, fun j hj => ?_⟩
  rw [wL_s, g2 j hj, rp_mul, pmul_comm]
  exact pmul_congr (fun i hi => h i (by omega)) (fun i hi => hB i (by omega))
theorem c_add (h1 : shK k = 1) (h2 : shN k = 31) {b : Nat} (hb1 : shK b = 1) (hb2 : shN b = 31) (hkb : k ≠ b) {x : Int64} {z : Int} (hx : x = Int64.ofInt z) (h : HL k A μ) (hB : HL b B μ) : ∃ μ', m_Po_add k b x μ = some (none, μ') ∧ Fr (fun c => c = k) μ μ' ∧ HL k (addP A (scaP z B)) μ' := by
  obtain ⟨g, g1, g2⟩ := s_add (t := x) hkb h1 h2 hb1 hb2 (by omega) μ
  refine ⟨_, g1, Fr.wL rfl, fun j hj => ?_⟩
  rw [wL_s, g2 j hj, rp_add, rp_sca, h j hj, hB j hj, hx, Int64.mul_comm]
end ROW
/-- choices -/
def gauF : Nat → Nat → List Int
  | _, 0 => [1]
  | 0, _ + 1 => []
  | a + 1, b + 1 => if b ≤ a then addP (gauF a b) (shP (b + 1) (gauF a (b + 1))) else []
def chL (i : Nat) : List Int := gauF (i / 6) (i % 6)
def CT (μ : Mm) : Prop := ∀ i, i < 36 → (∀ j, j < 31 → cut 7 (μ.2 (3 + i)) j = rp (chL i) j) ∧ ∀ k, k < 31 → μ.2 312 (31 * i + k) = rp (chL i) k
theorem CT.fr {S : Nat → Prop} {μ μ' : Mm} (h : CT μ) (g : Fr S μ μ') (h1 : ∀ k, 3 ≤ k → k < 39 → ¬ S k) (h2 : ¬ S 312) : CT μ' := fun i hi => by
  rw [(g _ (h1 (3 + i) (by omega) (by omega))).2, (g _ h2).2]
  exact h i hi
theorem ch_row : ∀ i, i < 36 → sub 2 i = 3 + i ∧ shK (3 + i) = 1 ∧ shN (3 + i) = 7 := by decide +kernel
def chI (a b : Int) : Nat := if 0 ≤ a ∧ a < 6 ∧ 0 ≤ b ∧ b < 6 then (6 * a + b).toNat else 1
theorem chI_lt (a b : Int) : chI a b < 36 := by
  unfold chI
  split <;> omega
theorem s_Co_chosen {a b : Int} (a1 : -1000 ≤ a) (a2 : a ≤ 1000) (b1 : -1000 ≤ b) (b2 : b ≤ 1000) (μ : Mm) : m_Co_chosen (iI a) (iI b) μ = some (some (.ref (3 + chI a b)), μ) := by
  have o : (bif decide (nI 0 = nI 0) then (gd (inb (nI 1) 36) (some (some (Value.ref (sub 2 (nI 1).toNatClampNeg)), μ))) else (gd (inb ((iI a * (nI 6)) + iI b) 36) (some (some (Value.ref (sub 2 ((iI a * (nI 6)) + iI b).toNatClampNeg)), μ)))) = some (some (.ref (3 + 1)), μ) := by
    rw [bt (by decide), gi (by omega) (by omega), kl (by omega)]
    rfl
  rw [e_Co_chosen, iI_ltn a1 a2 (by omega), iI_ltn a1 a2 (by omega), iI_ltn b1 b2 (by omega), iI_ltn b1 b2 (by omega)]
  unfold chI
  by_cases h1 : a < ((0 : Nat) : Int)
  · rw [decide_eq_true h1, if_neg (by omega)]
    exact o
  · by_cases h2 : a < ((6 : Nat) : Int)
    · by_cases h3 : b < ((0 : Nat) : Int)
      · rw [decide_eq_false h1, decide_eq_true h2, decide_eq_true h3, if_neg (by omega)]
        exact o
      · by_cases h4 : b < ((6 : Nat) : Int)
        · rw [decide_eq_false h1, decide_eq_true h2, decide_eq_false h3, decide_eq_true h4, if_pos (by omega)]
          simp only [cond_true, cond_false]
          obtain ⟨a', rfl⟩ : ∃ n : Nat, a = n := ⟨a.toNat, by omega⟩
          obtain ⟨b', rfl⟩ : ∃ n : Nat, b = n := ⟨b.toNat, by omega⟩
          have e : (6 * (a' : Int) + b').toNat = 6 * a' + b' := by omega
          rw [bf (by decide), ← iI_n, ← iI_n, nI_mul, nI_add, gi (by omega) (by omega), kl (by omega), e, show a' * 6 + b' = 6 * a' + b' by omega, (ch_row _ (by omega)).1]
        · rw [decide_eq_false h1, decide_eq_true h2, decide_eq_false h3, decide_eq_false h4, if_neg (by omega)]
          exact o
    · rw [decide_eq_false h1, decide_eq_false h2, if_neg (by omega)]
      exact o
/-- subgroups of a type: the class's row, the reference's -/
def subF (l m : Nat) : Nat → Nat → List Int → List Int
  | 0, _, A => A
  | f + 1, i, A => subF l m f (i + 1) (mulP (shP (colN m (i + 1) * (colN l i - colN m i)) A) (chL (6 * (colN l i - colN m (i + 1)) + (colN m i - colN m (i + 1)))))
def subC (l m : Nat) : List Int := if liesN m l then subF l m 5 1 [1] else []
theorem lies_col : ∀ l, l < 19 → ∀ m, m < 19 → ∀ i, i < 6 → (liesN m l = true ∧ 1 ≤ i) → colN m i ≤ colN l i := by decide +kernel
theorem col_down : ∀ m, m < 19 → ∀ i, i < 6 → 1 ≤ i → colN m (i + 1) ≤ colN m i := by decide +kernel
theorem s_Co_sub20 {k l m : Nat} (h1 : shK k = 1) (h2 : shN k = 31) (hk : 38 < k) (hl : l < 19) (hm : m < 19) (hL : liesN m l = true) : ∀ (f i : Nat) (A : List Int) (μ : Mm), i + f = 6 → 1 ≤ i → CT μ → HL k A μ → ∃ μ', m_Co_writeSubgroups_20 k (nI l) (nI m) (nI i) μ = some (none, μ') ∧ Fr (fun c => c = k) μ μ' ∧ HL k (subF l m f i A) μ'
  | 0, i, A, μ, e, _, hC, h => by
    obtain rfl : i = 6 := by omega
    refine ⟨μ, ?_, Fr.rf, h⟩
    rw [e_Co_writeSubgroups_20, bLt (by omega) (by omega)]
  | f + 1, i, A, μ, e, hi, hC, h => by
    have c1 := col_lt hl (i := i) (by omega)
    have c2 := lies_col l hl m hm i (by omega) ⟨hL, hi⟩
    have c3 := col_down m hm i (by omega) hi
    have c4 : colN m (i + 1) * (colN l i - colN m i) ≤ 5 * 5 := Nat.mul_le_mul (by omega) (by omega)
    obtain ⟨μ1, g1, g2, g3⟩ := c_raise (b := colN m (i + 1) * (colN l i - colN m i)) h1 h2 (by omega) h
    have hix : 6 * (colN l i - colN m (i + 1)) + (colN m i - colN m (i + 1)) < 36 := by omega
    have hC1 := hC.fr g2 (fun c a b => by omega) (by
      intro q
      rw [← q] at h2
      exact absurd h2 (by decide))
    obtain ⟨r1, r2, r3⟩ := ch_row _ hix
    obtain ⟨μ2, g4, g5, g6⟩ := c_mul h1 h2 r2 r3 (by omega) (by omega) (by omega) g3 (fun j hj => (hC1 _ hix).1 j hj)
    have hC2 := hC1.fr g5 (fun c a b => by omega) (by
      intro q
      rw [← q] at h2
      exact absurd h2 (by decide))
    obtain ⟨μ3, k1, k2, k3⟩ := s_Co_sub20 h1 h2 hk hl hm hL f (i + 1) _ μ2 (by omega) (by omega) hC2 g6
    refine ⟨μ3, ?_, (g2.t2 g5).t2 k2, k3⟩
    have hch : m_Co_chosen (nI (colN l i) - nI (colN m (i + 1))) (nI (colN m i) - nI (colN m (i + 1))) μ1 = some (some (.ref (3 + (6 * (colN l i - colN m (i + 1)) + (colN m i - colN m (i + 1))))), μ1) := by
      have e : chI ((colN l i - colN m (i + 1) : Nat) : Int) ((colN m i - colN m (i + 1) : Nat) : Int) = 6 * (colN l i - colN m (i + 1)) + (colN m i - colN m (i + 1)) := by
        unfold chI
        rw [if_pos (by omega)]
        omega
      rw [nI_sub (by omega), nI_sub (by omega), iI_n, iI_n, s_Co_chosen (by omega) (by omega) (by omega) (by omega), e]
    rw [e_Co_writeSubgroups_20, bLf (by omega) (by omega), s_Ty_column hl (by omega), cI_s, s_Ty_column hm (by omega), cI_s, nI_p1, s_Ty_column hm (by omega), cI_s, nI_sub c2, nI_mul, g1, cV_s, hch, cA_s, g4, cV_s, k1]
theorem not312 {k : Nat} (h2 : shN k = 31) : ¬ 312 = k := fun q => by
  rw [← q] at h2
  exact absurd h2 (by decide)
theorem s_writeSubgroups {k l m : Nat} (h1 : shK k = 1) (h2 : shN k = 31) (hk : 38 < k) (hl : l < 19) (hm : m < 19) {μ : Mm} (hC : CT μ) : ∃ μ', m_Co_writeSubgroups k (nI l) (nI m) μ = some (none, μ') ∧ Fr (fun c => c = k) μ μ' ∧ HL k (subC l m) μ' := by
  unfold subC
  cases hL : liesN m l
  · obtain ⟨μ1, g1, g2, g3⟩ := c_zero h1 h2 μ
    refine ⟨μ1, ?_, g2, g3⟩
    rw [e_Co_writeSubgroups, s_Ty_lies hm hl, cI_s, b2i_n, hL]
    show cV (m_Po_writeZero k μ) _ = _
    rw [g1, cV_s]
  · obtain ⟨μ1, g1, g2, g3⟩ := c_one h1 h2 μ
    obtain ⟨μ2, g4, g5, g6⟩ := s_Co_sub20 h1 h2 hk hl hm hL 5 1 [1] μ1 rfl (by omega) (hC.fr g2 (fun c a b => by omega) (not312 h2)) g3
    refine ⟨μ2, ?_, g2.t2 g5, g6⟩
    rw [e_Co_writeSubgroups, s_Ty_lies hm hl, cI_s, b2i_n, hL]
    show cV (m_Po_writeOne k μ) _ = _
    rw [g1, cV_s, g4]
