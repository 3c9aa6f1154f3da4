/-! polynomials as rows of longs: the class's side -/
theorem lnL_of {k : Nat} (h : shK k = 1) : lnL k = shN k := by unfold lnL; rw [h]; rfl
theorem bl5 {k : Nat} (h : shK k = 1) : Nat.ble (shK k) 5 = true := by rw [h]; rfl
theorem nI_lt0 {a : Nat} (h : a < 2 ^ 31) : decide (nI a < nI 0) = false := by rw [d_lt h (by omega)]; exact decide_eq_false (by omega)
theorem s_writeZero_2 {k n : Nat} (hs : shK k = 1) (hm : shN k = n) (hn : n < 2 ^ 31) : ∀ (f i : Nat) (μ : Mm), i + f = n → ∃ g, m_Po_writeZero_2 k (nI i) μ = some (none, wL μ k g) ∧ (∀ j, i ≤ j → j < n → g j = lN 0) ∧ ∀ j, (j < i ∨ n ≤ j) → g j = μ.2 k j
  | 0, i, μ, h => by
    obtain rfl : i = n := by omega
    refine ⟨μ.2 k, ?_, fun j a b => absurd a (by omega), fun _ _ => rfl⟩
    rw [e_Po_writeZero_2, gd_h (bl5 hs), hm, bf (by rw [d_lt hn hn]; exact decide_eq_false (by omega)), wL_e]
  | f + 1, i, μ, h => by
    obtain ⟨g, h1, h2, h3⟩ := s_writeZero_2 hs hm hn f (i + 1) (sL μ k i (lN 0)) (by omega)
    refine ⟨g, ?_, fun j a b => ?_, fun j a => ?_⟩
    · rw [e_Po_writeZero_2, gd_h (bl5 hs), hm, bt (by rw [d_lt (by omega) hn]; exact decide_eq_true (by omega)), lnL_of hs, hm, gd_h (inb_n (by omega) hn), nI_p1, nI_clamp (by omega), h1, sL_e, wL_w]
    · by_cases q : j = i
      · rw [h3 j (Or.inl (by omega)), sL_s, q, uL_s]
      · exact h2 j (by omega) b
    · rw [h3 j (by omega), sL_s, uL_o (by omega)]
theorem s_writeZero {k n : Nat} (hk : shK k = 1) (hn : shN k = n) (hN : n < 2 ^ 31) (μ : Mm) : ∃ g, m_Po_writeZero k μ = some (none, wL μ k g) ∧ ∀ j, j < n → g j = lN 0 := by
  obtain ⟨g, h1, h2, -⟩ := s_writeZero_2 hk hn hN n 0 μ (by omega)
  refine ⟨g, ?_, fun j hj => h2 j (Nat.zero_le j) hj⟩
  rw [e_Po_writeZero, h1]
theorem s_writeOne {k n : Nat} (hk : shK k = 1) (hn : shN k = n) (hN : n < 2 ^ 31) (h0 : 0 < n) (μ : Mm) : ∃ g, m_Po_writeOne k μ = some (none, wL μ k g) ∧ ∀ j, j < n → g j = if j = 0 then lN 1 else lN 0 := by
  obtain ⟨g, h1, h2⟩ := s_writeZero hk hn hN μ
  refine ⟨vp_updL g 0 (lN 1), ?_, fun j hj => ?_⟩
  · rw [e_Po_writeOne, h1, cV_s, gd_h (bl5 hk), hn, bt (by rw [d_lt (by omega) hN]; exact decide_eq_true h0), lnL_of hk, hn, gd_h (inb_n h0 hN), nI_clamp (by omega), wL_u]
  · by_cases q : j = 0
    · rw [if_pos q, q, uL_s]
    · rw [if_neg q, uL_o q, h2 j hj]
/-- the degree of a row's first n coefficients -/
def degF (f : Nat → Int64) : Nat → Int32
  | 0 => (-5 : Int32)
  | i + 1 => if f i = lN 0 then degF f i else nI i
theorem s_degree_5 {k n : Nat} (hk : lnL k = n) (hn : n < 2 ^ 31) (μ : Mm) : ∀ (i : Nat), i < n → m_Po_degree_5 k (nI i) μ = some (some (.int (degF (μ.2 k) (i + 1))), μ)
  | 0, h => by
    rw [e_Po_degree_5, bf (nI_lt0 (by omega)), hk, gd_h (inb_n h hn), nI_clamp (by omega), lgc_eq, nI_z1]
    show _ = some (some (Value.int (if μ.2 k 0 = lN 0 then (-5 : Int32) else nI 0)), μ)
    by_cases q : μ.2 k 0 = lN 0
    · rw [bt (decide_eq_true q), if_pos q, e_Po_degree_5, bt d_neg]
    · rw [bf (decide_eq_false q), if_neg q]
  | i + 1, h => by
    rw [e_Po_degree_5, bf (nI_lt0 (by omega)), hk, gd_h (inb_n h hn), nI_clamp (by omega), lgc_eq, nI_m1]
    show _ = some (some (Value.int (if μ.2 k (i + 1) = lN 0 then degF (μ.2 k) (i + 1) else nI (i + 1))), μ)
    by_cases q : μ.2 k (i + 1) = lN 0
    · rw [bt (decide_eq_true q), if_pos q]
      exact s_degree_5 hk hn μ i (by omega)
    · rw [bf (decide_eq_false q), if_neg q]
theorem s_degree {k n : Nat} (hk : shK k = 1) (hn : shN k = n) (hN : n < 2 ^ 31) (h0 : 0 < n) (μ : Mm) : m_Po_degree k μ = some (some (.int (degF (μ.2 k) n)), μ) := by
  rw [e_Po_degree, gd_h (bl5 hk), hn, nI_sub (by omega), s_degree_5 ((lnL_of hk).trans hn) hN μ (n - 1) (by omega), show n - 1 + 1 = n by omega]
/-- what the degree says -/
theorem degF_spec (f : Nat → Int64) : ∀ n, (degF f n = (-5 : Int32) ∧ ∀ j, j < n → f j = lN 0) ∨ ∃ d, d < n ∧ degF f n = nI d ∧ f d ≠ lN 0 ∧ ∀ j, d < j → j < n → f j = lN 0
  | 0 => Or.inl ⟨rfl, fun j h => absurd h (Nat.not_lt_zero j)⟩
  | n + 1 => by
    by_cases q : f n = lN 0
    · rcases degF_spec f n with ⟨h1, h2⟩ | ⟨d, h1, h2, h3, h4⟩
      · refine Or.inl ⟨?_, fun j hj => ?_⟩
        · show (if f n = lN 0 then degF f n else nI n) = _
          rw [if_pos q, h1]
        · rcases Nat.lt_succ_iff_lt_or_eq.mp hj with a | rfl
          · exact h2 j a
          · exact q
      · refine Or.inr ⟨d, by omega, ?_, h3, fun j a b => ?_⟩
        · show (if f n = lN 0 then degF f n else nI n) = _
          rw [if_pos q, h2]
        · rcases Nat.lt_succ_iff_lt_or_eq.mp b with c | rfl
          · exact h4 j a c
          · exact q
    · refine Or.inr ⟨n, by omega, ?_, q, fun j a b => absurd a (by omega)⟩
      show (if f n = lN 0 then degF f n else nI n) = _
      rw [if_neg q]
theorem degF_congr {f g : Nat → Int64} : ∀ n, (∀ j, j < n → f j = g j) → degF f n = degF g n
  | 0, _ => rfl
  | n + 1, h => by
    show (if f n = lN 0 then degF f n else nI n) = if g n = lN 0 then degF g n else nI n
    rw [h n (by omega), degF_congr n (fun j hj => h j (by omega))]
theorem s_add_3 {a b n : Nat} {t : Int64} (hab : a ≠ b) (ha : shK a = 1) (hna : shN a = n) (hb : shK b = 1) (hnb : shN b = n) (hN : n < 2 ^ 31) : ∀ (f i : Nat) (μ : Mm), i + f = n → ∃ g, m_Po_add_3 a b t (nI i) μ = some (none, wL μ a g) ∧ (∀ j, i ≤ j → j < n → g j = μ.2 a j + μ.2 b j * t) ∧ ∀ j, j < i → g j = μ.2 a j
  | 0, i, μ, h => by
    obtain rfl : i = n := by omega
    refine ⟨μ.2 a, ?_, fun j x y => absurd x (by omega), fun _ _ => rfl⟩
    rw [e_Po_add_3, gd_h (bl5 ha), hna, bf (by rw [d_lt hN hN]; exact decide_eq_false (by omega)), wL_e]
  | f + 1, i, μ, h => by
    obtain ⟨g, h1, h2, h3⟩ := s_add_3 (t := t) hab ha hna hb hnb hN f (i + 1) (sL μ a i (μ.2 a i + μ.2 b i * t)) (by omega)
    refine ⟨g, ?_, fun j x y => ?_, fun j x => ?_⟩
    · have hi : inb (nI i) n = true := inb_n (by omega) hN
      rw [e_Po_add_3, gd_h (bl5 ha), hna, bt (by rw [d_lt (by omega) hN]; exact decide_eq_true (by omega)), gd_h (bl5 hb), hnb, bt (by rw [d_lt (by omega) hN]; exact decide_eq_true (by omega)), lnL_of ha, hna, gd_h hi, lnL_of hb, hnb, gd_h hi, gd_h hi, nI_p1, nI_clamp (by omega), h1, sL_e, wL_w]
    · by_cases q : j = i
      · rw [h3 j (by omega), sL_s, q, uL_s]
      · rw [h2 j (by omega) y, sL_s, uL_o q, sL_o (Ne.symm hab)]
    · rw [h3 j (by omega), sL_s, uL_o (by omega)]
theorem s_add {a b n : Nat} {t : Int64} (hab : a ≠ b) (ha : shK a = 1) (hna : shN a = n) (hb : shK b = 1) (hnb : shN b = n) (hN : n < 2 ^ 31) (μ : Mm) : ∃ g, m_Po_add a b t μ = some (none, wL μ a g) ∧ ∀ j, j < n → g j = μ.2 a j + μ.2 b j * t := by
  obtain ⟨g, h1, h2, -⟩ := s_add_3 (t := t) hab ha hna hb hnb hN n 0 μ (by omega)
  exact ⟨g, by rw [e_Po_add, h1], fun j hj => h2 j (Nat.zero_le j) hj⟩
/-- times p to the b -/
theorem s_raise_10 {k n b : Nat} (hk : lnL k = n) (hN : n < 2 ^ 31) (hb : b < 2 ^ 31) (h0 : 0 < b) : ∀ (i : Nat) (μ : Mm), i < n → ∃ g, m_Po_raise_10 k (nI b) (nI i) μ = some (none, wL μ k g) ∧ (∀ j, j ≤ i → g j = if b ≤ j then μ.2 k (j - b) else lN 0) ∧ ∀ j, i < j → g j = μ.2 k j
  | 0, μ, h => by
    refine ⟨vp_updL (μ.2 k) 0 (lN 0), ?_, fun j x => ?_, fun j x => uL_o (by omega)⟩
    · rw [e_Po_raise_10, bf (nI_lt0 (by omega)), bt (by rw [d_lt (by omega) hb]; exact decide_eq_true h0), hk, gd_h (inb_n h hN), nI_z1, e_Po_raise_10, bt d_neg, nI_clamp (by omega), sL_e]
    · obtain rfl : j = 0 := by omega
      rw [uL_s, if_neg (by omega)]
  | i + 1, μ, h => by
    by_cases q : i + 1 < b
    · obtain ⟨g, h1, h2, h3⟩ := s_raise_10 hk hN hb h0 i (sL μ k (i + 1) (lN 0)) (by omega)
      refine ⟨g, ?_, fun j x => ?_, fun j x => ?_⟩
      · rw [e_Po_raise_10, bf (nI_lt0 (by omega)), bt (by rw [d_lt (by omega) hb]; exact decide_eq_true q), hk, gd_h (inb_n h hN), nI_m1, nI_clamp (by omega), h1, sL_e, wL_w]
      · by_cases e : j = i + 1
        · rw [h3 j (by omega), sL_s, e, uL_s, if_neg (by omega)]
        · rw [h2 j (by omega), if_neg (by omega), if_neg (by omega)]
      · rw [h3 j (by omega), sL_s, uL_o (by omega)]
    · obtain ⟨g, h1, h2, h3⟩ := s_raise_10 hk hN hb h0 i (sL μ k (i + 1) (μ.2 k (i + 1 - b))) (by omega)
      refine ⟨g, ?_, fun j x => ?_, fun j x => ?_⟩
      · rw [e_Po_raise_10, bf (nI_lt0 (by omega)), bf (by rw [d_lt (by omega) hb]; exact decide_eq_false q), nI_sub (by omega), hk, gd_h (inb_n (by omega) hN), gd_h (inb_n h hN), nI_m1, nI_clamp (by omega), nI_clamp (by omega), h1, sL_e, wL_w]
      · by_cases e : j = i + 1
        · rw [h3 j (by omega), sL_s, e, uL_s, if_pos (by omega)]
        · rw [h2 j (by omega)]
          by_cases e2 : b ≤ j
          · rw [if_pos e2, if_pos e2, sL_s, uL_o (by omega)]
          · rw [if_neg e2, if_neg e2]
      · rw [h3 j (by omega), sL_s, uL_o (by omega)]
theorem s_raise {k n b : Nat} (hk : shK k = 1) (hn : shN k = n) (hN : n < 2 ^ 31) (hz : 0 < n) (hb : b < 2 ^ 31) (μ : Mm) : ∃ g, m_Po_raise k (nI b) μ = some (none, wL μ k g) ∧ ∀ j, j < n → g j = if b ≤ j then μ.2 k (j - b) else lN 0 := by
  by_cases h0 : 0 < b
  · obtain ⟨g, h1, h2, -⟩ := s_raise_10 ((lnL_of hk).trans hn) hN hb h0 (n - 1) μ (by omega)
    refine ⟨g, ?_, fun j hj => h2 j (by omega)⟩
    rw [e_Po_raise, bt (by rw [d_lt (by omega) hb]; exact decide_eq_true h0), gd_h (bl5 hk), hn, nI_sub (by omega), h1]
  · obtain rfl : b = 0 := by omega
    refine ⟨μ.2 k, ?_, fun j hj => by rw [if_pos (by omega)]; rfl⟩
    rw [e_Po_raise, bf (by rw [d_lt (by omega) (by omega)]; exact decide_eq_false (by omega)), wL_e]
/-- the first m summands of the coefficient k of a product -/
def cv (q p : Nat → Int64) (k : Nat) : Nat → Int64
  | 0 => lN 0
  | j + 1 => cv q p k j + q j * p (k - j)
def pmul (q p : Nat → Int64) (k : Nat) : Int64 := cv q p k (k + 1)
theorem cv_congr {q q' p p' : Nat → Int64} {k : Nat} : ∀ m, m ≤ k + 1 → (∀ j, j < m → q j = q' j) → (∀ j, j ≤ k → p j = p' j) → cv q p k m = cv q' p' k m
  | 0, _, _, _ => rfl
  | m + 1, hm, h1, h2 => by
    show cv q p k m + q m * p (k - m) = cv q' p' k m + q' m * p' (k - m)
    rw [cv_congr m (by omega) (fun j hj => h1 j (by omega)) h2, h1 m (by omega), h2 (k - m) (by omega)]
theorem lN_z : lN 0 = 0 := rfl
theorem cv_ext {q p : Nat → Int64} {k m : Nat} : ∀ d, (∀ j, m ≤ j → j < m + d → q j * p (k - j) = lN 0) → cv q p k (m + d) = cv q p k m
  | 0, _ => rfl
  | d + 1, h => by
    show cv q p k (m + d) + q (m + d) * p (k - (m + d)) = cv q p k m
    rw [cv_ext d (fun j a b => h j a (by omega)), h (m + d) (by omega) (by omega), lN_z, Int64.add_zero]
theorem cv_zero {q p : Nat → Int64} {k m : Nat} (h : ∀ j, j < m → q j * p (k - j) = lN 0) : cv q p k m = lN 0 := by
  have := cv_ext (q := q) (p := p) (k := k) (m := 0) m (fun j _ b => h j (by omega))
  rw [Nat.zero_add] at this
  exact this
theorem s_mul_46 {a b n m o : Nat} (hab : a ≠ b) (ha : lnL a = n) (hb : lnL b = m) (hN : n < 2 ^ 31) (hM : m < 2 ^ 31) (ho : o < m) {k : Nat} (hk : k < n) (μ : Mm) : ∀ (f j : Nat), j + f = min o k + 1 → m_Po_multiply_46 a b (nI o) (nI k) (cv (μ.2 b) (μ.2 a) k j) (nI j) μ = m_Po_multiply_35 a b (nI o) (nI k + (-1 : Int32)) (sL μ a k (cv (μ.2 b) (μ.2 a) k (min o k + 1)))
  | 0, j, h => by
    obtain rfl : j = min o k + 1 := by omega
    have e : ∀ X : Option Rs, (bif decide (nI o < nI (min o k + 1)) then X else (bif decide (nI k < nI (min o k + 1)) then X else (none : Option Rs))) = X := fun X => by
      rw [d_lt (by omega) (by omega), d_lt (by omega) (by omega)]
      by_cases q : o < min o k + 1
      · rw [bt (decide_eq_true q)]
      · rw [bf (decide_eq_false q), bt (decide_eq_true (by omega))]
    rw [e_Po_multiply_46, ha, gd_h (inb_n hk hN), nI_clamp (by omega)]
    by_cases q : o < min o k + 1
    · rw [bt (by rw [d_lt (by omega) (by omega)]; exact decide_eq_true q)]
    · rw [bf (by rw [d_lt (by omega) (by omega)]; exact decide_eq_false q), bt (by rw [d_lt (by omega) (by omega)]; exact decide_eq_true (by omega))]
  | f + 1, j, h => by
    rw [e_Po_multiply_46, bf (by rw [d_lt (by omega) (by omega)]; exact decide_eq_false (by omega)), bf (by rw [d_lt (by omega) (by omega)]; exact decide_eq_false (by omega)), hb, gd_h (inb_n (by omega) hM), nI_sub (by omega), ha, gd_h (inb_n (by omega) hN), nI_clamp (by omega), nI_clamp (by omega), nI_p1]
    exact s_mul_46 hab ha hb hN hM ho hk μ f (j + 1) (by omega)
theorem l0_mul (x : Int64) : lN 0 * x = lN 0 := Int64.zero_mul
theorem mul_l0 (x : Int64) : x * lN 0 = lN 0 := Int64.mul_zero
theorem s_mul_35 {a b n m o : Nat} (hab : a ≠ b) (ha : lnL a = n) (hb : lnL b = m) (hN : n < 2 ^ 31) (hM : m < 2 ^ 31) (ho : o < m) : ∀ (i : Nat) (μ : Mm), i < n → ∃ g, m_Po_multiply_35 a b (nI o) (nI i) μ = some (none, wL μ a g) ∧ (∀ j, j ≤ i → g j = cv (μ.2 b) (μ.2 a) j (min o j + 1)) ∧ ∀ j, i < j → g j = μ.2 a j
  | 0, μ, h => by
    refine ⟨vp_updL (μ.2 a) 0 (cv (μ.2 b) (μ.2 a) 0 (min o 0 + 1)), ?_, fun j x => ?_, fun j x => uL_o (by omega)⟩
    · rw [e_Po_multiply_35, bf (nI_lt0 (by omega))]
      refine (s_mul_46 hab ha hb hN hM ho h μ (min o 0 + 1) 0 (by omega)).trans ?_
      rw [nI_z1, e_Po_multiply_35, bt d_neg, sL_e]
    · obtain rfl : j = 0 := by omega
      rw [uL_s]
  | i + 1, μ, h => by
    obtain ⟨g, h1, h2, h3⟩ := s_mul_35 hab ha hb hN hM ho i (sL μ a (i + 1) (cv (μ.2 b) (μ.2 a) (i + 1) (min o (i + 1) + 1))) (by omega)
    refine ⟨g, ?_, fun j x => ?_, fun j x => ?_⟩
    · rw [e_Po_multiply_35, bf (nI_lt0 (by omega))]
      refine (s_mul_46 hab ha hb hN hM ho h μ (min o (i + 1) + 1) 0 (by omega)).trans ?_
      rw [nI_m1, h1, sL_e, wL_w]
    · by_cases q : j = i + 1
      · rw [h3 j (by omega), sL_s, q, uL_s]
      · rw [h2 j (by omega), sL_o (Ne.symm hab), sL_s]
        exact cv_congr _ (by omega) (fun _ _ => rfl) (fun t ht => uL_o (by omega))
    · rw [h3 j (by omega), sL_s, uL_o (by omega)]
theorem d_5 : decide ((-5 : Int32) < nI 0) = true := by decide
theorem s_min (x y : Nat) (hx : x < 2 ^ 31) (hy : y < 2 ^ 31) (μ : Mm) : m_jM_min (nI x) (nI y) μ = some (some (.int (nI (min x y))), μ) := by
  rw [e_jM_min, d_lt hy hx]
  by_cases q : y < x
  · rw [bt (decide_eq_true q), Nat.min_eq_right (by omega)]
  · rw [bf (decide_eq_false q), Nat.min_eq_left (by omega)]
/-- a row of m coefficients, none behind them -/
def cut (m : Nat) (q : Nat → Int64) (i : Nat) : Int64 := if i < m then q i else lN 0
/-- the product, as far as the row goes -/
theorem s_multiply {a b n m : Nat} (hab : a ≠ b) (ha : shK a = 1) (hna : shN a = n) (hb : shK b = 1) (hnb : shN b = m) (hN : n < 2 ^ 30) (hM : m < 2 ^ 30) (hn0 : 0 < n) (hm0 : 0 < m) (μ : Mm) : ∃ g, m_Po_multiply a b μ = some (none, wL μ a g) ∧ ∀ j, j < n → g j = pmul (cut m (μ.2 b)) (μ.2 a) j := by
  have hN1 : n < 2 ^ 31 := by omega
  have hM1 : m < 2 ^ 31 := by omega
  have h0 : ∀ (P : ∀ j, j < n → μ.2 a j = lN 0) , ∀ j, j < n → pmul (cut m (μ.2 b)) (μ.2 a) j = lN 0 := fun P j hj => cv_zero (fun t ht => by rw [P (j - t) (by omega), mul_l0])
  have h0' : ∀ (P : ∀ j, j < m → μ.2 b j = lN 0) , ∀ j, j < n → pmul (cut m (μ.2 b)) (μ.2 a) j = lN 0 := fun P j hj => cv_zero (fun t ht => by
    unfold cut
    by_cases q : t < m
    · rw [if_pos q, P t q, l0_mul]
    · rw [if_neg q, l0_mul])
  rw [e_Po_multiply, s_degree ha hna hN1 hn0, cI_s, s_degree hb hnb hM1 hm0, cI_s]
  rcases degF_spec (μ.2 a) n with ⟨e, z⟩ | ⟨d, hd, e, -, z⟩
  · obtain ⟨g, g1, g2⟩ := s_writeZero ha hna hN1 μ
    refine ⟨g, ?_, fun j hj => (g2 j hj).trans (h0 z j hj).symm⟩
    rw [e, bt d_5, g1, cV_s]
  · rw [e, bf (nI_lt0 (by omega))]
    rcases degF_spec (μ.2 b) m with ⟨e2, z2⟩ | ⟨o, ho, e2, -, z2⟩
    · obtain ⟨g, g1, g2⟩ := s_writeZero ha hna hN1 μ
      refine ⟨g, ?_, fun j hj => (g2 j hj).trans (h0' z2 j hj).symm⟩
      rw [e2, bt d_5, g1, cV_s]
    · rw [e2, bf (nI_lt0 (by omega)), gd_h (bl5 ha), hna, nI_add, nI_sub (by omega), s_min _ _ (by omega) (by omega), cI_s]
      obtain ⟨g, g1, g2, g3⟩ := s_mul_35 hab ((lnL_of ha).trans hna) ((lnL_of hb).trans hnb) hN1 hM1 ho (min (d + o) (n - 1)) μ (by omega)
      refine ⟨g, g1, fun j hj => ?_⟩
      have zq : ∀ t, o < t → cut m (μ.2 b) t = lN 0 := fun t ht => by
        unfold cut
        by_cases q : t < m
        · rw [if_pos q, z2 t ht q]
        · rw [if_neg q]
      by_cases hji : j ≤ min (d + o) (n - 1)
      · rw [g2 j hji]
        have e3 : cv (cut m (μ.2 b)) (μ.2 a) j (j + 1) = cv (cut m (μ.2 b)) (μ.2 a) j (min o j + 1) := by
          have := cv_ext (q := cut m (μ.2 b)) (p := μ.2 a) (k := j) (m := min o j + 1) (j - min o j) (fun t a1 b1 => by rw [zq t (by omega), l0_mul])
          rw [show min o j + 1 + (j - min o j) = j + 1 by omega] at this
          exact this
        show _ = cv (cut m (μ.2 b)) (μ.2 a) j (j + 1)
        rw [e3]
        exact cv_congr (min o j + 1) (by omega) (fun t ht => by unfold cut; rw [if_pos (by omega)]) (fun _ _ => rfl)
      · rw [g3 j (by omega), z j (by omega) hj]
        refine (cv_zero (fun t ht => ?_)).symm
        by_cases q : o < t
        · rw [zq t q, l0_mul]
        · rw [z (j - t) (by omega) (by omega), mul_l0]
/-- the value at a prime -/
def val (f : Nat → Int64) (p : Int64) : Nat → Int64 → Int64
  | 0, v => v
  | i + 1, v => val f p i (v * p + f i)
theorem s_valueAt_8 {k n : Nat} (hk : lnL k = n) (hN : n < 2 ^ 31) (p : Int32) (μ : Mm) : ∀ (i : Nat) (v : Int64), i < n → m_Po_valueAt_8 k p v (nI i) μ = some (some (.long (val (μ.2 k) p.toInt64 (i + 1) v)), μ)
  | 0, v, h => by
    rw [e_Po_valueAt_8, bf (nI_lt0 (by omega)), hk, gd_h (inb_n h hN), nI_z1, e_Po_valueAt_8, bt d_neg, nI_clamp (by omega)]
    rfl
  | i + 1, v, h => by
    rw [e_Po_valueAt_8, bf (nI_lt0 (by omega)), hk, gd_h (inb_n h hN), nI_m1, nI_clamp (by omega), s_valueAt_8 hk hN p μ i _ (by omega)]
    rfl
theorem s_valueAt {k n : Nat} (hk : shK k = 1) (hn : shN k = n) (hN : n < 2 ^ 31) (h0 : 0 < n) (p : Int32) (μ : Mm) : m_Po_valueAt k p μ = some (some (.long (val (μ.2 k) p.toInt64 n (lN 0))), μ) := by
  rw [e_Po_valueAt, gd_h (bl5 hk), hn, nI_sub (by omega), s_valueAt_8 ((lnL_of hk).trans hn) hN p μ (n - 1) _ (by omega), show n - 1 + 1 = n by omega]
theorem s_isPart (x : Int32) (μ : Mm) : m_Po_isPart x μ = some (some (.int (nI (b2i (!decide (x < (-1 : Int32)) && decide (x < nI 31))))), μ) := by
  rw [e_Po_isPart]
  cases decide (x < (-1 : Int32))
  · cases decide (x < nI 31)
    · exact gd_h isb_0
    · exact gd_h isb_1
  · exact gd_h isb_0

