/-! the types, the reference's side; the calls type, of, in of both -/
/-- what the reference's rows of types hold for good -/
def MT (μ : Mm) : Prop := (∀ t, t < 19 → μ.1 307 t = nI (numN t)) ∧ (∀ t, t < 19 → μ.1 308 t = nI (sizN t)) ∧ ∀ t i, t < 19 → 1 ≤ i → i ≤ 6 → μ.1 309 (7 * t + i) = nI (colN t i)
section MTY
variable {μ : Mm}
theorem s_Mo_column (h : MT μ) {t i : Nat} (ht : t < 19) (h1 : 1 ≤ i) (h6 : i ≤ 6) : m_Mo_column (nI t) (nI i) μ = some (some (.int (nI (colN t i))), μ) := by
  rw [e_Mo_column, nI_mul, nI_add, gd_h (inb_n (by omega) (by omega)), nI_clamp (by omega), h.2.2 t i ht h1 h6]
theorem s_Mo_parts (h : MT μ) {t : Nat} (ht : t < 19) : m_Mo_parts (nI t) μ = some (some (.int (nI (colN t 1))), μ) := by
  rw [e_Mo_parts, s_Mo_column h ht (by omega) (by omega), cI_s]
theorem s_Mo_numberOf_2 (h : MT μ) (x : Int32) : ∀ (f k : Nat), k + f = 19 → (∀ u, u < k → ¬ nI (numN u) = x) → (∃ t, t < 19 ∧ nI (numN t) = x ∧ m_Mo_numberOf_2 x (nI k) μ = some (some (.int (nI t)), μ)) ∨ ((∀ u, u < 19 → ¬ nI (numN u) = x) ∧ m_Mo_numberOf_2 x (nI k) μ = some (some (.int (-1 : Int32)), μ))
  | 0, k, hk, hu => by
    obtain rfl : k = 19 := by omega
    refine Or.inr ⟨hu, ?_⟩
    rw [e_Mo_numberOf_2]
    exact bf (t_nl (by omega) (by omega))
  | f + 1, k, hk, hu => by
    have ht : k < 19 := by omega
    rw [e_Mo_numberOf_2, bt (t_lt ht), gd_h (inb_n ht (by omega)), nI_clamp (by omega), h.1 k ht]
    by_cases q : nI (numN k) = x
    · exact Or.inl ⟨k, ht, q, bt (decide_eq_true q)⟩
    · rw [bf (decide_eq_false q), nI_p1]
      exact s_Mo_numberOf_2 h x f (k + 1) (by omega) (fun u h2 => by
        rcases Nat.lt_succ_iff_lt_or_eq.mp h2 with h1 | rfl
        · exact hu u h1
        · exact q)
theorem s_Mo_numberOf (h : MT μ) (x : Int32) : (∃ t, t < 19 ∧ x = nI (numN t) ∧ m_Mo_numberOf x μ = some (some (.int (nI t)), μ)) ∨ ((∀ u, u < 19 → ¬ x = nI (numN u)) ∧ m_Mo_numberOf x μ = some (some (.int (-1 : Int32)), μ)) := by
  rcases s_Mo_numberOf_2 h x 19 0 rfl (fun u h => absurd h (Nat.not_lt_zero u)) with ⟨t, h1, h2, h3⟩ | ⟨h1, h2⟩
  · exact Or.inl ⟨t, h1, h2.symm, (e_Mo_numberOf x μ).trans h3⟩
  · exact Or.inr ⟨fun u hu q => h1 u hu q.symm, (e_Mo_numberOf x μ).trans h2⟩
/-- a number tells a type to both, or to none -/
theorem both_find (x : Int32) : (∃ t, t < 19 ∧ ∀ μ, m_Ty_find x μ = some (some (.int (nI t)), μ) ∧ (MT μ → m_Mo_numberOf x μ = some (some (.int (nI t)), μ))) ∨ (∀ μ, m_Ty_find x μ = some (some (.int (-1 : Int32)), μ) ∧ (MT μ → m_Mo_numberOf x μ = some (some (.int (-1 : Int32)), μ))) := by
  by_cases q : ∃ t, t < 19 ∧ x = nI (numN t)
  · obtain ⟨t, ht, e⟩ := q
    have inj : ∀ u, u < 19 → x = nI (numN u) → u = t := fun u hu e2 => by
      have a := numN_lt t
      have b := numN_lt u
      exact numN_inj hu ht ((nI_eq (by omega) (by omega)).mp (e2.symm.trans e))
    refine Or.inl ⟨t, ht, fun μ => ⟨?_, fun h => ?_⟩⟩
    · rcases s_Ty_find x μ with ⟨u, hu, e2, h3⟩ | ⟨h3, -⟩
      · rw [inj u hu e2] at h3; exact h3
      · exact absurd e (h3 t ht)
    · rcases s_Mo_numberOf h x with ⟨u, hu, e2, h3⟩ | ⟨h3, -⟩
      · rw [inj u hu e2] at h3; exact h3
      · exact absurd e (h3 t ht)
  · refine Or.inr (fun μ => ⟨?_, fun h => ?_⟩)
    · rcases s_Ty_find x μ with ⟨u, hu, e2, h3⟩ | ⟨-, h3⟩
      · exact absurd ⟨u, hu, e2⟩ q
      · exact h3
    · rcases s_Mo_numberOf h x with ⟨u, hu, e2, h3⟩ | ⟨-, h3⟩
      · exact absurd ⟨u, hu, e2⟩ q
      · exact h3
theorem s_Mo_heavy_4 (h : MT μ) {t : Nat} (ht : t < 19) : ∀ (f i c : Nat), i + f = 6 → 1 ≤ i → m_Mo_heavy_4 (nI t) (nI c) (nI i) μ = some (some (.int (nI (hvy f t i c))), μ)
  | 0, i, c, hi, _ => by
    obtain rfl : i = 6 := by omega
    rw [e_Mo_heavy_4]
    exact bt (by rw [d_lt (by omega) (by omega)]; exact decide_eq_true (by omega))
  | f + 1, i, c, hi, h1 => by
    have hc := col_lt ht (i := i) (by omega)
    have hm : colN t i * (colN t i - 1) < 2 ^ 31 := by
      have : colN t i * (colN t i - 1) ≤ 6 * 6 := Nat.mul_le_mul (by omega) (by omega)
      omega
    rw [e_Mo_heavy_4, bf (by rw [d_lt (by omega) (by omega)]; exact decide_eq_false (by omega)), s_Mo_column h ht h1 (by omega), cI_s, s_Mo_column h ht h1 (by omega), cI_s, gd_h ne2, nI_pm, nI_div hm (by omega), nI_add, nI_p1]
    exact s_Mo_heavy_4 h ht f (i + 1) _ (by omega) (by omega)
theorem s_Mo_heavy (h : MT μ) {t : Nat} (ht : t < 19) : m_Mo_heavy (nI t) μ = some (some (.int (nI (hvyN t))), μ) := by
  rw [e_Mo_heavy]
  exact s_Mo_heavy_4 h ht 5 1 0 rfl (by omega)
theorem s_Mo_kind (h : MT μ) {t : Nat} (ht : t < 19) : m_Mo_kind (nI t) μ = some (some (.int (nI (if 1 < colN t 1 then (if colN t 2 = 0 then 1 else 2) else 0))), μ) := by
  have h1 := col_lt ht (i := 1) (by omega)
  have h2 := col_lt ht (i := 2) (by omega)
  rw [e_Mo_kind, s_Mo_parts h ht, cI_s, d_lt (by omega) (by omega)]
  by_cases q : 1 < colN t 1
  · rw [bf (decide_eq_false (by omega)), s_Mo_column h ht (by omega) (by omega), cI_s, d_eq (by omega) (by omega), if_pos q]
    by_cases q2 : colN t 2 = 0
    · rw [bt (decide_eq_true q2), if_pos q2]
    · rw [bf (decide_eq_false q2), if_neg q2]
  · rw [bt (decide_eq_true (by omega)), if_neg q]
theorem s_Mo_isIn_2 (h : MT μ) {m l : Nat} (hm : m < 19) (hl : l < 19) : ∀ (f i : Nat), i + f = 6 → 1 ≤ i → m_Mo_isIn_2 (nI m) (nI l) (nI i) μ = some (some (.int (nI (b2i (liesF f m l i)))), μ)
  | 0, i, hi, _ => by
    obtain rfl : i = 6 := by omega
    rw [e_Mo_isIn_2]
    exact (bt (by rw [d_lt (by omega) (by omega)]; exact decide_eq_true (by omega))).trans (gd_h isb_1)
  | f + 1, i, hi, h1 => by
    have a1 := col_lt hm (i := i) (by omega)
    have a2 := col_lt hl (i := i) (by omega)
    rw [e_Mo_isIn_2, bf (by rw [d_lt (by omega) (by omega)]; exact decide_eq_false (by omega)), s_Mo_column h hm h1 (by omega), cI_s, s_Mo_column h hl h1 (by omega), cI_s, d_lt (by omega) (by omega)]
    show (bif decide (colN l i < colN m i) then _ else _) = some (some (Value.int (nI (b2i (if colN l i < colN m i then false else liesF f m l (i + 1))))), μ)
    by_cases q : colN l i < colN m i
    · rw [bt (decide_eq_true q), gd_h isb_0, if_pos q]; rfl
    · rw [bf (decide_eq_false q), if_neg q, nI_p1]
      exact s_Mo_isIn_2 h hm hl f (i + 1) (by omega) (by omega)
theorem s_Mo_isIn (h : MT μ) {m l : Nat} (hm : m < 19) (hl : l < 19) : m_Mo_isIn (nI m) (nI l) μ = some (some (.int (nI (b2i (liesN m l)))), μ) := by
  rw [e_Mo_isIn]
  exact s_Mo_isIn_2 h hm hl 5 1 rfl (by omega)
theorem s_Mo_of_98 (h : MT μ) {t : Nat} (ht : t < 19) : ∀ (f m c : Nat), m + f = 19 → m_Mo_of_98 (nI t) (nI c) (nI m) μ = some (some (.int (nI (insF f t m c))), μ)
  | 0, m, c, hm => by
    obtain rfl : m = 19 := by omega
    rw [e_Mo_of_98]
    exact bf (t_nl (by omega) (by omega))
  | f + 1, m, c, hm => by
    rw [e_Mo_of_98, bt (t_lt (by omega)), s_Mo_isIn h (by omega) ht, cI_s, b2i_0]
    show (bif !liesN m t then _ else _) = some (some (Value.int (nI (insF f t (m + 1) (if liesN m t then c + 1 else c)))), μ)
    cases q : liesN m t
    · rw [Bool.not_false, cond_true, nI_p1, nI_add]
      exact s_Mo_of_98 h ht f (m + 1) _ (by omega)
    · rw [Bool.not_true, cond_false, nI_p1, nI_p1]
      exact s_Mo_of_98 h ht f (m + 1) _ (by omega)
/-- the columns are a type's: none behind an empty one -/
theorem col_mono {t i : Nat} (ht : t < 19) (h1 : 1 ≤ i) (h6 : i ≤ 5) (h : colN t i = 0) : figF (6 - i) t i 0 = 0 ∧ ∀ v, figF (6 - i) t i v = v := by
  have K : ∀ t, t < 19 → ∀ i, i < 7 → ∀ j, j < 7 → (1 ≤ i ∧ colN t i = 0 ∧ i ≤ j) → colN t j = 0 := by decide +kernel
  have key : ∀ j, i ≤ j → j ≤ 6 → colN t j = 0 := fun j a b => K t ht i (by omega) j (by omega) ⟨h1, h, a⟩
  have g : ∀ (f j v : Nat), i ≤ j → j + f ≤ 7 → figF f t j v = v := by
    intro f
    induction f with
    | zero => intro j v _ _; rfl
    | succ f ih =>
      intro j v h1 h2
      show figF f t (j + 1) (if 0 < colN t j then v * 10 + colN t j else v) = v
      rw [key j h1 (by omega), if_neg (by omega)]
      exact ih (j + 1) v (by omega) (by omega)
  exact ⟨g _ _ _ (Nat.le_refl _) (by omega), fun v => g _ _ _ (Nat.le_refl _) (by omega)⟩
theorem s_Mo_turned_4 (h : MT μ) {t : Nat} (ht : t < 19) : ∀ (f i v : Nat), i + f = 6 → 1 ≤ i → m_Mo_turned_4 (nI t) (nI v) (nI i) μ = some (some (.int (nI (figF f t i v))), μ)
  | 0, i, v, hi, _ => by
    obtain rfl : i = 6 := by omega
    rw [e_Mo_turned_4]
    exact bt (by rw [d_lt (by omega) (by omega)]; exact decide_eq_true (by omega))
  | f + 1, i, v, hi, h1 => by
    have a1 := col_lt ht (i := i) (by omega)
    rw [e_Mo_turned_4, bf (by rw [d_lt (by omega) (by omega)]; exact decide_eq_false (by omega)), s_Mo_column h ht h1 (by omega), cI_s, d_lt (by omega) (by omega)]
    by_cases q : 0 < colN t i
    · rw [bt (decide_eq_true q), s_Mo_column h ht h1 (by omega), cI_s, nI_mul, nI_add, nI_p1, s_Mo_turned_4 h ht f (i + 1) _ (by omega) (by omega)]
      show _ = some (some (Value.int (nI (figF f t (i + 1) (if 0 < colN t i then v * 10 + colN t i else v)))), μ)
      rw [if_pos q, Nat.mul_comm]
    · rw [bf (decide_eq_false q)]
      have := (col_mono ht h1 (by omega) (by omega)).2 v
      rw [show 6 - i = f + 1 by omega] at this
      rw [this]
theorem s_Mo_turned (h : MT μ) {t : Nat} (ht : t < 19) : m_Mo_turned (nI t) μ = some (some (.int (nI (numN (trnN t)))), μ) := by
  rw [e_Mo_turned, (trn_fig ht).1]
  exact s_Mo_turned_4 h ht 5 1 0 rfl (by omega)
/-- the reference's test of bounds -/
theorem s_Mo_in (v a b : Int64) (μ : Mm) : m_Mo_in_JJJ v a b μ = some (some (.int (nI (b2i (!decide (v < a) && !decide (b < v))))), μ) := by
  rw [e_Mo_in_JJJ, lgc_lt, lgc_gt]
  cases decide (v < a)
  · cases decide (b < v)
    · exact gd_h isb_1
    · exact gd_h isb_0
  · exact gd_h isb_0
theorem l_lt (x : Int32) (n : Nat) (hn : n < 2 ^ 31) : decide (x.toInt64 < lN n) = decide (x < nI n) := by
  rw [← nI_l hn]
  by_cases h : x < nI n
  · rw [decide_eq_true h, decide_eq_true (Int32.toInt64_lt.mpr h)]
  · rw [decide_eq_false h, decide_eq_false (fun q => h (Int32.toInt64_lt.mp q))]
theorem l_gt (x : Int32) (n : Nat) (hn : n < 2 ^ 31) : decide (lN n < x.toInt64) = decide (nI n < x) := by
  rw [← nI_l hn]
  by_cases h : nI n < x
  · rw [decide_eq_true h, decide_eq_true (Int32.toInt64_lt.mpr h)]
  · rw [decide_eq_false h, decide_eq_false (fun q => h (Int32.toInt64_lt.mp q))]
/-- an int is below 0, or a number -/
theorem i_cases (x : Int32) : x < nI 0 ∨ ∃ n, n < 2 ^ 31 ∧ x = nI n := by
  by_cases h : x < nI 0
  · exact Or.inl h
  · exact Or.inr (nI_of (by rw [← nI_0]; exact h))
/-- promise 2: type -/
theorem both_type (h : MT μ) (x : Int32) : ∃ r, m_TI_type x μ = some (some (.int r), μ) ∧ m_Mo_type x μ = some (some (.int r), μ) := by
  rw [e_TI_type, e_Mo_type, s_Mo_in, cI_s, b2i_0, l_lt _ _ (by omega), l_gt _ _ (by omega)]
  rcases i_cases x with hx | ⟨n, hn, rfl⟩
  · rw [bt (decide_eq_true hx), decide_eq_true hx]
    exact ⟨_, rfl, rfl⟩
  · rw [d_lt hn (by omega), d_lt hn (by omega), d_lt (by omega) hn]
    rw [show decide (n < 0) = false from decide_eq_false (by omega), cond_false]
    by_cases q : n < 19
    · rw [bt (decide_eq_true q), s_Ty_number q, cI_s, show decide (18 < n) = false from decide_eq_false (by omega)]
      refine ⟨_, rfl, ?_⟩
      show gd (inb (nI n) 19) _ = _
      rw [gd_h (inb_n q (by omega)), nI_clamp hn, h.1 n q]
    · rw [bf (decide_eq_false q), show decide (18 < n) = true from decide_eq_true (by omega)]
      exact ⟨_, rfl, rfl⟩
theorem neg1 : decide ((-1 : Int32) = (-1 : Int32)) = true := by decide
/-- promise 4: in -/
theorem both_in (h : MT μ) (x y : Int32) : ∃ r, m_TI_in x y μ = some (some (.int r), μ) ∧ m_Mo_in_II x y μ = some (some (.int r), μ) := by
  rw [e_TI_in, e_Mo_in_II]
  rcases both_find x with ⟨t, ht, hf⟩ | hf
  · rw [(hf μ).1, cI_s, (hf μ).2 h, cI_s]
    rcases both_find y with ⟨u, hu, hg⟩ | hg
    · rw [(hg μ).1, cI_s, (hg μ).2 h, cI_s, bf (t_ge ht), bf (t_ge hu), bf (d_e1 (by omega)), bf (d_e1 (by omega)), s_Ty_lies ht hu, cI_s, s_Mo_isIn h ht hu, cI_s]
      cases decide (nI (b2i (liesN t u)) = nI 0)
      · exact ⟨_, rfl, rfl⟩
      · exact ⟨_, rfl, rfl⟩
    · rw [(hg μ).1, cI_s, (hg μ).2 h, cI_s, bf (t_ge ht), bt d_neg, bf (d_e1 (by omega)), bt neg1]
      exact ⟨_, rfl, rfl⟩
  · rw [(hf μ).1, cI_s, (hf μ).2 h, cI_s]
    rcases both_find y with ⟨u, hu, hg⟩ | hg
    · rw [(hg μ).1, cI_s, (hg μ).2 h, cI_s, bt d_neg, bt neg1]
      exact ⟨_, rfl, rfl⟩
    · rw [(hg μ).1, cI_s, (hg μ).2 h, cI_s, bt d_neg, bt neg1]
      exact ⟨_, rfl, rfl⟩
/-- promise 3: of -/
theorem both_of (h : MT μ) (x y : Int32) : ∃ r, m_TI_of x y μ = some (some (.int r), μ) ∧ m_Mo_of x y μ = some (some (.int r), μ) := by
  have e1 : nI 0 + 1 = nI 1 := nI_1 0
  have e2 : nI 1 + 1 = nI 2 := nI_1 1
  have e3 : nI 2 + 1 = nI 3 := nI_1 2
  have e4 : nI 3 + 1 = nI 4 := nI_1 3
  have e5 : nI 4 + 1 = nI 5 := nI_1 4
  have e6 : nI 5 + 1 = nI 6 := nI_1 5
  rw [e_TI_of, e_Mo_of]
  rcases both_find x with ⟨t, ht, hf⟩ | hf
  · rw [(hf μ).1, cI_s, (hf μ).2 h, cI_s, bf (t_ge ht), bf (d_e1 (by omega)), s_Mo_in, cI_s, b2i_0, l_lt _ _ (by omega), l_gt _ _ (by omega), e1, e2, e3, e4, e5, e6]
    rcases i_cases y with hy | ⟨n, hn, rfl⟩
    · have z : ∀ k, k < 2 ^ 31 → decide (y = nI k) = false := fun k hk => decide_eq_false (fun q => by
        rw [q] at hy
        have := (nI_ltI hk (by omega)).mp hy
        omega)
      rw [decide_eq_true hy, z 0 (by omega), z 1 (by omega), z 2 (by omega), z 3 (by omega), z 4 (by omega), z 5 (by omega), z 6 (by omega)]
      exact ⟨_, rfl, rfl⟩
    · rw [d_lt hn (by omega), d_lt (by omega) hn, d_eq hn (by omega), d_eq hn (by omega), d_eq hn (by omega), d_eq hn (by omega), d_eq hn (by omega), d_eq hn (by omega), d_eq hn (by omega), show decide (n < 0) = false from decide_eq_false (by omega)]
      rcases (show n = 0 ∨ n = 1 ∨ n = 2 ∨ n = 3 ∨ n = 4 ∨ n = 5 ∨ n = 6 ∨ 6 < n by omega) with rfl | rfl | rfl | rfl | rfl | rfl | rfl | q
      · exact ⟨_, rfl, rfl⟩
      · refine ⟨nI (sizN t), ?_, ?_⟩
        · show cI (m_Ty_size (nI t) μ) _ = _
          rw [s_Ty_size ht, cI_s]
        · show gd (inb (nI t) 19) _ = _
          rw [gd_h (inb_n ht (by omega)), nI_clamp (by omega), h.2.1 t ht]
      · refine ⟨nI (colN t 1), ?_, ?_⟩
        · show cI (m_Ty_parts (nI t) μ) _ = _
          rw [s_Ty_parts ht, cI_s]
        · show cI (m_Mo_parts (nI t) μ) _ = _
          rw [s_Mo_parts h ht, cI_s]
      · refine ⟨nI (hvyN t), ?_, ?_⟩
        · show cI (m_Ty_heavy (nI t) μ) _ = _
          rw [s_Ty_heavy ht, cI_s]
        · show cI (m_Mo_heavy (nI t) μ) _ = _
          rw [s_Mo_heavy h ht, cI_s]
      · refine ⟨nI (if 1 < colN t 1 then (if colN t 2 = 0 then 1 else 2) else 0), ?_, ?_⟩
        · show cI (m_Ty_kind (nI t) μ) _ = _
          rw [s_Ty_kind ht, cI_s]
        · show cI (m_Mo_kind (nI t) μ) _ = _
          rw [s_Mo_kind h ht, cI_s]
      · refine ⟨nI (insN t), ?_, ?_⟩
        · show cI (m_Ty_inside (nI t) μ) _ = _
          rw [s_Ty_inside ht, cI_s]
        · show m_Mo_of_98 (nI t) (nI 0) (nI 0) μ = _
          exact s_Mo_of_98 h ht 19 0 0 rfl
      · refine ⟨nI (numN (trnN t)), ?_, ?_⟩
        · show cI (m_Ty_turned (nI t) μ) _ = _
          rw [s_Ty_turned ht, cI_s, s_Ty_number (trn_fig ht).2, cI_s]
        · show cI (m_Mo_turned (nI t) μ) _ = _
          rw [s_Mo_turned h ht, cI_s]
      · rw [show decide (6 < n) = true from decide_eq_true q, show decide (n = 0) = false from decide_eq_false (by omega), show decide (n = 1) = false from decide_eq_false (by omega), show decide (n = 2) = false from decide_eq_false (by omega), show decide (n = 3) = false from decide_eq_false (by omega), show decide (n = 4) = false from decide_eq_false (by omega), show decide (n = 5) = false from decide_eq_false (by omega), show decide (n = 6) = false from decide_eq_false (by omega)]
        exact ⟨_, rfl, rfl⟩
  · rw [(hf μ).1, cI_s, (hf μ).2 h, cI_s, bt d_neg, bt neg1]
    exact ⟨_, rfl, rfl⟩
end MTY
