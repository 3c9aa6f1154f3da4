/-! the types, the class's side: pure functions of a type's place t < 19 -/
def cnt : Nat → Nat → Nat → Nat → Nat
  | 0, _, _, c => c
  | f + 1, i, r, c => cnt f i (r / 10) (if r % 10 < i then c else c + 1)
def colN (t i : Nat) : Nat := cnt 5 i (numN t) 0
theorem s_Ty_column_27 (i : Nat) (hi : i < 2 ^ 31) : ∀ (f k r c : Nat) (μ : Mm), k + f = 5 → r < 2 ^ 31 → m_Ty_column_27 (nI i) (nI r) (nI c) (nI k) μ = some (some (.int (nI (cnt f i r c))), μ)
  | 0, k, r, c, μ, h, hr => by
    obtain rfl : k = 5 := by omega
    rw [e_Ty_column_27]
    exact bf (by rw [d_lt (by omega) (by omega)]; exact decide_eq_false (by omega))
  | f + 1, k, r, c, μ, h, hr => by
    have hr1 : r / 10 < 2 ^ 31 := Nat.lt_of_le_of_lt (Nat.div_le_self r 10) hr
    have hm : r % 10 < 2 ^ 31 := by omega
    rw [e_Ty_column_27, bt (by rw [d_lt (by omega) (by omega)]; exact decide_eq_true (by omega)), gd_h ne10, nI_rem hr (by omega), nI_div hr (by omega), d_lt hm hi]
    show (bif decide (r % 10 < i) then _ else _) = some (some (Value.int (nI (cnt f i (r / 10) (if r % 10 < i then c else c + 1)))), μ)
    by_cases q : r % 10 < i
    · rw [bt (decide_eq_true q), gd_h ne10, nI_p1, if_pos q]
      exact s_Ty_column_27 i hi f (k + 1) _ _ μ (by omega) hr1
    · rw [bf (decide_eq_false q), gd_h ne10, nI_p1, nI_p1, if_neg q]
      exact s_Ty_column_27 i hi f (k + 1) _ _ μ (by omega) hr1
theorem t_ge {t : Nat} (ht : t < 19) : decide (nI t < nI 0) = false := by rw [d_lt (by omega) (by omega)]; exact decide_eq_false (by omega)
theorem t_lt {t : Nat} (ht : t < 19) : decide (nI t < nI 19) = true := by rw [d_lt (by omega) (by omega)]; exact decide_eq_true ht
theorem t_nl {t : Nat} (ht : ¬ t < 19) (h : t < 2 ^ 31) : decide (nI t < nI 19) = false := by rw [d_lt h (by omega)]; exact decide_eq_false ht
theorem t_at {t : Nat} (ht : t < 19) : nums (nI t).toNatClampNeg = nI (numN t) := by rw [nI_clamp (by omega), nums_n]
theorem s_Ty_column {t i : Nat} (ht : t < 19) (hi : i < 2 ^ 31) (μ : Mm) : m_Ty_column (nI t) (nI i) μ = some (some (.int (nI (colN t i))), μ) := by
  have := numN_lt t
  rw [e_Ty_column, bf (t_ge ht), bt (t_lt ht), gd_h (inb_n ht (by omega)), t_at ht]
  exact s_Ty_column_27 i hi 5 0 _ 0 μ rfl (by omega)
theorem s_Ty_number {t : Nat} (ht : t < 19) (μ : Mm) : m_Ty_number (nI t) μ = some (some (.int (nI (numN t))), μ) := by
  rw [e_Ty_number, bf (t_ge ht), bt (t_lt ht), gd_h (inb_n ht (by omega)), t_at ht]
theorem s_Ty_parts {t : Nat} (ht : t < 19) (μ : Mm) : m_Ty_parts (nI t) μ = some (some (.int (nI (colN t 1))), μ) := by
  rw [e_Ty_parts, s_Ty_column ht (by omega), cI_s]
/-- which type a number tells: its place, or none -/
theorem s_Ty_find_2 (x : Int32) : ∀ (f k : Nat) (μ : Mm), k + f = 19 → (∀ u, u < k → ¬ nI (numN u) = x) → (∃ t, t < 19 ∧ nI (numN t) = x ∧ m_Ty_find_2 x (nI k) μ = some (some (.int (nI t)), μ)) ∨ ((∀ u, u < 19 → ¬ nI (numN u) = x) ∧ m_Ty_find_2 x (nI k) μ = some (some (.int (-1 : Int32)), μ))
  | 0, k, μ, h, hk => by
    obtain rfl : k = 19 := by omega
    refine Or.inr ⟨hk, ?_⟩
    rw [e_Ty_find_2]
    exact bf (t_nl (by omega) (by omega))
  | f + 1, k, μ, h, hk => by
    have ht : k < 19 := by omega
    rw [e_Ty_find_2, bt (t_lt ht), gd_h (inb_n ht (by omega)), t_at ht]
    by_cases q : nI (numN k) = x
    · exact Or.inl ⟨k, ht, q, bt (decide_eq_true q)⟩
    · rw [bf (decide_eq_false q), nI_p1]
      exact s_Ty_find_2 x f (k + 1) μ (by omega) (fun u hu => by
        rcases Nat.lt_succ_iff_lt_or_eq.mp hu with h1 | rfl
        · exact hk u h1
        · exact q)
theorem s_Ty_find (x : Int32) (μ : Mm) : (∃ t, t < 19 ∧ x = nI (numN t) ∧ m_Ty_find x μ = some (some (.int (nI t)), μ)) ∨ ((∀ u, u < 19 → ¬ x = nI (numN u)) ∧ m_Ty_find x μ = some (some (.int (-1 : Int32)), μ)) := by
  rcases s_Ty_find_2 x 19 0 μ rfl (fun u h => absurd h (Nat.not_lt_zero u)) with ⟨t, h1, h2, h3⟩ | ⟨h1, h2⟩
  · exact Or.inl ⟨t, h1, h2.symm, (e_Ty_find x μ).trans h3⟩
  · exact Or.inr ⟨fun u hu q => h1 u hu q.symm, (e_Ty_find x μ).trans h2⟩
def szF : Nat → Nat → Nat → Nat
  | 0, _, c => c
  | f + 1, r, c => szF f (r / 10) (c + r % 10)
def sizN (t : Nat) : Nat := szF 5 (numN t) 0
theorem s_Ty_size_26 : ∀ (f k r c : Nat) (μ : Mm), k + f = 5 → r < 2 ^ 31 → m_Ty_size_26 (nI r) (nI c) (nI k) μ = some (some (.int (nI (szF f r c))), μ)
  | 0, k, r, c, μ, h, hr => by
    obtain rfl : k = 5 := by omega
    rw [e_Ty_size_26]
    exact bf (by rw [d_lt (by omega) (by omega)]; exact decide_eq_false (by omega))
  | f + 1, k, r, c, μ, h, hr => by
    have hr1 : r / 10 < 2 ^ 31 := Nat.lt_of_le_of_lt (Nat.div_le_self r 10) hr
    rw [e_Ty_size_26, bt (by rw [d_lt (by omega) (by omega)]; exact decide_eq_true (by omega)), gd_h ne10, gd_h ne10, nI_rem hr (by omega), nI_div hr (by omega), nI_p1, nI_add]
    exact s_Ty_size_26 f (k + 1) _ _ μ (by omega) hr1
theorem s_Ty_size {t : Nat} (ht : t < 19) (μ : Mm) : m_Ty_size (nI t) μ = some (some (.int (nI (sizN t))), μ) := by
  have := numN_lt t
  rw [e_Ty_size, bf (t_ge ht), bt (t_lt ht), gd_h (inb_n ht (by omega)), t_at ht]
  exact s_Ty_size_26 5 0 _ 0 μ rfl (by omega)
def hvy : Nat → Nat → Nat → Nat → Nat
  | 0, _, _, c => c
  | f + 1, t, i, c => hvy f t (i + 1) (c + colN t i * (colN t i - 1) / 2)
def hvyN (t : Nat) : Nat := hvy 5 t 1 0
theorem col_lt0 : ∀ t, t < 19 → ∀ i, i < 8 → colN t i < 6 := by decide +kernel
theorem col_lt {t i : Nat} (ht : t < 19) (h : i < 8) : colN t i < 6 := col_lt0 t ht i h
theorem nI_pm (c : Nat) : nI c * (nI c - nI 1) = nI (c * (c - 1)) := by
  cases c with
  | zero => decide
  | succ c => rw [nI_sub (by omega), nI_mul]
theorem s_Ty_heavy_4 {t : Nat} (ht : t < 19) : ∀ (f i c : Nat) (μ : Mm), i + f = 6 → m_Ty_heavy_4 (nI t) (nI c) (nI i) μ = some (some (.int (nI (hvy f t i c))), μ)
  | 0, i, c, μ, h => by
    obtain rfl : i = 6 := by omega
    rw [e_Ty_heavy_4]
    exact bt (by rw [d_lt (by omega) (by omega)]; exact decide_eq_true (by omega))
  | f + 1, i, c, μ, h => by
    have hc := col_lt ht (i := i) (by omega)
    have hm : colN t i * (colN t i - 1) < 2 ^ 31 := by
      have : colN t i * (colN t i - 1) ≤ 6 * 6 := Nat.mul_le_mul (by omega) (by omega)
      omega
    rw [e_Ty_heavy_4, bf (by rw [d_lt (by omega) (by omega)]; exact decide_eq_false (by omega)), s_Ty_column ht (by omega), cI_s, gd_h ne2, nI_pm, nI_div hm (by omega), nI_add, nI_p1]
    exact s_Ty_heavy_4 ht f (i + 1) _ μ (by omega)
theorem s_Ty_heavy {t : Nat} (ht : t < 19) (μ : Mm) : m_Ty_heavy (nI t) μ = some (some (.int (nI (hvyN t))), μ) := by
  rw [e_Ty_heavy]
  exact s_Ty_heavy_4 ht 5 1 0 μ rfl
def liesF : Nat → Nat → Nat → Nat → Bool
  | 0, _, _, _ => true
  | f + 1, m, l, i => if colN l i < colN m i then false else liesF f m l (i + 1)
def liesN (m l : Nat) : Bool := liesF 5 m l 1
def b2i (b : Bool) : Nat := if b then 1 else 0
theorem s_Ty_lies_2 {m l : Nat} (hm : m < 19) (hl : l < 19) : ∀ (f i : Nat) (μ : Mm), i + f = 6 → m_Ty_lies_2 (nI m) (nI l) (nI i) μ = some (some (.int (nI (b2i (liesF f m l i)))), μ)
  | 0, i, μ, h => by
    obtain rfl : i = 6 := by omega
    rw [e_Ty_lies_2]
    exact (bt (by rw [d_lt (by omega) (by omega)]; exact decide_eq_true (by omega))).trans (gd_h isb_1)
  | f + 1, i, μ, h => by
    have h1 := col_lt hm (i := i) (by omega)
    have h2 := col_lt hl (i := i) (by omega)
    rw [e_Ty_lies_2, bf (by rw [d_lt (by omega) (by omega)]; exact decide_eq_false (by omega)), s_Ty_column hm (by omega), cI_s, s_Ty_column hl (by omega), cI_s, d_lt (by omega) (by omega)]
    show (bif decide (colN l i < colN m i) then _ else _) = some (some (Value.int (nI (b2i (if colN l i < colN m i then false else liesF f m l (i + 1))))), μ)
    by_cases q : colN l i < colN m i
    · rw [bt (decide_eq_true q), gd_h isb_0, if_pos q]; rfl
    · rw [bf (decide_eq_false q), if_neg q, nI_p1]
      exact s_Ty_lies_2 hm hl f (i + 1) μ (by omega)
theorem s_Ty_lies {m l : Nat} (hm : m < 19) (hl : l < 19) (μ : Mm) : m_Ty_lies (nI m) (nI l) μ = some (some (.int (nI (b2i (liesN m l)))), μ) := by
  rw [e_Ty_lies]
  exact s_Ty_lies_2 hm hl 5 1 μ rfl
theorem b2i_0 (b : Bool) : decide (nI (b2i b) = nI 0) = !b := by cases b <;> decide
def figF : Nat → Nat → Nat → Nat → Nat
  | 0, _, _, v => v
  | f + 1, t, i, v => figF f t (i + 1) (if 0 < colN t i then v * 10 + colN t i else v)
def trnN (t : Nat) : Nat := ([0, 1, 3, 2, 6, 5, 4, 11, 10, 9, 8, 7, 18, 17, 16, 15, 14, 13, 12] : List Nat).getD t 0
theorem trn_fig {t : Nat} (ht : t < 19) : numN (trnN t) = figF 5 t 1 0 ∧ trnN t < 19 := by
  revert t
  decide +kernel
theorem s_Ty_turned_4 {t : Nat} (ht : t < 19) : ∀ (f i v : Nat) (μ : Mm), i + f = 6 → m_Ty_turned_4 (nI t) (nI v) (nI i) μ = m_Ty_turned_4 (nI t) (nI (figF f t i v)) (nI 6) μ
  | 0, i, v, μ, h => by
    obtain rfl : i = 6 := by omega
    rfl
  | f + 1, i, v, μ, h => by
    have h1 := col_lt ht (i := i) (by omega)
    rw [e_Ty_turned_4, bf (by rw [d_lt (by omega) (by omega)]; exact decide_eq_false (by omega)), s_Ty_column ht (by omega), cI_s, d_lt (by omega) (by omega), nI_mul, nI_add, nI_p1]
    show _ = m_Ty_turned_4 (nI t) (nI (figF f t (i + 1) (if 0 < colN t i then v * 10 + colN t i else v))) (nI 6) μ
    by_cases q : 0 < colN t i
    · rw [bt (decide_eq_true q), if_pos q]
      exact s_Ty_turned_4 ht f (i + 1) _ μ (by omega)
    · rw [bf (decide_eq_false q), if_neg q]
      exact s_Ty_turned_4 ht f (i + 1) _ μ (by omega)
theorem s_Ty_turned {t : Nat} (ht : t < 19) (μ : Mm) : m_Ty_turned (nI t) μ = some (some (.int (nI (trnN t))), μ) := by
  obtain ⟨h1, h2⟩ := trn_fig ht
  rw [e_Ty_turned, show nI 0 = nI 0 from rfl, s_Ty_turned_4 ht 5 1 0 μ rfl, ← h1, e_Ty_turned_4, bt (by rw [d_lt (by omega) (by omega)]; exact decide_eq_true (by omega))]
  rcases s_Ty_find (nI (numN (trnN t))) μ with ⟨u, hu, e, h3⟩ | ⟨h3, -⟩
  · have a := numN_lt (trnN t)
    have b := numN_lt u
    have := numN_inj h2 hu ((nI_eq (by omega) (by omega)).mp e)
    subst this
    rw [h3, cI_s]
  · exact absurd rfl (h3 _ h2)

