/-! products of types: the class's side -/
def hTab : List (List (List (List Int))) := [[[[1]], [[1]], [[1], []], [[], [1]], [[1], [], []], [[], [1], []], [[], [], [1]], [[1], [], [], [], []], [[], [1], [], [], []], [[], [], [1], [], []], [[], [], [], [1], []], [[], [], [], [], [1]], [[1], [], [], [], [], [], []], [[], [1], [], [], [], [], []], [[], [], [1], [], [], [], []], [[], [], [], [1], [], [], []], [[], [], [], [], [1], [], []], [[], [], [], [], [], [1], []], [[], [], [], [], [], [], [1]]],
  [[[1]], [[1], [1, 1]], [[1], [0, 1], []], [[], [1], [1, 1, 1]], [[1], [0, 1], [], [], []], [[], [1], [1, 1], [0, 1, 1], []], [[], [], [], [1], [1, 1, 1, 1]], [[1], [0, 1], [], [], [], [], []], [[], [1], [0, 1], [0, 1, 1], [], [], []], [[], [], [1], [], [0, 0, 1], [], []], [[], [], [], [1], [1, 1], [0, 1, 1, 1], []], [[], [], [], [], [], [1], [1, 1, 1, 1, 1]]],
  [[[1], []], [[1], [0, 1], []], [[1], [-1, 1], [0, 1, 1], [], []], [[], [1], [], [0, 0, 1], []], [[1], [-1, 1], [0, 0, 1], [], [], [], []], [[], [1], [0, 1], [-1, 0, 1], [0, 0, 1, 1], [], []], [[], [], [], [1], [], [0, 0, 0, 1], []]],
  [[[], [1]], [[], [1], [1, 1, 1]], [[], [1], [], [0, 0, 1], []], [[], [], [1], [1, 1], [1, 1, 2, 1, 1]], [[], [1], [], [0, 0, 1], [], [], []], [[], [], [1], [1, 1], [0, 1, 1], [0, 0, 1, 1, 1], []], [[], [], [], [], [1], [1, 1, 1], [1, 1, 2, 2, 2, 1, 1]]],
  [[[1], [], []], [[1], [0, 1], [], [], []], [[1], [-1, 1], [0, 0, 1], [], [], [], []], [[], [1], [], [0, 0, 1], [], [], []]],
  [[[], [1], []], [[], [1], [1, 1], [0, 1, 1], []], [[], [1], [0, 1], [-1, 0, 1], [0, 0, 1, 1], [], []], [[], [], [1], [1, 1], [0, 1, 1], [0, 0, 1, 1, 1], []]],
  [[[], [], [1]], [[], [], [], [1], [1, 1, 1, 1]], [[], [], [], [1], [], [0, 0, 0, 1], []], [[], [], [], [], [1], [1, 1, 1], [1, 1, 2, 2, 2, 1, 1]]],
  [[[1], [], [], [], []], [[1], [0, 1], [], [], [], [], []]],
  [[[], [1], [], [], []], [[], [1], [0, 1], [0, 1, 1], [], [], []]],
  [[[], [], [1], [], []], [[], [], [1], [], [0, 0, 1], [], []]],
  [[[], [], [], [1], []], [[], [], [], [1], [1, 1], [0, 1, 1, 1], []]],
  [[[], [], [], [], [1]], [[], [], [], [], [], [1], [1, 1, 1, 1, 1]]],
  [[[1], [], [], [], [], [], []]],
  [[[], [1], [], [], [], [], []]],
  [[[], [], [1], [], [], [], []]],
  [[[], [], [], [1], [], [], []]],
  [[[], [], [], [], [1], [], []]],
  [[[], [], [], [], [], [1], []]],
  [[[], [], [], [], [], [], [1]]]]
def fstN (s : Nat) : Nat := ([0, 1, 2, 4, 7, 12] : List Nat).getD s 0
/-- the polynomial of l in the product of m and n -/
def hL (m n l : Nat) : List Int := if sizN m + sizN n = sizN l then ((hTab.getD m []).getD n []).getD (l - fstN (sizN l)) [] else []
/-- the class's product by ones -/
def boA (l m : Nat) : Nat → Nat → List Int → List Int
  | 0, _, A => A
  | f + 1, i, A => boA l m f (i + 1) (mulP A (chL (chI ((colN l i : Int) - colN l (i + 1)) ((colN l i : Int) - colN m i))))
def boU (l m : Nat) : Nat → Nat → Int → Int
  | 0, _, u => u
  | f + 1, i, u => boU l m f (i + 1) (u - ((colN l i : Int) - colN m i) * (((colN l i : Int) - colN l (i + 1)) - ((colN l i : Int) - colN m i)))
def upN (l m r : Nat) : Int := boU l m 5 1 ((hvyN l : Int) - hvyN m - ((r * (r - 1) / 2 : Nat) : Int))
def rsP (z : Int) (A : List Int) : List Int := if 0 < z then shP z.toNat A else A
def boC (l m r : Nat) : List Int := if sizN m + r = sizN l then rsP (upN l m r) (boA l m 5 1 [1]) else []
theorem up_ok : ∀ l, l < 19 → ∀ m, m < 19 → ∀ r, r < 6 → (-100 ≤ upN l m r ∧ upN l m r ≤ 100) := by decide +kernel
theorem c_raiseI {k : Nat} {μ : Mm} {A : List Int} (h1 : shK k = 1) (h2 : shN k = 31) {z : Int} (z1 : -100 ≤ z) (z2 : z ≤ 100) (h : HL k A μ) : ∃ μ', m_Po_raise k (iI z) μ = some (none, μ') ∧ Fr (fun c => c = k) μ μ' ∧ HL k (rsP z A) μ' := by
  unfold rsP
  by_cases q : 0 < z
  · obtain ⟨n, rfl⟩ : ∃ n : Nat, z = n := ⟨z.toNat, by omega⟩
    rw [if_pos q, ← iI_n, show ((n : Int)).toNat = n from rfl]
    exact c_raise h1 h2 (by omega) h
  · rw [if_neg q]
    refine ⟨μ, ?_, Fr.rf, h⟩
    rw [e_Po_raise, iI_0, iI_lt (by omega) (by omega) (by omega) (by omega), decide_eq_false q]
    rfl
theorem s_byOnes_47 {k l m : Nat} (h1 : shK k = 1) (h2 : shN k = 31) (hk : 38 < k) (hl : l < 19) (hm : m < 19) : ∀ (f i : Nat) (A : List Int) (u : Int) (μ : Mm), i + f = 6 → 1 ≤ i → -100 ≤ boU l m f i u → boU l m f i u ≤ 100 → CT μ → HL k A μ → ∃ μ', m_Co_writeByOnes_47 k (nI l) (nI m) (iI u) (nI i) μ = some (none, μ') ∧ Fr (fun c => c = k) μ μ' ∧ HL k (rsP (boU l m f i u) (boA l m f i A)) μ'
  | 0, i, A, u, μ, e, hi, u1, u2, hC, h => by
    obtain rfl : i = 6 := by omega
    obtain ⟨μ1, g1, g2, g3⟩ := c_raiseI h1 h2 u1 u2 h
    refine ⟨μ1, ?_, g2, g3⟩
    have g1' : m_Po_raise k (iI u) μ = some (none, μ1) := g1
    rw [e_Co_writeByOnes_47, bLt (by omega) (by omega), g1', cV_s]
  | f + 1, i, A, u, μ, e, hi, u1, u2, hC, h => by
    have c1 := col_lt hl (i := i) (by omega)
    have c2 := col_lt hm (i := i) (by omega)
    have c3 := col_lt hl (i := i + 1) (by omega)
    have hix := chI_lt ((colN l i : Int) - colN l (i + 1)) ((colN l i : Int) - colN m i)
    obtain ⟨r1, r2, r3⟩ := ch_row _ hix
    obtain ⟨μ1, g1, g2, g3⟩ := c_mul h1 h2 r2 r3 (by omega) (by omega) (by omega) h (fun j hj => (hC _ hix).1 j hj)
    obtain ⟨μ2, k1, k2, k3⟩ := s_byOnes_47 h1 h2 hk hl hm f (i + 1) _ (u - ((colN l i : Int) - colN m i) * (((colN l i : Int) - colN l (i + 1)) - ((colN l i : Int) - colN m i))) μ1 (by omega) (by omega) u1 u2 (hC.fr g2 (fun c a b => by omega) (not312 h2)) g3
    refine ⟨μ2, ?_, g2.t2 k2, k3⟩
    rw [e_Co_writeByOnes_47, bLf (by omega) (by omega), s_Ty_column hl (by omega), cI_s, nI_p1, s_Ty_column hl (by omega), cI_s, s_Ty_column hl (by omega), cI_s, s_Ty_column hm (by omega), cI_s, iI_n (colN l i), iI_n (colN l (i + 1)), iI_n (colN m i), iI_sub, iI_sub, s_Co_chosen (by omega) (by omega) (by omega) (by omega), cA_s, g1, cV_s, iI_sub, iI_mul, iI_sub, k1]
theorem s_byOnes {k l m r : Nat} (h1 : shK k = 1) (h2 : shN k = 31) (hk : 38 < k) (hl : l < 19) (hm : m < 19) (hr : r < 6) {μ : Mm} (hC : CT μ) : ∃ μ', m_Co_writeByOnes k (nI l) (nI m) (nI r) μ = some (none, μ') ∧ Fr (fun c => c = k) μ μ' ∧ HL k (boC l m r) μ' := by
  have s1 := sz_lt hl
  have s2 := sz_lt hm
  obtain ⟨μ1, g1, g2, g3⟩ := c_zero h1 h2 μ
  unfold boC
  by_cases q : sizN m + r = sizN l
  · obtain ⟨μ2, g4, g5, g6⟩ := c_one h1 h2 μ1
    obtain ⟨u1, u2⟩ := up_ok l hl m hm r hr
    have hC2 := (hC.fr g2 (fun c a b => by omega) (not312 h2)).fr g5 (fun c a b => by omega) (not312 h2)
    obtain ⟨μ3, k1, k2, k3⟩ := s_byOnes_47 h1 h2 hk hl hm 5 1 [1] _ μ2 rfl (by omega) u1 u2 hC2 g6
    have e : nI (hvyN l) - nI (hvyN m) - nI r * (nI r - nI 1) / nI 2 = iI ((hvyN l : Int) - hvyN m - ((r * (r - 1) / 2 : Nat) : Int)) := by
      have hm2 : r * (r - 1) ≤ 5 * 5 := Nat.mul_le_mul (by omega) (by omega)
      rw [nI_pm, nI_div (by omega) (by omega), iI_n, iI_n, iI_n (r * (r - 1) / 2), iI_sub, iI_sub]
    rw [if_pos q]
    refine ⟨μ3, ?_, (g2.t2 g5).t2 k2, k3⟩
    rw [e_Co_writeByOnes, g1, cV_s, s_Ty_size hm, cI_s, s_Ty_size hl, cI_s, nI_add, bEt q, g4, cV_s, s_Ty_heavy hl, cI_s, s_Ty_heavy hm, cI_s, gd_h ne2, e, k1]
  · rw [if_neg q]
    refine ⟨μ1, ?_, g2, g3⟩
    rw [e_Co_writeByOnes, g1, cV_s, s_Ty_size hm, cI_s, s_Ty_size hl, cI_s, nI_add, bEf q (by omega) (by omega)]
/-- the class's product, one of both types of size 2 at most -/
def hcF (l g : Nat) : Nat → Nat → List Int → List Int
  | 0, _, A => A
  | f + 1, j, A => hcF l g f (j + 1) (addP A (mulP (boC l j 1) (boC j g 1)))
def hcS (l g s : Nat) : List Int := if s = 2 then hcF l g 19 0 (addP (addP [] (scaP (-1) (boC l g 2))) (scaP (-1) (shP 1 (boC l g 2)))) else boC l g (colN s 1)
def hcC (l m n : Nat) : List Int := if sizN m + sizN n = sizN l then (if sizN m < sizN n then hcS l n m else hcS l m n) else []
theorem hc_ok : ∀ l, l < 19 → ∀ m, m < 19 → ∀ n, n < 19 → eqP (hcC l m n) (hL m n l) = true := by decide +kernel
abbrev fHa (k : Nat) (c : Nat) : Prop := c = k ∨ c = 59 ∨ c = 60
theorem s_hall_121 {k l g : Nat} (h1 : shK k = 1) (h2 : shN k = 31) (hk : 60 < k) (hl : l < 19) (hg : g < 19) : ∀ (f j : Nat) (A : List Int) (μ : Mm), j + f = 19 → CT μ → HL k A μ → ∃ μ', m_Co_writeHall_121 k (nI l) (nI g) (nI j) μ = some (none, μ') ∧ Fr (fHa k) μ μ' ∧ HL k (hcF l g f j A) μ'
  | 0, j, A, μ, e, hC, h => by
    obtain rfl : j = 19 := by omega
    refine ⟨μ, ?_, Fr.rf, h⟩
    rw [e_Co_writeHall_121, bLf (by omega) (by omega)]
  | f + 1, j, A, μ, e, hC, h => by
    have hj : j < 19 := by omega
    obtain ⟨μ1, g1, g2, g3⟩ := s_byOnes (k := 59) (r := 1) (by decide) (by decide) (by omega) hl hj (by omega) hC
    have hC1 := hC.fr g2 (fun c a b => by omega) (by omega)
    obtain ⟨μ2, g4, g5, g6⟩ := s_byOnes (k := 60) (r := 1) (by decide) (by decide) (by omega) hj hg (by omega) hC1
    have hC2 := hC1.fr g5 (fun c a b => by omega) (by omega)
    obtain ⟨μ3, g7, g8, g9⟩ := c_mul (k := 59) (b := 60) (n := 31) (by decide) (by decide) (by decide) (by decide) (by omega) (by omega) (by omega) (g3.fr g5 (by omega)) (fun i hi => by
      unfold cut
      rw [if_pos hi]
      exact g6 i hi)
    have hC3 := hC2.fr g8 (fun c a b => by omega) (by omega)
    obtain ⟨μ4, ga, gb, gc⟩ := c_add1 (b := 59) h1 h2 (by decide) (by decide) (by omega) (((h.fr g2 (by omega)).fr g5 (by omega)).fr g8 (by omega)) g9
    have F4 : Fr (fHa k) μ μ4 := (((g2.w (T := fHa k) (fun c hc => Or.inr (Or.inl hc))).t2 (g5.w (fun c hc => Or.inr (Or.inr hc)))).t2 (g8.w (fun c hc => Or.inr (Or.inl hc)))).t2 (gb.w (fun c hc => Or.inl hc))
    obtain ⟨μ5, k1, k2, k3⟩ := s_hall_121 h1 h2 hk hl hg f (j + 1) _ μ4 (by omega) (hC3.fr gb (fun c a b => by omega) (not312 h2)) gc
    refine ⟨μ5, ?_, F4.t2 k2, k3⟩
    rw [e_Co_writeHall_121, bLt hj (by omega), g1, cV_s, g4, cV_s, g7, cV_s, ga, cV_s, nI_p1, k1]
theorem s_hall_54 {k l g s : Nat} (h1 : shK k = 1) (h2 : shN k = 31) (hk : 60 < k) (hl : l < 19) (hg : g < 19) (hs : s < 19) {μ : Mm} (hC : CT μ) (h : HL k [] μ) : ∃ μ', m_Co_writeHall_54 k (nI l) (nI g) (nI s) μ = some (none, μ') ∧ Fr (fHa k) μ μ' ∧ HL k (hcS l g s) μ' := by
  unfold hcS
  rw [e_Co_writeHall_54, d_eq (by omega) (by omega)]
  by_cases q : s = 2
  · rw [decide_eq_true q, cond_true, if_pos q]
    obtain ⟨μ1, g1, g2, g3⟩ := s_byOnes (k := 59) (r := 2) (by decide) (by decide) (by omega) hl hg (by omega) hC
    have hC1 := hC.fr g2 (fun c a b => by omega) (by omega)
    obtain ⟨μ2, g4, g5, g6⟩ := c_add (x := (-1 : Int64)) (z := -1) (b := 59) h1 h2 (by decide) (by decide) (by omega) (by decide) (h.fr g2 (by omega)) g3
    have hC2 := hC1.fr g5 (fun c a b => by omega) (not312 h2)
    obtain ⟨μ3, g7, g8, g9⟩ := c_raise (k := 59) (b := 1) (by decide) (by decide) (by omega) (g3.fr g5 (by omega))
    have hC3 := hC2.fr g8 (fun c a b => by omega) (by omega)
    obtain ⟨μ4, ga, gb, gc⟩ := c_add (x := (-1 : Int64)) (z := -1) (b := 59) h1 h2 (by decide) (by decide) (by omega) (by decide) (g6.fr g8 (by omega)) g9
    have F4 : Fr (fHa k) μ μ4 := (((g2.w (T := fHa k) (fun c hc => Or.inr (Or.inl hc))).t2 (g5.w (fun c hc => Or.inl hc))).t2 (g8.w (fun c hc => Or.inr (Or.inl hc)))).t2 (gb.w (fun c hc => Or.inl hc))
    obtain ⟨μ5, k1, k2, k3⟩ := s_hall_121 h1 h2 hk hl hg 19 0 _ μ4 rfl (hC3.fr gb (fun c a b => by omega) (not312 h2)) gc
    refine ⟨μ5, ?_, F4.t2 k2, k3⟩
    rw [g1, cV_s, g4, cV_s, g7, cV_s, ga, cV_s, k1]
  · rw [decide_eq_false q, cond_false, if_neg q]
    have c1 := col_lt hs (i := 1) (by omega)
    obtain ⟨μ1, g1, g2, g3⟩ := s_byOnes (r := colN s 1) h1 h2 (by omega) hl hg c1 hC
    refine ⟨μ1, ?_, g2.w (fun c hc => Or.inl hc), g3⟩
    rw [s_Ty_parts hs, cI_s, g1, cV_s]
theorem s_writeHall {k l m n : Nat} (h1 : shK k = 1) (h2 : shN k = 31) (hk : 60 < k) (hl : l < 19) (hm : m < 19) (hn : n < 19) {μ : Mm} (hC : CT μ) : ∃ μ', m_Co_writeHall k (nI l) (nI m) (nI n) μ = some (none, μ') ∧ Fr (fHa k) μ μ' ∧ HL k (hL m n l) μ' := by
  have s1 := sz_lt hl
  have s2 := sz_lt hm
  have s3 := sz_lt hn
  obtain ⟨μ1, g1, g2, g3⟩ := c_zero h1 h2 μ
  have hC1 := hC.fr g2 (fun c a b => by omega) (not312 h2)
  have ho := hc_ok l hl m hm n hn
  unfold hcC at ho
  by_cases q : sizN m + sizN n = sizN l
  · rw [if_pos q] at ho
    by_cases q2 : sizN m < sizN n
    · rw [if_pos q2] at ho
      obtain ⟨μ2, k1, k2, k3⟩ := s_hall_54 h1 h2 hk hl hn hm hC1 g3
      refine ⟨μ2, ?_, (g2.w (fun c hc => Or.inl hc)).t2 k2, k3.eq ho⟩
      have hne : ¬ n = m := fun e => by rw [e] at q2; omega
      rw [e_Co_writeHall, g1, cV_s, s_Ty_size hm, cI_s, s_Ty_size hn, cI_s, s_Ty_size hl, cI_s, nI_add, bEt q, s_Ty_size hm, cI_s, s_Ty_size hn, cI_s, bLt q2 (by omega), bEf hne (by omega) (by omega), k1]
    · rw [if_neg q2] at ho
      obtain ⟨μ2, k1, k2, k3⟩ := s_hall_54 h1 h2 hk hl hm hn hC1 g3
      refine ⟨μ2, ?_, (g2.w (fun c hc => Or.inl hc)).t2 k2, k3.eq ho⟩
      rw [e_Co_writeHall, g1, cV_s, s_Ty_size hm, cI_s, s_Ty_size hn, cI_s, s_Ty_size hl, cI_s, nI_add, bEt q, s_Ty_size hm, cI_s, s_Ty_size hn, cI_s, bLf (by omega) (by omega), bEt rfl, k1]
  · rw [if_neg q] at ho
    refine ⟨μ1, ?_, g2.w (fun c hc => Or.inl hc), g3.eq ho⟩
    rw [e_Co_writeHall, g1, cV_s, s_Ty_size hm, cI_s, s_Ty_size hn, cI_s, s_Ty_size hl, cI_s, nI_add, bEf q (by omega) (by omega)]

