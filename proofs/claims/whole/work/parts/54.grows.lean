/-! the reference's types: how they are made -/
/-- how many of the last figures of v are at least i -/
def cdF : Nat → Nat → Nat → Nat
  | 0, _, _ => 0
  | f + 1, v, i => if 0 < v then (if i ≤ v % 10 then 1 else 0) + cdF f (v / 10) i else 0
/-- all figures are small -/
def dgB : Nat → Nat → Bool
  | 0, v => decide (v = 0)
  | f + 1, v => if 0 < v then decide (v % 10 < 6) && dgB f (v / 10) else true
def gwL (G : Nat → Nat → Nat → Nat → List (Nat × Nat)) (left num size : Nat) : Nat → List (Nat × Nat)
  | 0 => []
  | p + 1 => G (left - (p + 1)) (p + 1) (10 * num + (p + 1)) (size + (p + 1)) ++ gwL G left num size p
def gwF : Nat → Nat → Nat → Nat → Nat → List (Nat × Nat)
  | 0, _, _, _, _ => []
  | f + 1, left, most, num, size => if left = 0 then [(num, size)] else gwL (gwF f) left num size (if left < most then left else most)
theorem gw_ok : ((gwF 7 0 0 0 0 ++ gwF 7 1 1 0 0) ++ (gwF 7 2 2 0 0 ++ gwF 7 3 3 0 0)) ++ (gwF 7 4 4 0 0 ++ gwF 7 5 5 0 0) = (List.range 19).map (fun t => (numN t, sizN t)) := by decide +kernel
theorem cd_ok : ∀ t, t < 19 → ∀ i, i < 6 → cdF 6 (numN t) (i + 1) = colN t (i + 1) := by decide +kernel
theorem dg_ok : ∀ t, t < 19 → dgB 6 (numN t) = true ∧ numN t < 100000 := by decide +kernel
abbrev fGw (k : Nat) : Prop := k = 306 ∨ (307 ≤ k ∧ k < 310)
section GRW
theorem s_g36 (d : Nat) {t v e : Nat} (ht : t < 19) (hv : v < 100000) (he : v % 10 = e) (he6 : e < 6) : ∀ (f i : Nat) (c : Nat → Nat) (μ : Mm), i + f = e + 1 → 1 ≤ i → μ.1 306 3 = nI t → (∀ j, 1 ≤ j → j < 7 → μ.1 309 (7 * t + j) = nI (c j)) → ∃ μ', m_Mo_grows_36 d (nI v) (nI i) μ = m_Mo_grows_28 d (nI (v / 10)) μ' ∧ Fr (fun k => k = 309) μ μ' ∧ (∀ j, 1 ≤ j → j < 7 → μ'.1 309 (7 * t + j) = nI (c j + if i ≤ j ∧ j ≤ e then 1 else 0)) ∧ ∀ j, (j ≤ 7 * t ∨ 7 * t + 7 ≤ j) → μ'.1 309 j = μ.1 309 j
  | 0, i, c, μ, h, h1, h3, hc => by
    obtain rfl : i = e + 1 := by omega
    refine ⟨μ, ?_, Fr.rf, fun j a b => ?_, fun _ _ => rfl⟩
    · rw [e_Mo_grows_36, gd_h (by decide), nI_rem (by omega) (by omega), he, bLt (by omega) (by omega), gd_h (by decide), nI_div (by omega) (by omega)]
    · rw [if_neg (by omega)]
      exact hc j a b
  | f + 1, i, c, μ, h, h1, h3, hc => by
    have ci := hc i h1 (by omega)
    obtain ⟨μ', k1, k2, k3, k4⟩ := s_g36 d ht hv he he6 f (i + 1) (fun j => if j = i then c j + 1 else c j) (sI μ 309 (7 * t + i) (nI (c i + 1))) (by omega) (by omega) (by rw [sI_o (by omega)]; exact h3) (fun j a b => by
      rw [sI_s]
      show _ = nI (if j = i then c j + 1 else c j)
      by_cases q : j = i
      · rw [q, up_s, if_pos rfl]
      · rw [up_o (by omega), if_neg q]
        exact hc j a b)
    refine ⟨μ', ?_, (Fr.sI (S := fun k => k = 309) rfl).t2 k2, fun j a b => ?_, fun j hj => ?_⟩
    · rw [e_Mo_grows_36, gd_h (by decide), nI_rem (by omega) (by omega), he, bLf (by omega) (by omega), h3, nI_mul, nI_add, gi (by omega) (by omega), gi (by omega) (by omega), kl (by omega), ci, nI_p1, nI_p1, k1]
    · rw [k3 j a b]
      show nI ((if j = i then c j + 1 else c j) + _) = _
      congr 1
      by_cases q : j = i
      · rw [if_pos q, if_neg (by omega), if_pos (by omega)]
      · rw [if_neg q]
        congr 1
        by_cases z : i + 1 ≤ j ∧ j ≤ e
        · rw [if_pos z, if_pos (by omega)]
        · rw [if_neg z, if_neg (by omega)]
    · rw [k4 j hj, sI_s, up_o (by omega)]
theorem s_g28 (d : Nat) {t : Nat} (ht : t < 19) : ∀ (f v : Nat) (c : Nat → Nat) (μ : Mm), dgB f v = true → v < 100000 → μ.1 306 3 = nI t → (∀ j, 1 ≤ j → j < 7 → μ.1 309 (7 * t + j) = nI (c j)) → ∃ μ', m_Mo_grows_28 d (nI v) μ = some (none, μ') ∧ Fr (fun k => k = 306 ∨ k = 309) μ μ' ∧ (μ'.1 306 3 = nI (t + 1) ∧ ∀ j, j ≠ 3 → μ'.1 306 j = μ.1 306 j) ∧ (∀ j, 1 ≤ j → j < 7 → μ'.1 309 (7 * t + j) = nI (c j + cdF f v j)) ∧ ∀ j, (j ≤ 7 * t ∨ 7 * t + 7 ≤ j) → μ'.1 309 j = μ.1 309 j
  | 0, v, c, μ, hd, hv, h3, hc => by
    obtain rfl : v = 0 := of_decide_eq_true hd
    refine ⟨sI μ 306 3 (nI (t + 1)), ?_, Fr.sI (Or.inl rfl), ⟨by rw [sI_s, up_s], fun j hj => by rw [sI_s, up_o hj]⟩, fun j a b => ?_, fun j _ => by rw [sI_o (by omega)]⟩
    · rw [e_Mo_grows_28, bLf (by omega) (by omega), h3, nI_p1]
    · rw [sI_o (by omega)]
      exact hc j a b
  | f + 1, v, c, μ, hd, hv, h3, hc => by
    unfold dgB at hd
    by_cases q : 0 < v
    · rw [if_pos q] at hd
      obtain ⟨h6, hd2⟩ := Bool.and_eq_true_iff.mp hd
      have h6 := of_decide_eq_true h6
      obtain ⟨μ1, a1, a2, a3, a4⟩ := s_g36 d ht hv rfl h6 (v % 10) 1 c μ (by omega) (by omega) h3 hc
      obtain ⟨μ2, b1, b2, ⟨b3, b4⟩, b5, b6⟩ := s_g28 d ht f (v / 10) (fun j => c j + if 1 ≤ j ∧ j ≤ v % 10 then 1 else 0) μ1 hd2 (by omega) (by rw [(a2 306 (by omega)).1]; exact h3) a3
      refine ⟨μ2, ?_, (a2.w (fun k hk => Or.inr hk)).t2 b2, ⟨b3, fun j hj => by rw [b4 j hj, (a2 306 (by omega)).1]⟩, fun j x y => ?_, fun j hj => by rw [b6 j hj, a4 j hj]⟩
      · rw [e_Mo_grows_28, bLt q (by omega), a1, b1]
      · rw [b5 j x y]
        show nI ((c j + if 1 ≤ j ∧ j ≤ v % 10 then 1 else 0) + cdF f (v / 10) j) = nI (c j + cdF (f + 1) v j)
        unfold cdF
        rw [if_pos q]
        congr 1
        by_cases z : j ≤ v % 10
        · rw [if_pos ⟨x, z⟩, if_pos z]
          cases f <;> simp only [cdF] <;> omega
        · rw [if_neg (fun w => z w.2), if_neg z]
          cases f <;> simp only [cdF] <;> omega
    · obtain rfl : v = 0 := by omega
      refine ⟨sI μ 306 3 (nI (t + 1)), ?_, Fr.sI (Or.inl rfl), ⟨by rw [sI_s, up_s], fun j hj => by rw [sI_s, up_o hj]⟩, fun j a b => ?_, fun j _ => by rw [sI_o (by omega)]⟩
      · rw [e_Mo_grows_28, bLf (by omega) (by omega), h3, nI_p1]
      · rw [sI_o (by omega)]
        unfold cdF
        rw [if_neg (by omega)]
        exact hc j a b
/-- the types so far -/
def GT (L : List (Nat × Nat)) (μ : Mm) : Prop := μ.1 306 3 = nI L.length ∧ (∀ t, t < L.length → μ.1 307 t = nI (L.getD t (0, 0)).1 ∧ μ.1 308 t = nI (L.getD t (0, 0)).2 ∧ ∀ i, 1 ≤ i → i < 7 → μ.1 309 (7 * t + i) = nI (cdF 6 (L.getD t (0, 0)).1 i)) ∧ ∀ j, 7 * L.length ≤ j → j < 133 → μ.1 309 j = nI 0
theorem getD_l {L : List (Nat × Nat)} {x : Nat × Nat} {t : Nat} (h : t < L.length) : (L ++ [x]).getD t (0, 0) = L.getD t (0, 0) := by
  rw [List.getD_eq_getElem?_getD, List.getD_eq_getElem?_getD, List.getElem?_append_left h]
theorem getD_r {L : List (Nat × Nat)} {x : Nat × Nat} : (L ++ [x]).getD L.length (0, 0) = x := by
  rw [List.getD_eq_getElem?_getD, List.getElem?_append_right (Nat.le_refl _), Nat.sub_self]
  rfl
/-- every row's numbers are small -/
def okR (x : Nat × Nat) : Prop := dgB 6 x.1 = true ∧ x.1 < 100000
theorem s_leaf {L : List (Nat × Nat)} {num size : Nat} {x : Int32} {μ : Mm} (hG : GT L μ) (hL : L.length < 19) (hk : okR (num, size)) : ∃ μ', m_Mo_grows (nI 0) x (nI num) (nI size) μ = some (none, μ') ∧ Fr fGw μ μ' ∧ (∀ j, j ≠ 3 → μ'.1 306 j = μ.1 306 j) ∧ GT (L ++ [(num, size)]) μ' := by
  obtain ⟨h3, hT, hZ⟩ := hG
  obtain ⟨μa, ea⟩ : ∃ z, z = sI (sI μ 307 L.length (nI num)) 308 L.length (nI size) := ⟨_, rfl⟩
  have a3 : μa.1 306 3 = nI L.length := by rw [ea, sI_o (by omega), sI_o (by omega)]; exact h3
  have a9 : μa.1 309 = μ.1 309 := by rw [ea, sI_o (by omega), sI_o (by omega)]
  obtain ⟨μ', b1, b2, ⟨b3, b4⟩, b5, b6⟩ := s_g28 (pK 150 [.ref 306, .int (nI 0), .int x, .int (nI num), .int (nI size)]) hL 6 num (fun _ => 0) μa hk.1 hk.2 a3 (fun j x y => by rw [a9]; exact hZ _ (by omega) (by omega))
  have Fa : Fr fGw μ μa := by
    rw [ea]
    exact (Fr.sI (S := fGw) (Or.inr ⟨by omega, by omega⟩)).t2 (Fr.sI (Or.inr ⟨by omega, by omega⟩))
  have l1 : (L ++ [(num, size)]).length = L.length + 1 := by rw [List.length_append]; rfl
  refine ⟨μ', ?_, Fa.t2 (b2.w (fun k hk => by omega)), fun j hj => by rw [b4 j hj, ea, sI_o (by omega), sI_o (by omega)], by rw [l1]; exact b3, fun t ht => ?_, fun j j1 j2 => ?_⟩
  · rw [e_Mo_grows, bEt rfl, h3, gi hL (by omega), kl (by omega), show (sI μ 307 L.length (nI num)).1 306 3 = nI L.length by rw [sI_o (by omega)]; exact h3, gi hL (by omega), kl (by omega), ← ea, b1]
  · rw [l1] at ht
    rw [(b2 307 (by omega)).1, (b2 308 (by omega)).1]
    by_cases q : t < L.length
    · obtain ⟨t1, t2, t3⟩ := hT t q
      rw [getD_l q]
      refine ⟨?_, ?_, fun i i1 i2 => ?_⟩
      · rw [ea, sI_o (by omega), sI_s, up_o (by omega)]
        exact t1
      · rw [ea, sI_s, up_o (by omega), sI_o (by omega)]
        exact t2
      · rw [b6 _ (by omega), a9]
        exact t3 i i1 i2
    · obtain rfl : t = L.length := by omega
      rw [getD_r]
      refine ⟨?_, ?_, fun i i1 i2 => ?_⟩
      · rw [ea, sI_o (by omega), sI_s, up_s]
      · rw [ea, sI_s, up_s]
      · rw [b5 i i1 i2, Nat.zero_add]
  · rw [l1] at j1
    rw [b6 j (by omega), a9]
    exact hZ j (by omega) j2
theorem pk150 : ∀ a, a < 6 → ∀ b, b < a → ∀ x y z x' y' z' : Value, Nat.ble (pK 150 [.ref 306, .int (nI b), x, y, z] + 1) (pK 150 [.ref 306, .int (nI a), x', y', z']) = true := by
  have K : ∀ a, a < 6 → ∀ b, b < a → Nat.ble (pK 150 [.ref 306, .int (nI b), .null, .null, .null] + 1) (pK 150 [.ref 306, .int (nI a), .null, .null, .null]) = true := by decide +kernel
  exact fun a ha b hb x y z x' y' z' => K a ha b hb
theorem s_grows : ∀ (f left most num size : Nat) (L : List (Nat × Nat)) (μ : Mm), left < f → left < 6 → most < 6 → GT L μ → L.length + (gwF f left most num size).length ≤ 19 → (∀ x, x ∈ gwF f left most num size → okR x) → ∃ μ', m_Mo_grows (nI left) (nI most) (nI num) (nI size) μ = some (none, μ') ∧ Fr fGw μ μ' ∧ (∀ j, j ≠ 3 → μ'.1 306 j = μ.1 306 j) ∧ GT (L ++ gwF f left most num size) μ'
  | 0, left, most, num, size, L, μ, hf, _, _, _, _, _ => absurd hf (Nat.not_lt_zero _)
  | f + 1, left, most, num, size, L, μ, hf, hl, hm, hG, hle, hok => by
    unfold gwF at hle hok ⊢
    by_cases q : left = 0
    · subst q
      rw [if_pos rfl] at hle hok ⊢
      exact s_leaf hG (by have : ([(num, size)] : List (Nat × Nat)).length = 1 := rfl; omega) (hok _ List.mem_cons_self)
    · rw [if_neg q] at hle hok ⊢
      have loop : ∀ (p : Nat) (L : List (Nat × Nat)) (μ : Mm), p ≤ left → p < 6 → GT L μ → L.length + (gwL (gwF f) left num size p).length ≤ 19 → (∀ x, x ∈ gwL (gwF f) left num size p → okR x) → ∃ μ', m_Mo_grows_104 (pK 150 [.ref 306, .int (nI left), .int (nI most), .int (nI num), .int (nI size)]) (nI left) (nI num) (nI size) (nI p) μ = some (none, μ') ∧ Fr fGw μ μ' ∧ (∀ j, j ≠ 3 → μ'.1 306 j = μ.1 306 j) ∧ GT (L ++ gwL (gwF f) left num size p) μ' := by
        intro p
        induction p with
        | zero =>
          intro L μ _ _ hG _ _
          refine ⟨μ, ?_, Fr.rf, fun _ _ => rfl, ?_⟩
          · rw [e_Mo_grows_104, bLf (by omega) (by omega)]
          · show GT (L ++ []) μ
            rw [List.append_nil]
            exact hG
        | succ p ih =>
          intro L μ hp hp6 hG hle hok
          have el : gwL (gwF f) left num size (p + 1) = gwF f (left - (p + 1)) (p + 1) (10 * num + (p + 1)) (size + (p + 1)) ++ gwL (gwF f) left num size p := rfl
          rw [el] at hle hok ⊢
          rw [List.length_append] at hle
          obtain ⟨μ1, a1, a2, a3, a4⟩ := s_grows f (left - (p + 1)) (p + 1) (10 * num + (p + 1)) (size + (p + 1)) L μ (by omega) (by omega) hp6 hG (by omega) (fun x hx => hok x (List.mem_append_left _ hx))
          obtain ⟨μ2, b1, b2, b3, b4⟩ := ih (L ++ gwF f (left - (p + 1)) (p + 1) (10 * num + (p + 1)) (size + (p + 1))) μ1 (by omega) (by omega) a4 (by rw [List.length_append]; omega) (fun x hx => hok x (List.mem_append_right _ hx))
          refine ⟨μ2, ?_, a2.t2 b2, fun j hj => by rw [b3 j hj, a3 j hj], by rw [← List.append_assoc]; exact b4⟩
          rw [e_Mo_grows_104, bLt (by omega) (by omega), nI_sub hp, nI_mul, nI_add, nI_add, gd_h (pk150 left hl (left - (p + 1)) (by omega) _ _ _ _ _ _), a1, cV_s, nI_m1, b1]
      by_cases z : left < most
      · rw [if_pos z] at hle hok ⊢
        obtain ⟨μ', a1, a2, a3, a4⟩ := loop left L μ (Nat.le_refl _) hl hG hle hok
        exact ⟨μ', by rw [e_Mo_grows, bEf q (by omega) (by omega), bLt z (by omega), a1], a2, a3, a4⟩
      · rw [if_neg z] at hle hok ⊢
        obtain ⟨μ', a1, a2, a3, a4⟩ := loop most L μ (by omega) hm hG hle hok
        exact ⟨μ', by rw [e_Mo_grows, bEf q (by omega) (by omega), bLf (by omega) (by omega), a1], a2, a3, a4⟩
theorem gw_okR : ∀ i, i < 6 → ∀ x, x ∈ gwF 7 i i 0 0 → okR x := by
  have K : ∀ i, i < 6 → (gwF 7 i i 0 0).all (fun x => dgB 6 x.1 && decide (x.1 < 100000)) = true := by decide +kernel
  intro i hi x hx
  have h := List.all_eq_true.mp (K i hi) x hx
  obtain ⟨a, b⟩ := Bool.and_eq_true_iff.mp h
  exact ⟨a, of_decide_eq_true b⟩
def gwT : Nat → List (Nat × Nat)
  | 0 => []
  | i + 1 => gwT i ++ gwF 7 i i 0 0
theorem gwT_len : ∀ i, i < 7 → (gwT i).length ≤ 19 := by decide +kernel
theorem gwT_6 : gwT 6 = (List.range 19).map (fun t => (numN t, sizN t)) := by decide +kernel
theorem GT_0 {μ : Mm} (h3 : μ.1 306 3 = nI 0) (h : ∀ j, j < 133 → μ.1 309 j = nI 0) : GT (gwT 0) μ := ⟨h3, fun t ht => absurd ht (Nat.not_lt_zero _), fun j _ j2 => h j j2⟩
/-- all types of a size -/
theorem s_grow {i : Nat} (hi : i < 6) {μ : Mm} (hG : GT (gwT i) μ) : ∃ μ', m_Mo_grows (nI i) (nI i) (nI 0) (nI 0) μ = some (none, μ') ∧ Fr fGw μ μ' ∧ (∀ j, j ≠ 3 → μ'.1 306 j = μ.1 306 j) ∧ GT (gwT (i + 1)) μ' := by
  have hl := gwT_len (i + 1) (by omega)
  have el : gwT (i + 1) = gwT i ++ gwF 7 i i 0 0 := rfl
  rw [el, List.length_append] at hl
  exact s_grows 7 i i 0 0 (gwT i) μ (by omega) hi hi hG hl (gw_okR i hi)
theorem GT.mt {μ : Mm} (h : GT (gwT 6) μ) : MT μ := by
  obtain ⟨-, hT, -⟩ := h
  rw [gwT_6] at hT
  have gd : ∀ t, t < 19 → ((List.range 19).map (fun t => (numN t, sizN t))).getD t (0, 0) = (numN t, sizN t) := fun t ht => by
    rw [List.getD_eq_getElem?_getD, List.getElem?_map, List.getElem?_range ht]
    rfl
  have hT : ∀ t, t < 19 → μ.1 307 t = nI (numN t) ∧ μ.1 308 t = nI (sizN t) ∧ ∀ i, 1 ≤ i → i < 7 → μ.1 309 (7 * t + i) = nI (cdF 6 (numN t) i) := fun t ht => by
    have := hT t (by rw [List.length_map, List.length_range]; exact ht)
    rw [gd t ht] at this
    exact this
  refine ⟨fun t ht => (hT t ht).1, fun t ht => (hT t ht).2.1, fun t i ht i1 i2 => ?_⟩
  rw [(hT t ht).2.2 i i1 (by omega)]
  have := cd_ok t ht (i - 1) (by omega)
  rw [show i - 1 + 1 = i by omega] at this
  rw [this]
/-! .. and its choices -/
def RT (a b k : Nat) (μ : Mm) : Prop := ∀ a', a' < 6 → ∀ b', b' < 6 → ∀ j, j < 31 → μ.2 312 ((6 * a' + b') * 31 + j) = if a' < a ∨ (a' = a ∧ (b' < b ∨ (b' = b ∧ j < k))) then rp (chL (6 * a' + b')) j else lN 0
theorem rt_0a : ∀ a, a < 6 → ∀ j, j < 31 → rp (chL (6 * a)) j = if j = 0 then lN 1 else lN 0 := by decide +kernel
theorem rt_1a : ∀ a, a < 6 → ∀ b, b < 6 → ∀ k, k < 31 → (1 ≤ b ∧ b ≤ a) → rp (chL (6 * a + b)) k = rp (chL (6 * (a - 1) + (b - 1))) k + (if k < b then lN 0 else rp (chL (6 * (a - 1) + b)) (k - b)) := by decide +kernel
theorem rt_2a : ∀ a, a < 6 → ∀ b, b < 6 → ∀ k, k < 31 → a < b → rp (chL (6 * a + b)) k = lN 0 := by decide +kernel
abbrev f312 (k : Nat) : Prop := k = 312
theorem s_re27 {a b : Nat} (ha : a < 6) (h1 : 1 ≤ b) (hb : b ≤ a) : ∀ (f k : Nat) (μ : Mm), k + f = 31 → RT a b k μ → ∃ μ', m_Mo_rests_27 (nI a) (nI b) (nI k) μ = m_Mo_rests_20 (nI a) (nI (b + 1)) μ' ∧ Fr f312 μ μ' ∧ RT a (b + 1) 0 μ'
  | 0, k, μ, e, hR => by
    obtain rfl : k = 31 := by omega
    refine ⟨μ, ?_, Fr.rf, fun a' x b' y j z => ?_⟩
    · rw [e_Mo_rests_27, bLf (by omega) (by omega), nI_p1]
    · rw [hR a' x b' y j z]
      by_cases w : a' < a ∨ (a' = a ∧ (b' < b ∨ (b' = b ∧ j < 31)))
      · rw [if_pos w, if_pos (by omega)]
      · rw [if_neg w, if_neg (by omega)]
  | f + 1, k, μ, e, hR => by
    have r1 := hR (a - 1) (by omega) (b - 1) (by omega) k (by omega)
    rw [if_pos (by omega)] at r1
    have t := rt_1a a ha b (by omega) k (by omega) ⟨h1, hb⟩
    have step : ∀ v, v = rp (chL (6 * a + b)) k → RT a b (k + 1) (sL μ 312 ((6 * a + b) * 31 + k) v) := fun v hv a' x b' y j z => by
      rw [sL_s]
      by_cases w : a' = a ∧ b' = b ∧ j = k
      · obtain ⟨rfl, rfl, rfl⟩ := w
        rw [uL_s, if_pos (by omega), hv]
      · rw [uL_o (by omega), hR a' x b' y j z]
        by_cases y2 : a' < a ∨ (a' = a ∧ (b' < b ∨ (b' = b ∧ j < k)))
        · rw [if_pos y2, if_pos (by omega)]
        · rw [if_neg y2, if_neg (by omega)]
    have i1 : nI 6 * (nI a - nI 1) + nI b - nI 1 = nI (6 * (a - 1) + b - 1) := by rw [nI_sub (show 1 ≤ a by omega), nI_mul, nI_add, nI_sub (by omega)]
    have i2 : (nI 6 * (nI a - nI 1) + nI b - nI 1) * nI 31 + nI k = nI ((6 * (a - 1) + (b - 1)) * 31 + k) := by rw [i1, nI_mul, nI_add, show 6 * (a - 1) + b - 1 = 6 * (a - 1) + (b - 1) by omega]
    have i3 : (nI 6 * nI a + nI b) * nI 31 + nI k = nI ((6 * a + b) * 31 + k) := by rw [nI_mul, nI_add, nI_mul, nI_add]
    by_cases q : k < b
    · rw [if_pos q] at t
      obtain ⟨μ', k1, k2, k3⟩ := s_re27 ha h1 hb f (k + 1) _ (by omega) (step (rp (chL (6 * (a - 1) + (b - 1))) k + lN 0) t.symm)
      refine ⟨μ', ?_, (Fr.sL (S := f312) rfl).t2 k2, k3⟩
      rw [e_Mo_rests_27, bLt (by omega) (by omega), i2, gi (by omega) (by omega), bLt q (by omega), i3, gi (by omega) (by omega), kl (by omega), kl (by omega), r1, nI_p1, k1]
    · rw [if_neg q] at t
      have r2 := hR (a - 1) (by omega) b (by omega) (k - b) (by omega)
      rw [if_pos (by omega)] at r2
      have i4 : (nI 6 * (nI a - nI 1) + nI b) * nI 31 + nI k - nI b = nI ((6 * (a - 1) + b) * 31 + (k - b)) := by rw [nI_sub (show 1 ≤ a by omega), nI_mul, nI_add, nI_mul, nI_add, nI_sub (by omega), show (6 * (a - 1) + b) * 31 + k - b = (6 * (a - 1) + b) * 31 + (k - b) by omega]
      obtain ⟨μ', k1, k2, k3⟩ := s_re27 ha h1 hb f (k + 1) _ (by omega) (step (rp (chL (6 * (a - 1) + (b - 1))) k + rp (chL (6 * (a - 1) + b)) (k - b)) t.symm)
      refine ⟨μ', ?_, (Fr.sL (S := f312) rfl).t2 k2, k3⟩
      rw [e_Mo_rests_27, bLt (by omega) (by omega), i2, gi (by omega) (by omega), bLf (by omega) (by omega), i4, gi (by omega) (by omega), i3, gi (by omega) (by omega), kl (by omega), kl (by omega), kl (by omega), r1, r2, nI_p1, k1]
theorem s_re20 {a : Nat} (ha : a < 6) : ∀ (f b : Nat) (μ : Mm), b + f = a + 1 → 1 ≤ b → RT a b 0 μ → ∃ μ', m_Mo_rests_20 (nI a) (nI b) μ = m_Mo_rests_2 (nI (a + 1)) μ' ∧ Fr f312 μ μ' ∧ RT (a + 1) 0 0 μ'
  | 0, b, μ, e, h1, hR => by
    obtain rfl : b = a + 1 := by omega
    refine ⟨μ, ?_, Fr.rf, fun a' x b' y j z => ?_⟩
    · rw [e_Mo_rests_20, bLt (by omega) (by omega), nI_p1]
    · rw [hR a' x b' y j z]
      by_cases w : a' < a ∨ (a' = a ∧ (b' < a + 1 ∨ (b' = a + 1 ∧ j < 0)))
      · rw [if_pos w, if_pos (by omega)]
      · rw [if_neg w]
        by_cases v : a' = a
        · subst v
          rw [if_pos (by omega), rt_2a a' x b' y j z (by omega)]
        · rw [if_neg (by omega)]
  | f + 1, b, μ, e, h1, hR => by
    obtain ⟨μ1, a1, a2, a3⟩ := s_re27 ha h1 (show b ≤ a by omega) 31 0 μ rfl hR
    obtain ⟨μ2, b1, b2, b3⟩ := s_re20 ha f (b + 1) μ1 (by omega) (by omega) a3
    refine ⟨μ2, ?_, a2.t2 b2, b3⟩
    rw [e_Mo_rests_20, bLf (by omega) (by omega), a1, b1]
theorem s_re2 : ∀ (f a : Nat) (μ : Mm), a + f = 6 → RT a 0 0 μ → ∃ μ', m_Mo_rests_2 (nI a) μ = some (none, μ') ∧ Fr f312 μ μ' ∧ RT 6 0 0 μ'
  | 0, a, μ, e, hR => by
    obtain rfl : a = 6 := by omega
    refine ⟨μ, ?_, Fr.rf, hR⟩
    rw [e_Mo_rests_2, bLt (by omega) (by omega)]
  | f + 1, a, μ, e, hR => by
    have ha : a < 6 := by omega
    have st : RT a 1 0 (sL μ 312 (186 * a) (lN 1)) := fun a' x b' y j z => by
      rw [sL_s]
      by_cases w : a' = a ∧ b' = 0 ∧ j = 0
      · obtain ⟨rfl, rfl, rfl⟩ := w
        rw [show (6 * a' + 0) * 31 + 0 = 186 * a' by omega, uL_s, if_pos (by omega)]
        exact ((rt_0a a' x 0 (by omega)).trans (if_pos rfl)).symm
      · rw [uL_o (by omega), hR a' x b' y j z]
        by_cases v : a' < a
        · rw [if_pos (Or.inl v), if_pos (Or.inl v)]
        · rw [if_neg (by omega)]
          by_cases u : a' = a ∧ b' = 0
          · obtain ⟨rfl, rfl⟩ := u
            rw [if_pos (by omega)]
            exact ((rt_0a a' x j z).trans (if_neg (by omega))).symm
          · rw [if_neg (by omega)]
    obtain ⟨μ1, a1, a2, a3⟩ := s_re20 ha a 1 _ (by omega) (by omega) st
    obtain ⟨μ2, b1, b2, b3⟩ := s_re2 f (a + 1) μ1 (by omega) a3
    refine ⟨μ2, ?_, ((Fr.sL (S := f312) rfl).t2 a2).t2 b2, b3⟩
    rw [e_Mo_rests_2, bLf (by omega) (by omega), nI_mul, gi (by omega) (by omega), kl (by omega), a1, b1]
theorem s_rests {μ : Mm} (h : ∀ j, j < 1116 → μ.2 312 j = lN 0) : ∃ μ', m_Mo_rests μ = some (none, μ') ∧ Fr f312 μ μ' ∧ RT 6 0 0 μ' := by
  obtain ⟨μ', k1, k2, k3⟩ := s_re2 6 0 μ rfl (fun a' x b' y j z => by rw [h _ (by omega), if_neg (by omega)])
  exact ⟨μ', by rw [e_Mo_rests, k1], k2, k3⟩
theorem RT.ct {μ : Mm} (h : RT 6 0 0 μ) (hc : ∀ i, i < 36 → ∀ j, j < 31 → cut 7 (μ.2 (3 + i)) j = rp (chL i) j) : CT μ := fun i hi => ⟨hc i hi, fun k hk => by
  have := h (i / 6) (by omega) (i % 6) (by omega) k hk
  rw [if_pos (by omega), show 6 * (i / 6) + i % 6 = i by omega, Nat.mul_comm] at this
  exact this⟩
end GRW
