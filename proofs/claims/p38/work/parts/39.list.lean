/-! the list of subgroups: how the class makes it -/
def nt : List Nat → Nat → Nat
  | [], _ => 0
  | a :: _, 0 => a
  | _ :: l, i + 1 => nt l i
def insL : Nat → Nat → List Nat → List Nat
  | 0, x, l => x :: l
  | _ + 1, x, [] => [x]
  | n + 1, x, a :: l => a :: insL n x l
theorem ins_len : ∀ (n x : Nat) (l : List Nat), (insL n x l).length = l.length + 1
  | 0, _, _ => rfl
  | _ + 1, _, [] => rfl
  | n + 1, x, a :: l => by
    show (insL n x l).length + 1 = l.length + 1 + 1
    rw [ins_len n x l]
theorem nt_ins : ∀ (n x : Nat) (l : List Nat) (i : Nat), n ≤ l.length → nt (insL n x l) i = if i < n then nt l i else if i = n then x else nt l (i - 1)
  | 0, x, l, 0, _ => by rw [if_neg (by omega), if_pos rfl]; rfl
  | 0, x, l, i + 1, _ => by rw [if_neg (by omega), if_neg (by omega)]; rfl
  | n + 1, x, [], i, h => absurd h (Nat.not_succ_le_zero n)
  | n + 1, x, a :: l, 0, h => by rw [if_pos (by omega)]; rfl
  | n + 1, x, a :: l, i + 1, h => by
    show nt (insL n x l) i = _
    rw [nt_ins n x l i (Nat.le_of_succ_le_succ h)]
    by_cases q : i < n
    · rw [if_pos q, if_pos (show i + 1 < n + 1 by omega)]; rfl
    · rw [if_neg q, if_neg (show ¬ i + 1 < n + 1 by omega)]
      by_cases q2 : i = n
      · rw [if_pos q2, if_pos (show i + 1 = n + 1 by omega)]
      · rw [if_neg q2, if_neg (show ¬ i + 1 = n + 1 by omega)]
        obtain ⟨m, rfl⟩ : ∃ m, i = m + 1 := ⟨i - 1, by omega⟩
        rfl
theorem nt_get : ∀ (l : List Nat) (i : Nat), nt l i = l.getD i 0
  | [], i => by cases i <;> rfl
  | a :: l, 0 => rfl
  | a :: l, i + 1 => by
    show nt l i = _
    rw [nt_get l i]
    rfl
theorem nt_range {n i : Nat} (h : i < n) : nt (List.range n) i = i := by
  rw [nt_get, List.getD_eq_getElem?_getD, List.getElem?_range h]
  rfl
/-- where a subgroup goes: by halves -/
def bsF (g x : Nat) (l : List Nat) : Nat → Nat → Nat → Nat
  | 0, lo, _ => lo
  | f + 1, lo, hi => if lo < hi then (if LG g (nt l ((lo + hi) / 2)) < LG g x then bsF g x l f ((lo + hi) / 2 + 1) hi else bsF g x l f lo ((lo + hi) / 2)) else lo
theorem bs_le (g x : Nat) (l : List Nat) : ∀ (f lo hi : Nat), lo ≤ hi → bsF g x l f lo hi ≤ hi
  | 0, lo, hi, h => h
  | f + 1, lo, hi, h => by
    unfold bsF
    split
    · split
      · exact bs_le g x l f _ _ (by omega)
      · exact Nat.le_trans (bs_le g x l f _ _ (by omega)) (by omega)
    · exact h
def thB (g x : Nat) (l : List Nat) (p : Nat) : Bool := decide (p < l.length) && decide (LG g (nt l p) = LG g x)
def inD (g x : Nat) (l : List Nat) (p : Nat) : List Nat := if thB g x l p = true then l else if l.length < 400 then insL p x l else l
def inC (g x fr : Nat) (l : List Nat) : List Nat := inD g x l (bsF g x l 32 fr l.length)
theorem inD_len (g x : Nat) (l : List Nat) (p : Nat) : l.length ≤ (inD g x l p).length := by
  unfold inD
  split
  · exact Nat.le_refl _
  · split
    · rw [ins_len]
      omega
    · exact Nat.le_refl _
def laF (g k fr : Nat) : Nat → Nat → Nat → List Nat → List Nat
  | 0, _, _, l => l
  | f + 1, a, left, l => if left.testBit a then (if (LG g k).testBit (pwG g 1 a) then laF g k fr f (a + 1) (left &&& (LG g (jnG g k a) ^^^ (2 ^ 64 - 1))) (inC g (jnG g k a) fr l) else laF g k fr f (a + 1) left l) else laF g k fr f (a + 1) left l
def lvF (g to : Nat) : Nat → Nat → List Nat → List Nat
  | 0, _, l => l
  | f + 1, i, l => lvF g to f (i + 1) (laF g (nt l i) to (nG g - 1) 1 (evN (nG g) &&& (LG g (nt l i) ^^^ (2 ^ 64 - 1))) l)
def leF (g : Nat) : Nat → Nat → List Nat → List Nat
  | 0, _, l => l
  | f + 1, fr, l => leF g f l.length (lvF g l.length (l.length - fr) fr l)
theorem ll_ok1 : ∀ g, g < 17 → leF g (sizN (tG g)) 0 [0] = List.range (lenG g) := by decide +kernel
theorem ll_ok2 : leF 17 (sizN (tG 17)) 0 [0] = List.range (lenG 17) := by decide +kernel
theorem ll_ok3 : leF 18 (sizN (tG 18)) 0 [0] = List.range (lenG 18) := by decide +kernel
theorem ll_ok4 : ∀ h, h < 13 → leF (h + 19) (sizN (tG (h + 19))) 0 [0] = List.range (lenG (h + 19)) := by decide +kernel
theorem ll_ok (g : Nat) (hg : g < 32) : leF g (sizN (tG g)) 0 [0] = List.range (lenG g) := by
  by_cases a : g < 17
  · exact ll_ok1 g a
  · by_cases b : g = 17
    · subst b
      exact ll_ok2
    · by_cases c : g = 18
      · subst c
        exact ll_ok3
      · obtain ⟨h, rfl⟩ : ∃ h, g = h + 19 := ⟨g - 19, by omega⟩
        exact ll_ok4 h (by omega)
theorem lN_nt (a b : Nat) : lN a &&& (lN b ^^^ (-1 : Int64)) = lN (a &&& (b ^^^ (2 ^ 64 - 1))) := by
  rw [show (-1 : Int64) = lN (2 ^ 64 - 1) by decide, lN_xor, lN_and]
/-- only the list's cells change -/
abbrev fLs (k : Nat) : Prop := k = 61 ∨ (66 ≤ k ∧ k < 69)
def Fl (μ μ' : Mm) : Prop := Fr fLs μ μ' ∧ ∀ j, j ≠ 9 → μ'.1 61 j = μ.1 61 j
theorem Fl.rf {μ : Mm} : Fl μ μ := ⟨Fr.rf, fun _ _ => rfl⟩
theorem Fl.tr {a b c : Mm} (h : Fl a b) (k : Fl b c) : Fl a c := ⟨h.1.t2 k.1, fun j hj => (k.2 j hj).trans (h.2 j hj)⟩
theorem Fl.L {μ : Mm} {j : Nat} {v : Int64} : Fl μ (sL μ 66 j v) := ⟨Fr.sL (Or.inr ⟨by omega, by omega⟩), fun _ _ => rfl⟩
theorem Fl.I {μ : Mm} {v : Int32} : Fl μ (sI μ 61 9 v) := ⟨Fr.sI (Or.inl rfl), fun j hj => by rw [sI_s, up_o hj]⟩
theorem Fl.T {μ : Mm} {k j : Nat} {v : Int32} (hk : k = 67 ∨ k = 68) : Fl μ (sI μ k j v) := ⟨Fr.sI (Or.inr ⟨by omega, by omega⟩), fun j hj => by rw [sI_o (by omega)]⟩
section CLS
variable {g : Nat} {μ : Mm}
theorem GC.fl {μ' : Mm} (h : GC g μ) (F : Fl μ μ') : GC g μ' := by
  unfold GC
  rw [F.2 0 (by omega), F.2 1 (by omega), F.2 2 (by omega), F.2 3 (by omega), (F.1 62 (by omega)).1, (F.1 63 (by omega)).1, (F.1 64 (by omega)).1, (F.1 65 (by omega)).1]
  exact h
def LR (g : Nat) (l : List Nat) (μ : Mm) : Prop := l.length ≤ 400 ∧ μ.1 61 9 = nI l.length ∧ ∀ i, i < l.length → nt l i < lenG g ∧ μ.2 66 i = lN (LG g (nt l i))
theorem s_subAt {l : List Nat} (h : LR g l μ) {i : Nat} (hi : i < l.length) : m_Gr_subgroupAt (nI i) μ = some (some (.long (lN (LG g (nt l i)))), μ) := by
  have h1 := h.1
  rw [e_Gr_subgroupAt, bf (nI_lt0 (by omega)), h.2.1, bLt hi (by omega), bLt (by omega) (by omega), gi (by omega) (by omega), kl (by omega), (h.2.2 i hi).2]
theorem s_tail (hg : g < 32) {l : List Nat} (h : LR g l μ) {x p : Nat} (hx : x < lenG g) (hp : p ≤ l.length) : (bif decide (nI p < μ.1 61 9) then (cJ (m_Gr_subgroupAt (nI p) μ) fun v4 μ3 => bif decide (lg_cmp v4 (lN (LG g x)) = nI 0) then (m_Gr_insert_90 (lN (LG g x)) (nI p) (nI 1) μ3) else (m_Gr_insert_90 (lN (LG g x)) (nI p) (nI 0) μ3)) else (m_Gr_insert_90 (lN (LG g x)) (nI p) (nI 0) μ)) = m_Gr_insert_90 (lN (LG g x)) (nI p) (nI (b2i (thB g x l p))) μ := by
  have h1 := h.1
  have hlx := lg_lt hg hx
  unfold thB
  rw [h.2.1]
  by_cases q : p < l.length
  · have hl2 := lg_lt hg (h.2.2 p q).1
    rw [bLt q (by omega), s_subAt h q, cJ_s, lgc_eq, lN_eqb (by omega) (by omega), decide_eq_true q, Bool.true_and]
    cases decide (LG g (nt l p) = LG g x) <;> rfl
  · rw [bLf (by omega) (by omega), decide_eq_false q, Bool.false_and]
    rfl
theorem s_ins_12 (hg : g < 32) {l : List Nat} (h : LR g l μ) {x : Nat} (hx : x < lenG g) : ∀ (f i lo hi : Nat), i + f = 32 → lo ≤ hi → hi ≤ l.length → m_Gr_insert_12 (lN (LG g x)) (nI lo) (nI hi) (nI i) μ = m_Gr_insert_90 (lN (LG g x)) (nI (bsF g x l f lo hi)) (nI (b2i (thB g x l (bsF g x l f lo hi)))) μ
  | 0, i, lo, hi, e, h1, h2 => by
    obtain rfl : i = 32 := by omega
    rw [e_Gr_insert_12, bLf (by omega) (by omega), s_tail hg h hx (by omega)]
    rfl
  | f + 1, i, lo, hi, e, h1, h2 => by
    have h3 := h.1
    have hlx := lg_lt hg hx
    unfold bsF
    rw [e_Gr_insert_12, bLt (by omega) (by omega)]
    by_cases q : lo < hi
    · have hm : (lo + hi) / 2 < l.length := by omega
      have hl2 := lg_lt hg (h.2.2 _ hm).1
      rw [bLt q (by omega), gd_h ne2, nI_add, nI_div (by omega) (by omega), s_subAt h hm, cJ_s, lgc_lt, lN_ltb (by omega) (by omega), if_pos q, nI_p1, nI_p1]
      by_cases q2 : LG g (nt l ((lo + hi) / 2)) < LG g x
      · rw [bt (decide_eq_true q2), if_pos q2]
        exact s_ins_12 hg h hx f (i + 1) _ _ (by omega) (by omega) h2
      · rw [bf (decide_eq_false q2), if_neg q2]
        exact s_ins_12 hg h hx f (i + 1) _ _ (by omega) (by omega) (by omega)
    · rw [bLf (by omega) (by omega), if_neg q, s_tail hg h hx (by omega)]
theorem s_ins_121 (x : Int64) {lo : Nat} : ∀ (d i : Nat) (μ : Mm), i = lo + d → i < 400 → ∃ μ', m_Gr_insert_121 x (nI lo) (nI i) μ = some (none, μ') ∧ Fl μ μ' ∧ (∀ j, j < lo → μ'.2 66 j = μ.2 66 j) ∧ μ'.2 66 lo = x ∧ (∀ j, lo < j → j ≤ i → μ'.2 66 j = μ.2 66 (j - 1)) ∧ (∀ j, i < j → μ'.2 66 j = μ.2 66 j) ∧ μ'.1 61 9 = μ.1 61 9 + nI 1
  | 0, i, μ, e, hi => by
    obtain rfl : i = lo := by omega
    refine ⟨sI (sL μ 66 i x) 61 9 (μ.1 61 9 + nI 1), ?_, Fl.L.tr Fl.I, fun j hj => ?_, ?_, fun j a b => absurd a (by omega), fun j hj => ?_, ?_⟩
    · rw [e_Gr_insert_121, bLf (by omega) (by omega), gi hi (by omega), kl (by omega)]
      rfl
    · show (sL μ 66 i x).2 66 j = _
      rw [sL_s, uL_o (by omega)]
    · show (sL μ 66 i x).2 66 i = _
      rw [sL_s, uL_s]
    · show (sL μ 66 i x).2 66 j = _
      rw [sL_s, uL_o (by omega)]
    · rw [sI_s, up_s]
  | d + 1, i, μ, e, hi => by
    obtain ⟨m, rfl⟩ : ∃ m, i = m + 1 := ⟨lo + d, by omega⟩
    obtain ⟨μ', k1, k2, k3, k4, k5, k6, k7⟩ := s_ins_121 (lo := lo) x d m (sL μ 66 (m + 1) (μ.2 66 m)) (by omega) (by omega)
    refine ⟨μ', ?_, Fl.L.tr k2, fun j hj => ?_, k4, fun j a b => ?_, fun j hj => ?_, k7⟩
    · rw [e_Gr_insert_121, bLt (by omega) (by omega), nI_sub (by omega), Nat.add_sub_cancel, gi (by omega) (by omega), gi hi (by omega), kl (by omega), kl (by omega), nI_m1, k1]
    · rw [k3 j hj, sL_s, uL_o (by omega)]
    · by_cases q : j = m + 1
      · rw [k6 j (by omega), sL_s, q, uL_s]
        rfl
      · rw [k5 j a (by omega), sL_s, uL_o (by omega)]
    · rw [k6 j (by omega), sL_s, uL_o (by omega)]
theorem s_ins_90 {l : List Nat} (h : LR g l μ) {x p : Nat} (hx : x < lenG g) (hp : p ≤ l.length) : ∃ μ', m_Gr_insert_90 (lN (LG g x)) (nI p) (nI (b2i (thB g x l p))) μ = some (none, μ') ∧ Fl μ μ' ∧ LR g (inD g x l p) μ' := by
  have h1 := h.1
  unfold inD
  rw [e_Gr_insert_90, b2i_n]
  by_cases q : thB g x l p = true
  · rw [q, if_pos rfl]
    exact ⟨μ, rfl, Fl.rf, h⟩
  · rw [if_neg q]
    rw [Bool.not_eq_true] at q
    rw [q, Bool.not_false, cond_true, bf (nI_lt0 (by omega)), h.2.1]
    by_cases q2 : l.length < 400
    · obtain ⟨μ', k1, k2, k3, k4, k5, k6, k7⟩ := s_ins_121 (lo := p) (lN (LG g x)) (l.length - p) l.length μ (by omega) q2
      refine ⟨μ', ?_, k2, ?_⟩
      · rw [bLt q2 (by omega), k1]
      · rw [if_pos q2]
        refine ⟨by rw [ins_len]; omega, by rw [ins_len, k7, h.2.1, nI_p1], fun i hi => ?_⟩
        rw [ins_len] at hi
        rw [nt_ins _ _ _ _ hp]
        by_cases c1 : i < p
        · rw [if_pos c1, k3 i c1]
          exact h.2.2 i (by omega)
        · rw [if_neg c1]
          by_cases c2 : i = p
          · rw [if_pos c2, c2, k4]
            exact ⟨hx, rfl⟩
          · rw [if_neg c2, k5 i (by omega) (by omega)]
            exact h.2.2 (i - 1) (by omega)
    · refine ⟨μ, ?_, Fl.rf, ?_⟩
      · rw [bLf (by omega) (by omega)]
      · rw [if_neg q2]
        exact h
theorem s_insert (hg : g < 32) {l : List Nat} (h : LR g l μ) {x fr : Nat} (hx : x < lenG g) (hf : fr ≤ l.length) : ∃ μ', m_Gr_insert (lN (LG g x)) (nI fr) μ = some (none, μ') ∧ Fl μ μ' ∧ LR g (inC g x fr l) μ' ∧ l.length ≤ (inC g x fr l).length := by
  obtain ⟨μ', k1, k2, k3⟩ := s_ins_90 h hx (bs_le g x l 32 fr l.length hf)
  refine ⟨μ', ?_, k2, k3, inD_len _ _ _ _⟩
  rw [e_Gr_insert, h.2.1, s_ins_12 hg h hx 32 0 fr l.length rfl hf (Nat.le_refl _), k1]
theorem s_la_15 (hg : g < 32) {k fr : Nat} (hk : k < lenG g) : ∀ (f a left : Nat) (l : List Nat) (μ : Mm), a + f = nG g → left < 2 ^ 32 → (∀ b, left.testBit b = true → (LG g k).testBit b = false) → fr ≤ l.length → GC g μ → LR g l μ → ∃ μ', m_Gr_listAbove_15 (lN (LG g k)) (nI fr) (lN left) (nI a) μ = some (none, μ') ∧ Fl μ μ' ∧ LR g (laF g k fr f a left l) μ' ∧ l.length ≤ (laF g k fr f a left l).length
  | 0, a, left, l, μ, e, hl, hb, hf, hC, hR => by
    have n2 := (g_1 g hg).2.2.1
    obtain rfl : a = nG g := by omega
    refine ⟨μ, ?_, Fl.rf, hR, Nat.le_refl _⟩
    rw [e_Gr_listAbove_15, hC.1.2.2.1, bLf (by omega) (by omega)]
  | f + 1, a, left, l, μ, e, hl, hb, hf, hC, hR => by
    have n2 := (g_1 g hg).2.2.1
    have hlk := lg_lt hg hk
    have hv := (pw_ok g hg 1 (by omega) a (by omega)).2
    unfold laF
    rw [e_Gr_listAbove_15, hC.1.2.2.1, bLt (by omega) (by omega), bLt (by omega) (by omega), s_Gr_hasBit (by omega) (by omega), cI_s, b2i_n, nI_p1]
    by_cases q : left.testBit a = true
    · rw [q, if_pos rfl, Bool.not_true, cond_false, gi (by omega) (by omega), kl (by omega), hC.2.2.2 a (by omega), pw_1 hg (by omega), s_Gr_hasBit (by omega) (by omega), cI_s, b2i_n]
      by_cases q2 : (LG g k).testBit (pwG g 1 a) = true
      · obtain ⟨j1, j2⟩ := s_joined hg hC hk (show a < nG g by omega) (hb a q)
        obtain ⟨μ1, k1, k2, k3, k4⟩ := s_insert hg hR j2 hf
        obtain ⟨μ2, l1, l2, l3, l4⟩ := s_la_15 (fr := fr) hg hk f (a + 1) (left &&& (LG g (jnG g k a) ^^^ (2 ^ 64 - 1))) (inC g (jnG g k a) fr l) μ1 (by omega) (Nat.lt_of_le_of_lt Nat.and_le_left hl) (fun b q3 => hb b (by
          rw [Nat.testBit_and] at q3
          exact (Bool.and_eq_true_iff.mp q3).1)) (by omega) (hC.fl k2) k3
        refine ⟨μ2, ?_, k2.tr l2, ?_, ?_⟩
        · rw [q2, Bool.not_true, cond_false, j1, cJ_s, k1, cV_s, lN_nt, l1]
        · rw [q2, if_pos rfl]
          exact l3
        · rw [q2, if_pos rfl]
          omega
      · rw [Bool.not_eq_true] at q2
        obtain ⟨μ2, l1, l2, l3, l4⟩ := s_la_15 (fr := fr) hg hk f (a + 1) left l μ (by omega) hl hb hf hC hR
        refine ⟨μ2, ?_, l2, ?_, ?_⟩
        · rw [q2, Bool.not_false, cond_true, l1]
        · rw [q2, if_neg (by decide)]
          exact l3
        · rw [q2, if_neg (by decide)]
          exact l4
    · rw [Bool.not_eq_true] at q
      obtain ⟨μ2, l1, l2, l3, l4⟩ := s_la_15 (fr := fr) hg hk f (a + 1) left l μ (by omega) hl hb hf hC hR
      refine ⟨μ2, ?_, l2, ?_, ?_⟩
      · rw [q, Bool.not_false, cond_true, l1]
      · rw [q, if_neg (by decide)]
        exact l3
      · rw [q, if_neg (by decide)]
        exact l4
theorem left_bit {N S b : Nat} (hS : S < 2 ^ 32) (h : (evN N &&& (S ^^^ (2 ^ 64 - 1))).testBit b = true) : S.testBit b = false := by
  rw [Nat.testBit_and, Nat.testBit_xor, Nat.testBit_two_pow_sub_one] at h
  have h2 := (Bool.and_eq_true_iff.mp h).2
  by_cases q : b < 64
  · rw [decide_eq_true q] at h2
    cases hb : S.testBit b
    · rfl
    · rw [hb] at h2
      cases h2
  · exact Nat.testBit_lt_two_pow (Nat.lt_of_lt_of_le hS (Nat.pow_le_pow_right (by omega) (by omega)))
theorem s_lv_38 (hg : g < 32) {to : Nat} (lv le : Nat) : ∀ (f i : Nat) (l : List Nat) (μ : Mm), i + f = to → to ≤ l.length → GC g μ → LR g l μ → ∃ μ', m_Gr_learnList_38 (nI lv) (nI le) (nI to) (nI i) μ = m_Gr_learnList_24 (nI to) (nI lv) (nI (le + 1)) μ' ∧ Fl μ μ' ∧ LR g (lvF g to f i l) μ' ∧ l.length ≤ (lvF g to f i l).length
  | 0, i, l, μ, e, ht, hC, hR => by
    have h1 := hR.1
    obtain rfl : i = to := by omega
    refine ⟨μ, ?_, Fl.rf, hR, Nat.le_refl _⟩
    rw [e_Gr_learnList_38, bLf (by omega) (by omega), nI_p1]
  | f + 1, i, l, μ, e, ht, hC, hR => by
    obtain ⟨-, n1, n2, -, -⟩ := g_1 g hg
    have h1 := hR.1
    obtain ⟨r1, r2⟩ := hR.2.2 i (by omega)
    have hlk := lg_lt hg r1
    have he := ev_lt n2
    have hev : evN (nG g) < 2 ^ 32 := by
      have := pw_N hg
      have := Nat.one_le_two_pow (n := nG g)
      unfold evN
      omega
    obtain ⟨μ1, k1, k2, k3, k4⟩ := s_la_15 hg r1 (fr := to) (nG g - 1) 1 (evN (nG g) &&& (LG g (nt l i) ^^^ (2 ^ 64 - 1))) l μ (by omega) (Nat.lt_of_le_of_lt Nat.and_le_left hev) (fun b q => left_bit hlk q) ht hC hR
    obtain ⟨μ2, l1, l2, l3, l4⟩ := s_lv_38 (to := to) hg lv le f (i + 1) _ μ1 (by omega) (by omega) (hC.fl k2) k3
    refine ⟨μ2, ?_, k2.tr l2, l3, Nat.le_trans k4 l4⟩
    rw [e_Gr_learnList_38, bLt (by omega) (by omega), bLt (by omega) (by omega), gi (by omega) (by omega), kl (by omega), r2, e_Gr_listAbove, s_everything hg hC, cJ_s, lN_nt, k1, cV_s, nI_p1, l1]
theorem s_le_24 (hg : g < 32) {lv : Nat} (hlv : lv < 10) : ∀ (f le fr : Nat) (l : List Nat) (μ : Mm), le + f = lv → fr ≤ l.length → GC g μ → LR g l μ → ∃ μ', m_Gr_learnList_24 (nI fr) (nI lv) (nI le) μ = some (none, μ') ∧ Fl μ μ' ∧ LR g (leF g f fr l) μ'
  | 0, le, fr, l, μ, e, hf, hC, hR => by
    obtain rfl : le = lv := by omega
    refine ⟨μ, ?_, Fl.rf, hR⟩
    rw [e_Gr_learnList_24, bLf (by omega) (by omega)]
  | f + 1, le, fr, l, μ, e, hf, hC, hR => by
    obtain ⟨μ1, k1, k2, k3, k4⟩ := s_lv_38 hg (to := l.length) lv le (l.length - fr) fr l μ (by omega) (Nat.le_refl _) hC hR
    obtain ⟨μ2, l1, l2, l3⟩ := s_le_24 hg hlv f (le + 1) l.length _ μ1 (by omega) k4 (hC.fl k2) k3
    refine ⟨μ2, ?_, k2.tr l2, l3⟩
    rw [e_Gr_learnList_24, bLt (by omega) (by omega), hR.2.1, k1, l1]
theorem s_learnList (hg : g < 32) (hC : GC g μ) : ∃ μ', m_Gr_learnList μ = some (none, μ') ∧ Fl μ μ' ∧ μ'.1 61 9 = nI (lenG g) ∧ ∀ i, i < lenG g → μ'.2 66 i = lN (LG g i) := by
  obtain ⟨⟨ht, -⟩, -⟩ := g_1 g hg
  have sz := sz_lt ht
  have l1 := (len_ok g hg).1
  have F0 : Fl μ (sI (sL μ 66 0 (lN 1)) 61 9 (nI 1)) := Fl.L.tr Fl.I
  have R0 : LR g [0] (sI (sL μ 66 0 (lN 1)) 61 9 (nI 1)) := by
    refine ⟨by decide, by rw [sI_s, up_s]; rfl, fun i hi => ?_⟩
    obtain rfl : i = 0 := Nat.lt_one_iff.mp hi
    refine ⟨l1, ?_⟩
    show (sL μ 66 0 (lN 1)).2 66 0 = lN (LG g 0)
    rw [sL_s, uL_s, (l_ok g hg).1]
  obtain ⟨μ', k1, k2, k3⟩ := s_le_24 hg (lv := sizN (tG g)) (by omega) (sizN (tG g)) 0 0 [0] _ (by omega) (by decide) (hC.fl F0) R0
  rw [ll_ok g hg] at k3
  refine ⟨μ', ?_, F0.tr k2, ?_, fun i hi => ?_⟩
  · rw [e_Gr_learnList, gi (by omega) (by omega), kl (by omega), F0.2 0 (by omega), hC.1.1, s_Ty_size ht, cI_s, k1]
  · rw [k3.2.1, List.length_range]
  · rw [(k3.2.2 i (by rw [List.length_range]; exact hi)).2, nt_range hi]
theorem s_lt_2 (hg : g < 32) : ∀ (f i : Nat) (μ : Mm), i + f = lenG g → GC g μ → μ.1 61 9 = nI (lenG g) → (∀ j, j < lenG g → μ.2 66 j = lN (LG g j)) → (∀ j, j < i → μ.1 67 j = nI (tyG g j) ∧ μ.1 68 j = nI (coG g j)) → ∃ μ', m_Gr_learnTypes_2 (nI i) μ = some (none, μ') ∧ Fl μ μ' ∧ LCd g μ' ∧ μ'.1 61 = μ.1 61
  | 0, i, μ, e, hC, hn, hl, ht => by
    have l2 := (len_ok g hg).2
    obtain rfl : i = lenG g := by omega
    refine ⟨μ, ?_, Fl.rf, ⟨hn, fun j hj => ⟨hl j hj, ht j hj⟩⟩, rfl⟩
    rw [e_Gr_learnTypes_2, hn, bLf (by omega) (by omega)]
  | f + 1, i, μ, e, hC, hn, hl, ht => by
    have l2 := (len_ok g hg).2
    have F1 : Fl μ (sI μ 67 i (nI (tyG g i))) := Fl.T (Or.inl rfl)
    have F2 : Fl μ (sI (sI μ 67 i (nI (tyG g i))) 68 i (nI (coG g i))) := F1.tr (Fl.T (Or.inr rfl))
    have c1 : (sI (sI μ 67 i (nI (tyG g i))) 68 i (nI (coG g i))).1 61 = μ.1 61 := by rw [sI_o (by omega), sI_o (by omega)]
    obtain ⟨μ', k1, k2, k3, k4⟩ := s_lt_2 hg f (i + 1) (sI (sI μ 67 i (nI (tyG g i))) 68 i (nI (coG g i))) (by omega) (hC.fl F2) (by rw [c1]; exact hn) (fun j hj => hl j hj) (fun j hj => by
      rw [sI_o (show (67 : Nat) ≠ 68 by omega), sI_s, sI_s, sI_o (show (68 : Nat) ≠ 67 by omega)]
      by_cases q : j = i
      · rw [q, up_s, up_s]
        exact ⟨rfl, rfl⟩
      · rw [up_o q, up_o q]
        exact ht j (by omega))
    refine ⟨μ', ?_, F2.tr k2, k3, k4.trans c1⟩
    have hl2 : (sI μ 67 i (nI (tyG g i))).2 66 i = lN (LG g i) := hl i (by omega)
    rw [e_Gr_learnTypes_2, hn, bLt (by omega) (by omega), bLt (by omega) (by omega), gi (by omega) (by omega), kl (by omega), hl i (by omega), s_typeOf hg hC (by omega), cI_s, gi (by omega) (by omega), s_everything hg (hC.fl F1), cJ_s, gi (by omega) (by omega), hl2, s_cotypeOf hg (hC.fl F1) (by omega), cI_s, gi (by omega) (by omega), nI_p1, k1]
theorem s_learn (hg : g < 32) (hC : GC g μ) (hL : LC g μ) : ∃ μ', m_Gr_learn μ = some (none, μ') ∧ Fr fLs μ μ' ∧ GC g μ' ∧ μ'.1 61 8 = nI 1 ∧ LCd g μ' := by
  rcases hL with h | ⟨h, h2⟩
  · have F0 : Fr fLs μ (sI μ 61 8 (nI 1)) := Fr.sI (Or.inl rfl)
    have C0 : GC g (sI μ 61 8 (nI 1)) := by
      unfold GC
      rw [sI_s, up_o (by omega), up_o (by omega), up_o (by omega), up_o (by omega), sI_o (by omega), sI_o (by omega), sI_o (by omega), sI_o (by omega)]
      exact hC
    obtain ⟨μ1, k1, k2, k3, k4⟩ := s_learnList hg C0
    obtain ⟨μ2, l1, l2, l3, l4⟩ := s_lt_2 hg (lenG g) 0 μ1 (by omega) (C0.fl k2) k3 k4 (fun j hj => absurd hj (Nat.not_lt_zero j))
    refine ⟨μ2, ?_, (F0.t2 k2.1).t2 l2.1, (C0.fl k2).fl l2, ?_, l3⟩
    · rw [e_Gr_learn, h, bEt rfl, gd_h isb_1, k1, cV_s, e_Gr_learnTypes, l1, cV_s]
    · rw [l4, k2.2 8 (by omega), sI_s, up_s]
  · refine ⟨μ, ?_, Fr.rf, hC, h, h2⟩
    rw [e_Gr_learn, h, bf (by decide)]
end CLS
