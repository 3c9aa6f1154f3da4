/-! the class's answers: what each call of the law comes to while the group g is in hand -/
theorem d_m1 {a : Nat} (ha : a < 2 ^ 31) : decide (nI a < (-1 : Int32)) = false := by
  apply decide_eq_false
  rw [Int32.lt_iff_toInt_lt, nI_toInt ha]
  have : (-1 : Int32).toInt = -1 := by decide
  omega
theorem lN_shr {a e : Nat} (ha : a < 2 ^ 63) (he : e < 64) : lN a >>> lN e = lN (a >>> e) := by
  apply Int64.toBitVec_inj.mp
  rw [Int64.toBitVec_shiftRight, lN_bv, lN_bv, lN_bv]
  apply BitVec.eq_of_toNat_eq
  have h1 : (BitVec.ofNat 64 e).smod 64 = BitVec.ofNat 64 e := by
    revert e
    decide +kernel
  have h2 : (BitVec.ofNat 64 a).msb = false := by
    rw [BitVec.msb_eq_decide, BitVec.toNat_ofNat, Nat.mod_eq_of_lt (by omega)]
    exact decide_eq_false (by omega)
  have h3 : a >>> e ≤ a := by
    rw [Nat.shiftRight_eq_div_pow]
    exact Nat.div_le_self _ _
  rw [h1, BitVec.sshiftRight_eq', BitVec.sshiftRight_eq_of_msb_false h2, BitVec.toNat_ushiftRight, BitVec.toNat_ofNat, BitVec.toNat_ofNat, BitVec.toNat_ofNat, Nat.mod_eq_of_lt (show a < 2 ^ 64 by omega), Nat.mod_eq_of_lt (show e < 2 ^ 64 by omega), Nat.mod_eq_of_lt (show a >>> e < 2 ^ 64 by omega)]
theorem tb_half (S : Nat) (e : Nat) : S.testBit e = decide (S / 2 ^ e % 2 = 1) := Nat.testBit_eq_decide_div_mod_eq
def J (g : Nat) (μ : Mm) : Prop := g < 32 ∧ CT μ ∧ GC g μ ∧ LC g μ
/-- a call answers r, and the group in hand is g behind it -/
def An (g : Nat) (μ : Mm) (f : Mm → Option Rs) (r : Value) : Prop := ∃ μ', f μ = some (some r, μ') ∧ J g μ'
def IsP (x : Int32) : Prop := x = (-1 : Int32) ∨ ∃ k, k < 31 ∧ x = nI k
section ANS
variable {g : Nat} {μ : Mm}
theorem J.fr {S : Nat → Prop} {μ' : Mm} (h : J g μ) (F : Fr S μ μ') (h1 : ∀ k, 3 ≤ k → k < 39 → ¬ S k) (h2 : ¬ S 312) (h3 : ∀ k, 61 ≤ k → k < 69 → ¬ S k) : J g μ' := ⟨h.1, h.2.1.fr F h1 h2, h.2.2.1.fr F (fun k a b => h3 k a (by omega)), h.2.2.2.fr F (h3 61 (by omega) (by omega)) (fun k a b => h3 k (by omega) b)⟩
theorem An.same {f : Mm → Option Rs} {r : Value} (h : J g μ) (e : f μ = some (some r, μ)) : An g μ f r := ⟨μ, e, h⟩
theorem a_type {t : Nat} (ht : t < 19) (h : J g μ) : An g μ (m_TI_type (nI t)) (.int (nI (numN t))) := .same h (by
  rw [e_TI_type, bf (t_ge ht), bt (t_lt ht), s_Ty_number ht, cI_s])
theorem a_type19 (h : J g μ) : An g μ (m_TI_type (nI 19)) (.int (-1 : Int32)) := .same h (by
  rw [e_TI_type, bf (by decide), bf (by decide)])
theorem a_count0 (h : J g μ) : An g μ (m_TI_count (nI 0)) (.int (nI (numN (tG g)))) := .same h (by
  rw [e_TI_count, bt (by decide), e_Gr_typeHeld, cI_s, h.2.2.1.1.1, s_Ty_number (g_1 g h.1).1.1, cI_s])
theorem a_count1 (h : J g μ) : An g μ (m_TI_count (nI 1)) (.int (nI (pG g))) := .same h (by
  rw [e_TI_count, bf (by decide), bt (by decide), e_Gr_primeHeld, cI_s, h.2.2.1.1.2.1])
theorem a_count2 (h : J g μ) : An g μ (m_TI_count (nI 2)) (.int (nI (nG g))) := .same h (by
  rw [e_TI_count, bf (by decide), bf (by decide), bt (by decide), e_Gr_elements, cI_s, h.2.2.1.1.2.2.1])
theorem a_of1 {t : Nat} (ht : t < 19) (h : J g μ) : An g μ (m_TI_of (nI (numN t)) (nI 1)) (.int (nI (sizN t))) := .same h (by
  rw [e_TI_of, s_find_n ht, cI_s, bf (t_ge ht), bf (by decide), bt (by decide), s_Ty_size ht, cI_s])
theorem a_in {m l : Nat} (hm : m < 19) (hl : l < 19) (h : J g μ) : An g μ (m_TI_in (nI (numN m)) (nI (numN l))) (.int (nI (b2i (liesN m l)))) := .same h (by
  rw [e_TI_in, s_find_n hm, cI_s, s_find_n hl, cI_s, bf (t_ge hm), bf (t_ge hl), s_Ty_lies hm hl, cI_s, b2i_0]
  cases liesN m l <;> rfl)
theorem a_part {x : Int32} (hx : IsP x) (μ : Mm) : m_Po_isPart x μ = some (some (.int (nI 1)), μ) := by
  rw [s_isPart]
  rcases hx with rfl | ⟨k, hk, rfl⟩
  · rw [show (!decide ((-1 : Int32) < (-1 : Int32)) && decide ((-1 : Int32) < nI 31)) = true by decide]; rfl
  · rw [d_m1 (by omega), d_lt (by omega) (by omega), decide_eq_true hk]; rfl
theorem a_sub {l m : Nat} (hl : l < 19) (hm : m < 19) {x : Int32} (hx : IsP x) (h : J g μ) : An g μ (m_TI_subgroups (nI (numN l)) (nI (numN m)) x) (.long (prt (rp (subC l m)) x)) := by
  obtain ⟨μ1, g1, g2, g3⟩ := s_writeSubgroups k274 n274 (by omega) hl hm h.2.1
  refine ⟨μ1, ?_, h.fr g2 (fun k a b => by omega) (by omega) (fun k a b => by omega)⟩
  rw [e_TI_subgroups, s_find_n hl, cI_s, s_find_n hm, cI_s, bf (t_ge hl), bf (t_ge hm), a_part hx, cI_s, bf (by decide), g1, cV_s, s_part31 k274 n274 g3 hx, cJ_s]
theorem a_hall {l m n : Nat} (hl : l < 19) (hm : m < 19) (hn : n < 19) {x : Int32} (hx : IsP x) (h : J g μ) : An g μ (m_TI_hall (nI (numN l)) (nI (numN m)) (nI (numN n)) x) (.long (prt (rp (hL m n l)) x)) := by
  obtain ⟨μ1, g1, g2, g3⟩ := s_writeHall k274 n274 (by omega) hl hm hn h.2.1
  refine ⟨μ1, ?_, h.fr g2 (fun k a b => by omega) (by omega) (fun k a b => by omega)⟩
  rw [e_TI_hall, s_find_n hl, cI_s, s_find_n hm, cI_s, s_find_n hn, cI_s, bf (t_ge hl), bf (t_ge hm), bf (t_ge hn), a_part hx, cI_s, bf (by decide), g1, cV_s, s_part31 k274 n274 g3 hx, cJ_s]
theorem a_prime {p : Nat} (hp : p = 2 ∨ p = 3 ∨ p = 5 ∨ p = 7) (μ : Mm) : m_TI_isPrime (nI p) μ = some (some (.int (nI 1)), μ) := by
  rw [e_TI_isPrime]
  rcases hp with rfl | rfl | rfl | rfl <;> rfl
theorem a_value {t p : Nat} (ht : t < 19) (hp : p = 2 ∨ p = 3 ∨ p = 5 ∨ p = 7) (h : J g μ) : An g μ (m_TI_value (nI (numN t)) (nI 0) (nI p)) (.long (val (rp (sumF t 19 0 [])) (nI p).toInt64 31 (lN 0))) := by
  obtain ⟨μ1, g1, g2, g3⟩ := s_allSub ht h.2.1
  refine ⟨μ1, ?_, h.fr g2 (fun k a b => by omega) (by omega) (fun k a b => by omega)⟩
  rw [e_TI_value, s_find_n ht, cI_s, bf (t_ge ht), e_Co_isWhole, bf (by decide), bf (by decide), gd_h isb_1, cI_s, bf (by decide), a_prime hp, cI_s, bf (by decide), e_Co_writeWhole, bt (by decide), g1, cV_s, cV_s, s_value31 k274 n274 g3, cJ_s]
theorem a_group {k : Nat} (hg : g < 32) (h : J k μ) : An g μ (m_TI_group (nI (numN (tG g))) (nI (pG g))) (.int (nI (nG g))) := by
  obtain ⟨⟨g1, g2, g3⟩, -, g4, -, -⟩ := g_1 g hg
  have hpw : pG g ^ sizN (tG g) ≤ 32 := by rw [← g3]; exact g4
  obtain ⟨μ1, k1, k2, k3, k4⟩ := s_become hg h.1 h.2.2.1
  refine ⟨μ1, ?_, hg, h.2.1.fr k2 (fun k a b => by omega) (by omega), k3, ?_⟩
  · rw [e_TI_group, s_find_n g1, cI_s, bf (t_ge g1), a_prime g2, cI_s, bf (by decide), s_elementsOf g1, cI_s, bLf hpw (by omega), k1, cV_s, e_Gr_elements, cI_s, k3.1.2.2.1]
  · rcases k4 with k4 | ⟨rfl, rfl⟩
    · exact Or.inl k4
    · exact h.2.2.2
theorem a_learn (h : J g μ) : ∃ μ', m_Gr_learn μ = some (none, μ') ∧ J g μ' ∧ LCd g μ' := by
  obtain ⟨μ1, k1, k2, k3, k4, k5⟩ := s_learn h.1 h.2.2.1 h.2.2.2
  exact ⟨μ1, k1, ⟨h.1, h.2.1.fr k2 (fun k a b => by omega) (by omega), k3, Or.inr ⟨k4, k5⟩⟩, k5⟩
theorem a_listn (h : J g μ) : An g μ (m_TI_list (-1 : Int32)) (.long (lN (lenG g))) := by
  obtain ⟨l1, l2⟩ := len_ok g h.1
  obtain ⟨μ1, k1, k2, k3⟩ := a_learn h
  refine ⟨μ1, ?_, k2⟩
  rw [e_TI_list, k1, cV_s, e_Gr_subgroupCount, cI_s, bt neg1, k3.1, nI_l (by omega)]
theorem a_list {i : Nat} (hi : i < lenG g) (h : J g μ) : An g μ (m_TI_list (nI i)) (.long (lN (LG g i))) := by
  obtain ⟨l1, l2⟩ := len_ok g h.1
  obtain ⟨μ1, k1, k2, k3⟩ := a_learn h
  have hn : i < 2 ^ 31 := by omega
  refine ⟨μ1, ?_, k2⟩
  rw [e_TI_list, k1, cV_s, e_Gr_subgroupCount, cI_s, bf (d_e1 hn), bf (nI_lt0 hn), k3.1, bLt hi (by omega), e_Gr_subgroupAt, bf (nI_lt0 hn), k3.1, bLt hi (by omega), bLt (by omega) (by omega), gi (by omega) (by omega), kl hn, (k3.2 i hi).1, cJ_s]
theorem a_liste (h : J g μ) : An g μ (m_TI_list (nI (lenG g))) (.long (-9223372036854775808 : Int64)) := by
  obtain ⟨l1, l2⟩ := len_ok g h.1
  obtain ⟨μ1, k1, k2, k3⟩ := a_learn h
  have hn : lenG g < 2 ^ 31 := by omega
  refine ⟨μ1, ?_, k2⟩
  rw [e_TI_list, k1, cV_s, e_Gr_subgroupCount, cI_s, bf (d_e1 hn), bf (nI_lt0 hn), k3.1, bLf (Nat.le_refl _) hn]
theorem a_listed1 {t : Nat} (ht : t < 19) (h : J g μ) : An g μ (m_TI_listed (nI (numN t)) (-1 : Int32)) (.int (nI (cnF g t none (lenG g) 0 0))) := by
  obtain ⟨l1, l2⟩ := len_ok g h.1
  obtain ⟨μ1, k1, k2, k3⟩ := a_learn h
  have e : m_Gr_countOf (nI t) (-1 : Int32) μ1 = some (some (.int (nI (cnF g t none (lenG g) 0 0))), μ1) := by
    rw [e_Gr_countOf]
    exact s_cnt_5 h.1 k3 ht none (fun u h => by cases h) (lenG g) 0 0 (by omega)
  refine ⟨μ1, ?_, k2⟩
  rcases s_Ty_find (-1 : Int32) μ with ⟨u, hu, -, hy⟩ | ⟨-, hy⟩
  · rw [e_TI_listed, s_find_n ht, cI_s, hy, cI_s, bf (t_ge ht), bf (t_ge hu), k1, cV_s, bt neg1, e, cI_s]
  · rw [e_TI_listed, s_find_n ht, cI_s, hy, cI_s, bf (t_ge ht), bt d_neg, bt neg1, k1, cV_s, bt neg1, e, cI_s]
theorem a_listed2 {t u : Nat} (ht : t < 19) (hu : u < 19) (h : J g μ) : An g μ (m_TI_listed (nI (numN t)) (nI (numN u))) (.int (nI (cnF g u (some t) (lenG g) 0 0))) := by
  obtain ⟨l1, l2⟩ := len_ok g h.1
  obtain ⟨μ1, k1, k2, k3⟩ := a_learn h
  have e : m_Gr_countOf (nI u) (nI t) μ1 = some (some (.int (nI (cnF g u (some t) (lenG g) 0 0))), μ1) := by
    rw [e_Gr_countOf]
    exact s_cnt_5 h.1 k3 hu (some t) (fun v h => by cases h; exact ht) (lenG g) 0 0 (by omega)
  have q := numN_lt u
  refine ⟨μ1, ?_, k2⟩
  rw [e_TI_listed, s_find_n ht, cI_s, s_find_n hu, cI_s, bf (t_ge ht), bf (t_ge hu), k1, cV_s, bf (d_e1 (by omega)), e, cI_s]
theorem a_has (h : J g μ) {S : Nat} (hS : S < 2 ^ nG g) : m_Gr_hasAll (lN S) μ = some (some (.int (nI 1)), μ) := by
  obtain ⟨-, n1, n2, -, -⟩ := g_1 g h.1
  have hp : 2 ^ nG g ≤ 2 ^ 32 := Nat.pow_le_pow_right (by omega) n2
  rw [e_Gr_hasAll, e_Gr_everything, cJ_s, h.2.2.1.1.2.2.1, ev_l n2, lgc_eq, not_and n2 (by omega), bt (decide_eq_true hS)]
  exact gd_h isb_1
theorem a_span {i : Nat} (hi : i < lenG g) (h : J g μ) : An g μ (m_TI_span (lN (LG g i))) (.long (lN (LG g i))) := .same h (by
  have hp := pw_N h.1
  have hS := ((l_ok g h.1).2 i hi).1
  have s1 := (s_spanOf h.1 h.2.2.1 (show LG g i < 2 ^ 32 by omega)).1
  rw [s_ok g h.1 i hi] at s1
  rw [e_TI_span, a_has h hS, cI_s, bf (by decide), s1, cJ_s])
theorem a_isSub {i : Nat} (hi : i < lenG g) (h : J g μ) : m_Gr_isSubgroup (lN (LG g i)) μ = some (some (.int (nI 1)), μ) := by
  have hp := pw_N h.1
  have hS := ((l_ok g h.1).2 i hi).1
  have s1 := (s_spanOf h.1 h.2.2.1 (show LG g i < 2 ^ 32 by omega)).1
  rw [s_ok g h.1 i hi] at s1
  rw [e_Gr_isSubgroup, s1, cJ_s, lgc_eq, bt (decide_eq_true rfl)]
  exact gd_h isb_1
theorem a_told0 {i : Nat} (hi : i < lenG g) (h : J g μ) : An g μ (m_TI_told (lN (LG g i)) (nI 0)) (.int (nI (numN (tyG g i)))) := .same h (by
  obtain ⟨⟨t1, -⟩, ⟨t2, -⟩⟩ := tb_ok g h.1 i hi
  rw [e_TI_told, a_has h ((l_ok g h.1).2 i hi).1, cI_s, bf (by decide), bf (by decide), bf (by decide), bf (by decide), a_isSub hi h, cI_s, bf (by decide), bt (by decide), e_Gr_typeOf, s_typeOf h.1 h.2.2.1 hi, cI_s, cI_s, s_Ty_number t1, cI_s])
theorem a_told1 {i : Nat} (hi : i < lenG g) (h : J g μ) : An g μ (m_TI_told (lN (LG g i)) (nI 1)) (.int (nI (numN (coG g i)))) := .same h (by
  obtain ⟨⟨t1, -⟩, ⟨t2, -⟩⟩ := tb_ok g h.1 i hi
  rw [e_TI_told, a_has h ((l_ok g h.1).2 i hi).1, cI_s, bf (by decide), bf (by decide), bf (by decide), bf (by decide), a_isSub hi h, cI_s, bf (by decide), bf (by decide), e_Gr_cotypeOf, s_everything h.1 h.2.2.1, cJ_s, s_cotypeOf h.1 h.2.2.1 hi, cI_s, cI_s, s_Ty_number t2, cI_s])
theorem a_told2 {i : Nat} (hi : i < lenG g) (h : J g μ) : An g μ (m_TI_told (lN (LG g i)) (nI 2)) (.int (nI (pcF 32 (LG g i)))) := .same h (by
  have hp := pw_N h.1
  have hS := ((l_ok g h.1).2 i hi).1
  rw [e_TI_told, a_has h hS, cI_s, bf (by decide), bf (by decide), bf (by decide), bt (by decide), s_bitCount (by omega), cI_s])
/-- the law's own count of bits -/
theorem a_bits_4 {S : Nat} (hS : S < 2 ^ 63) (μ : Mm) : ∀ (f e c : Nat), e + f = 32 → c ≤ e → m_La_bits_4 (lN S) (nI c) (nI e) μ = some (some (.int (nI (c + pcF f (S / 2 ^ e)))), μ)
  | 0, e, c, h, hc => by
    rw [e_La_bits_4, bLf (by omega) (by omega)]
    rfl
  | f + 1, e, c, h, hc => by
    rw [e_La_bits_4, bLt (by omega) (by omega), nI_l (n := c) (by omega), nI_l (n := e) (by omega), and63 (by omega), lN_shr hS (by omega), lN_1and, lN_add, lN_i, nI_p1, a_bits_4 hS μ f (e + 1) _ (by omega) (by split <;> omega), tb_half]
    show _ = some (some (Value.int (nI (c + (S / 2 ^ e % 2 + pcF f (S / 2 ^ e / 2))))), μ)
    have e2 : S / 2 ^ e / 2 = S / 2 ^ (e + 1) := by rw [Nat.div_div_eq_div_mul, ← Nat.pow_succ]
    rw [e2]
    by_cases q : S / 2 ^ e % 2 = 1
    · rw [decide_eq_true q, q]
      show some (some (Value.int (nI (c + 1 + pcF f (S / 2 ^ (e + 1))))), μ) = _
      rw [Nat.add_assoc]
    · have q0 : S / 2 ^ e % 2 = 0 := by omega
      rw [decide_eq_false q, q0]
      show some (some (Value.int (nI (c + 0 + pcF f (S / 2 ^ (e + 1))))), μ) = _
      rw [Nat.add_assoc]
theorem a_bits {i : Nat} (hi : i < lenG g) (h : J g μ) : An g μ (m_La_bits (lN (LG g i))) (.int (nI (pcF 32 (LG g i)))) := .same h (by
  have hp := pw_N h.1
  have hS := ((l_ok g h.1).2 i hi).1
  rw [e_La_bits, a_bits_4 (by omega) μ 32 0 0 (by omega) (by omega), Nat.zero_add, Nat.pow_zero, Nat.div_one])
end ANS
