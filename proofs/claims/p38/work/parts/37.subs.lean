/-! subgroups: spans of both sides; span, meet -/
section SUBS
variable {g : Nat} {μ : Mm}
theorem pw_N (hg : g < 32) : 2 ^ nG g ≤ 2 ^ 32 := Nat.pow_le_pow_right (by omega) (g_1 g hg).2.2.1
theorem or_bit {a e : Nat} (ha : a < 2 ^ 32) (he : e < 32) : a ||| (1 <<< e) < 2 ^ 32 := Nat.or_lt_two_pow ha (by
  rw [Nat.shiftLeft_eq, Nat.one_mul]
  exact Nat.pow_lt_pow_right (by omega) he)
theorem shF_lt (hg : g < 32) {x b : Nat} (hb : b < nG g) : ∀ (f a acc : Nat), a + f = nG g → acc < 2 ^ 32 → shF g x b f a acc < 2 ^ 32
  | 0, a, acc, _, h => h
  | f + 1, a, acc, e, h => by
    have n2 := (g_1 g hg).2.2.1
    have := (g_5 g hg a (by omega)).2 b hb
    unfold shF
    split
    · exact shF_lt hg hb f (a + 1) _ (by omega) (or_bit h (by omega))
    · exact shF_lt hg hb f (a + 1) _ (by omega) h
theorem s_shifted_6 (hg : g < 32) (hC : GC g μ) {x b : Nat} (hx : x < 2 ^ 32) (hb : b < nG g) : ∀ (f a acc : Nat), a + f = nG g → acc < 2 ^ 32 → m_Gr_shifted_6 (lN x) (nI b) (lN acc) (nI a) μ = some (some (.long (lN (shF g x b f a acc))), μ)
  | 0, a, acc, e, h => by
    have n2 := (g_1 g hg).2.2.1
    obtain rfl : a = nG g := by omega
    rw [e_Gr_shifted_6, hC.1.2.2.1, bLf (by omega) (by omega)]
    rfl
  | f + 1, a, acc, e, h => by
    have n2 := (g_1 g hg).2.2.1
    have hv := (g_5 g hg a (by omega)).2 b hb
    unfold shF
    rw [e_Gr_shifted_6, hC.1.2.2.1, bLt (by omega) (by omega), s_Gr_hasBit (by omega) (by omega), cI_s, b2i_n, nI_p1]
    by_cases q : x.testBit a = true
    · rw [q, if_pos rfl, Bool.not_true, cond_false, s_added hg hC (by omega) hb, cI_s, nI_l (by omega), and63 (by omega), lN_shl (by omega), lN_or, s_shifted_6 hg hC hx hb f (a + 1) _ (by omega) (or_bit h (by omega))]
    · rw [Bool.not_eq_true] at q
      rw [q, if_neg (by decide), Bool.not_false, cond_true, s_shifted_6 hg hC hx hb f (a + 1) _ (by omega) h]
theorem s_shifted (hg : g < 32) (hC : GC g μ) {x b : Nat} (hx : x < 2 ^ 32) (hb : b < nG g) : m_Gr_shifted (lN x) (nI b) μ = some (some (.long (lN (shF g x b (nG g) 0 0))), μ) := by
  rw [e_Gr_shifted, s_shifted_6 hg hC hx hb (nG g) 0 0 (by omega) (by omega)]
theorem s_joined_9 (hg : g < 32) (hC : GC g μ) {S e : Nat} (hS : S < 2 ^ 32) (he : e < nG g) : ∀ (f k all co : Nat), k + f = nG g → all < 2 ^ 32 → co < 2 ^ 32 → m_Gr_joined_9 (lN S) (nI e) (lN all) (lN co) (nI k) μ = some (some (.long (lN (jnF g S e f all co))), μ)
  | 0, k, all, co, h, h1, h2 => by
    have n2 := (g_1 g hg).2.2.1
    obtain rfl : k = nG g := by omega
    rw [e_Gr_joined_9, hC.1.2.2.1, bLf (by omega) (by omega)]
    rfl
  | f + 1, k, all, co, h, h1, h2 => by
    have n2 := (g_1 g hg).2.2.1
    have h3 := shF_lt hg (x := co) he (nG g) 0 0 (by omega) (by omega)
    unfold jnF
    rw [e_Gr_joined_9, hC.1.2.2.1, bLt (by omega) (by omega), s_shifted hg hC h2 he, cJ_s, lgc_eq, lN_eqb (by omega) (by omega), nI_p1]
    by_cases q : shF g co e (nG g) 0 0 = S
    · rw [bt (decide_eq_true q), if_pos q]
    · rw [bf (decide_eq_false q), if_neg q, lN_or, s_joined_9 hg hC hS he f (k + 1) _ _ (by omega) (Nat.or_lt_two_pow h1 h3) h3]
theorem lg_lt (hg : g < 32) {i : Nat} (hi : i < lenG g) : LG g i < 2 ^ 32 := Nat.lt_of_lt_of_le ((l_ok g hg).2 i hi).1 (pw_N hg)
theorem s_joined (hg : g < 32) (hC : GC g μ) {i e : Nat} (hi : i < lenG g) (he : e < nG g) (hn : (LG g i).testBit e = false) : m_Gr_joined (lN (LG g i)) (nI e) μ = some (some (.long (lN (LG g (jnG g i e)))), μ) ∧ jnG g i e < lenG g := by
  obtain ⟨-, n1, -, -, -⟩ := g_1 g hg
  have hl := lg_lt hg hi
  obtain ⟨j1, j2⟩ := Bool.and_eq_true_iff.mp (j_ok g hg i hi e he)
  obtain ⟨j2, j3⟩ := Bool.and_eq_true_iff.mp j2
  rw [hn, if_neg (by decide)] at j3
  rw [e_Gr_joined, s_joined_9 hg hC hl he (nG g - 1) 1 _ _ (by omega) hl hl, of_decide_eq_true j3]
  exact ⟨rfl, of_decide_eq_true j1⟩
theorem jn_self (hg : g < 32) {i e : Nat} (hi : i < lenG g) (he : e < nG g) (h : (LG g i).testBit e = true) : jnG g i e = i := by
  obtain ⟨j1, j2⟩ := Bool.and_eq_true_iff.mp (j_ok g hg i hi e he)
  obtain ⟨j2, j3⟩ := Bool.and_eq_true_iff.mp j2
  rw [if_pos h] at j3
  exact of_decide_eq_true j3
theorem s_spanOf_5 (hg : g < 32) (hC : GC g μ) {X : Nat} (hX : X < 2 ^ 32) : ∀ (f a i : Nat), a + f = nG g → i < lenG g → m_Gr_spanOf_5 (lN X) (lN (LG g i)) (nI a) μ = some (some (.long (lN (LG g (spF g X f a i)))), μ) ∧ spF g X f a i < lenG g
  | 0, a, i, h, hi => by
    have n2 := (g_1 g hg).2.2.1
    obtain rfl : a = nG g := by omega
    rw [e_Gr_spanOf_5, hC.1.2.2.1, bLf (by omega) (by omega)]
    exact ⟨rfl, hi⟩
  | f + 1, a, i, h, hi => by
    have n2 := (g_1 g hg).2.2.1
    have hl := lg_lt hg hi
    unfold spF
    rw [e_Gr_spanOf_5, hC.1.2.2.1, bLt (by omega) (by omega), s_Gr_hasBit (by omega) (by omega), cI_s, b2i_n, s_Gr_hasBit (by omega) (by omega), cI_s, b2i_n, nI_p1]
    by_cases q : X.testBit a = true
    · rw [q, if_pos rfl, Bool.not_true, cond_false]
      by_cases q2 : (LG g i).testBit a = true
      · rw [q2, Bool.not_true, cond_false, jn_self hg hi (by omega) q2]
        exact s_spanOf_5 hg hC hX f (a + 1) i (by omega) hi
      · rw [Bool.not_eq_true] at q2
        obtain ⟨j1, j2⟩ := s_joined hg hC hi (show a < nG g by omega) q2
        rw [q2, Bool.not_false, cond_true, j1, cJ_s]
        exact s_spanOf_5 hg hC hX f (a + 1) _ (by omega) j2
    · rw [Bool.not_eq_true] at q
      rw [q, if_neg (by decide), Bool.not_false, cond_true]
      exact s_spanOf_5 hg hC hX f (a + 1) i (by omega) hi
theorem sp_0 (hg : g < 32) (X : Nat) : spN g X = spF g X (nG g - 1) 1 0 := by
  obtain ⟨-, n1, -, -, -⟩ := g_1 g hg
  have l1 := (len_ok g hg).1
  unfold spN
  obtain ⟨m, hm⟩ : ∃ m, nG g = m + 1 := ⟨nG g - 1, by omega⟩
  rw [hm, Nat.add_sub_cancel]
  show spF g X m 1 (if X.testBit 0 then jnG g 0 0 else 0) = _
  rw [jn_self hg (by omega) (by omega) ((l_ok g hg).2 0 (by omega)).2]
  split <;> rfl
theorem s_spanOf (hg : g < 32) (hC : GC g μ) {X : Nat} (hX : X < 2 ^ 32) : m_Gr_spanOf (lN X) μ = some (some (.long (lN (LG g (spN g X)))), μ) ∧ spN g X < lenG g := by
  obtain ⟨-, n1, -, -, -⟩ := g_1 g hg
  have l1 := (len_ok g hg).1
  have := s_spanOf_5 hg hC hX (nG g - 1) 1 0 (by omega) (by omega)
  rw [(l_ok g hg).1] at this
  rw [e_Gr_spanOf, sp_0 hg]
  exact this
end SUBS
