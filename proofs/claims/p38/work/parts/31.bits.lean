/-! sets as bits of longs -/
theorem lN_bv (a : Nat) : (lN a).toBitVec = BitVec.ofNat 64 a := rfl
theorem lN_and (a b : Nat) : lN a &&& lN b = lN (a &&& b) := by
  apply Int64.toBitVec_inj.mp
  rw [Int64.toBitVec_and, lN_bv, lN_bv, lN_bv, BitVec.ofNat_and]
theorem lN_or (a b : Nat) : lN a ||| lN b = lN (a ||| b) := by
  apply Int64.toBitVec_inj.mp
  rw [Int64.toBitVec_or, lN_bv, lN_bv, lN_bv, BitVec.ofNat_or]
theorem lN_xor (a b : Nat) : lN a ^^^ lN b = lN (a ^^^ b) := by
  apply Int64.toBitVec_inj.mp
  rw [Int64.toBitVec_xor, lN_bv, lN_bv, lN_bv, BitVec.ofNat_xor]
theorem lN_int {n : Nat} (h : n < 2 ^ 63) : (lN n).toInt = (n : Int) := Int64.toInt_ofNat_of_lt h
theorem lN_eqb {a b : Nat} (ha : a < 2 ^ 63) (hb : b < 2 ^ 63) : decide (lN a = lN b) = decide (a = b) := by
  by_cases q : a = b
  · rw [decide_eq_true q, decide_eq_true (by rw [q])]
  · rw [decide_eq_false q]
    apply decide_eq_false
    intro h
    have := congrArg Int64.toInt h
    rw [lN_int ha, lN_int hb] at this
    omega
theorem lN_div {a b : Nat} (ha : a < 2 ^ 63) (hb : b < 2 ^ 63) : lN a / lN b = lN (a / b) := by
  apply Int64.toInt_inj.mp
  rw [Int64.toInt_div_of_ne_left, lN_int ha, lN_int hb, lN_int (Nat.lt_of_le_of_lt (Nat.div_le_self a b) ha)]
  · rfl
  · intro q
    have := congrArg Int64.toInt q
    rw [lN_int ha] at this
    have h : Int64.minValue.toInt = -9223372036854775808 := by decide
    omega
theorem lN_subA {a b : Nat} (h : b ≤ a) : lN a - lN b = lN (a - b) := by
  obtain ⟨c, rfl⟩ := Nat.exists_eq_add_of_le h
  rw [Nat.add_sub_cancel_left, ← lN_add, Int64.add_comm, Int64.add_sub_cancel]
theorem lN_rem {a b : Nat} (ha : a < 2 ^ 63) (hb : b < 2 ^ 63) : lN a - lN a / lN b * lN b = lN (a % b) := by
  rw [lN_div ha hb, lN_mul, lN_subA (Nat.div_mul_le_self a b)]
  congr 1
  have := Nat.div_add_mod a b
  rw [Nat.mul_comm] at this
  omega
/-- the remainder that is never below 0 -/
def fmd (x y : Int64) : Int64 := bif decide (lg_cmp (x ^^^ y) (lN 0) < nI 0) then (bif decide (lg_cmp (x - x / y * y) (lN 0) = nI 0) then x - x / y * y else (x - x / y * y) + y) else x - x / y * y
theorem s_fmd {x y : Int64} (h : y ≠ 0) (μ : Mm) : m_jM_floorMod x y μ = some (some (.long (fmd x y)), μ) := by
  have e : (!decide (y = 0)) = true := by rw [decide_eq_false h]; rfl
  rw [e_jM_floorMod, gd_h e]
  unfold fmd
  cases decide (lg_cmp (x ^^^ y) (lN 0) < nI 0)
  · rfl
  · cases decide (lg_cmp (x - x / y * y) (lN 0) = nI 0) <;> rfl
theorem fmd_n {a b : Nat} (ha : a < 2 ^ 63) (hb : b < 2 ^ 63) : fmd (lN a) (lN b) = lN (a % b) := by
  unfold fmd
  have h : decide (lg_cmp (lN a ^^^ lN b) (lN 0) < nI 0) = false := by
    rw [lgc_lt, lN_xor, lN_ltb (Nat.xor_lt_two_pow ha hb) (by omega)]
    exact decide_eq_false (Nat.not_lt_zero _)
  rw [h, cond_false, lN_rem ha hb]
theorem tb_mod (S e : Nat) : (S >>> e) &&& 1 = if S.testBit e then 1 else 0 := by
  rw [Nat.and_one_is_mod, Nat.testBit_eq_decide_div_mod_eq, Nat.shiftRight_eq_div_pow]
  have := Nat.mod_two_eq_zero_or_one (S / 2 ^ e)
  rcases this with h | h
  · rw [h]; rfl
  · rw [h]; rfl
theorem and63 {e : Nat} (he : e < 64) : lN e &&& 63 = lN e := by
  show lN e &&& lN 63 = lN e
  rw [lN_and, show (63 : Nat) = 2 ^ 6 - 1 from rfl, Nat.and_two_pow_sub_one_eq_mod, Nat.mod_eq_of_lt he]
theorem lN_shl {a e : Nat} (he : e < 64) : lN a <<< lN e = lN (a <<< e) := by
  apply Int64.toBitVec_inj.mp
  rw [Int64.toBitVec_shiftLeft, lN_bv, lN_bv, lN_bv]
  apply BitVec.eq_of_toNat_eq
  have h1 : ((BitVec.ofNat 64 e).smod 64).toNat = e := by
    revert e
    decide +kernel
  rw [BitVec.shiftLeft_eq', h1, BitVec.toNat_shiftLeft, BitVec.toNat_ofNat, BitVec.toNat_ofNat, Nat.shiftLeft_eq, Nat.shiftLeft_eq, Nat.mod_mul_mod]
theorem lN_1and {S e : Nat} : (lN (S >>> e)) &&& lN 1 = lN (if S.testBit e then 1 else 0) := by
  rw [lN_and, tb_mod]
/-- the class's look at a bit -/
theorem s_Gr_hasBit {S e : Nat} (hS : S < 2 ^ 63) (he : e < 64) (μ : Mm) : m_Gr_hasBit (lN S) (nI e) μ = some (some (.int (nI (b2i (S.testBit e)))), μ) := by
  have h : ((lN S).toUInt64 >>> ((nI e).toInt64.toUInt64 &&& Int64.toUInt64 63)).toInt64 = lN (S >>> e) := by
    rw [nI_l (by omega)]
    apply Int64.toBitVec_inj.mp
    apply BitVec.eq_of_toNat_eq
    have h1 : (lN e).toUInt64 &&& Int64.toUInt64 63 = UInt64.ofNat e := by
      have : e < 64 := he
      revert e
      decide +kernel
    have h3 : S >>> e ≤ S := by
      rw [Nat.shiftRight_eq_div_pow]
      exact Nat.div_le_self _ _
    rw [h1]
    show ((lN S).toUInt64 >>> UInt64.ofNat e).toBitVec.toNat = (BitVec.ofNat 64 (S >>> e)).toNat
    rw [BitVec.toNat_ofNat, Nat.mod_eq_of_lt (show S >>> e < 2 ^ 64 by omega)]
    show ((lN S).toUInt64 >>> UInt64.ofNat e).toNat = _
    rw [UInt64.toNat_shiftRight]
    have h4 : (lN S).toUInt64.toNat = S := by
      show (BitVec.ofNat 64 S).toNat = S
      rw [BitVec.toNat_ofNat, Nat.mod_eq_of_lt (by omega)]
    have h5 : (UInt64.ofNat e).toNat = e := by
      show (BitVec.ofNat 64 e).toNat = e
      rw [BitVec.toNat_ofNat, Nat.mod_eq_of_lt (by omega)]
    rw [h4, h5, Nat.mod_eq_of_lt he]
  rw [e_Gr_hasBit, h, lN_1and, lgc_eq]
  cases S.testBit e
  · show (bif decide (lN 0 = lN 0) then _ else _) = _
    rw [bt (decide_eq_true rfl)]
    exact gd_h isb_0
  · show (bif decide (lN 1 = lN 0) then _ else _) = _
    rw [bf (by decide)]
    exact gd_h isb_1
/-- all elements -/
def evN (N : Nat) : Nat := 2 ^ N - 1
theorem ev_l {N : Nat} (hN : N ≤ 32) : (lN 1 <<< ((nI N).toInt64 &&& 63)) - lN 1 = lN (evN N) := by
  rw [nI_l (by omega), and63 (by omega), lN_shl (by omega), Nat.shiftLeft_eq, Nat.one_mul, lN_subA (Nat.one_le_two_pow)]
  rfl
theorem ev_lt {N : Nat} (hN : N ≤ 32) : evN N < 2 ^ 33 := by
  have : 2 ^ N ≤ 2 ^ 32 := Nat.pow_le_pow_right (by omega) hN
  unfold evN
  omega
theorem x_lN (x : Int64) : ∃ X, X < 2 ^ 64 ∧ x = lN X := ⟨x.toBitVec.toNat, x.toBitVec.isLt, by
  apply Int64.toBitVec_inj.mp
  rw [lN_bv, BitVec.ofNat_toNat, BitVec.setWidth_eq]⟩
theorem neg_l {X : Nat} (h1 : 2 ^ 63 ≤ X) (h2 : X < 2 ^ 64) : decide (lN X < lN 0) = true := by
  apply decide_eq_true
  rw [Int64.lt_iff_toInt_lt]
  show (BitVec.ofNat 64 X).toInt < (lN 0).toInt
  rw [BitVec.toInt_eq_toNat_cond, BitVec.toNat_ofNat, Nat.mod_eq_of_lt h2, if_neg (by omega)]
  have : (lN 0).toInt = 0 := by decide
  omega
theorem not_and {N X : Nat} (hN : N ≤ 32) (hX : X < 2 ^ 64) : decide (lN X &&& (lN (evN N) ^^^ (-1 : Int64)) = lN 0) = decide (X < 2 ^ N) := by
  have hp : 2 ^ N ≤ 2 ^ 32 := Nat.pow_le_pow_right (by omega) hN
  have e1 : (-1 : Int64) = lN (2 ^ 64 - 1) := by decide
  have e2 : lN X &&& (lN (evN N) ^^^ (-1 : Int64)) = lN (X &&& (evN N ^^^ (2 ^ 64 - 1))) := by
    rw [e1, lN_xor, lN_and]
  have hlt : X &&& (evN N ^^^ (2 ^ 64 - 1)) < 2 ^ 64 := Nat.and_lt_two_pow _ (Nat.xor_lt_two_pow (by unfold evN; omega) (by omega))
  have key : (X &&& (evN N ^^^ (2 ^ 64 - 1)) = 0) ↔ X < 2 ^ N := by
    constructor
    · intro h
      apply Nat.lt_pow_two_of_testBit
      intro i hi
      have h2 := congrArg (fun z => Nat.testBit z i) h
      simp only [Nat.testBit_and, Nat.testBit_xor, Nat.zero_testBit] at h2
      unfold evN at h2
      rw [Nat.testBit_two_pow_sub_one, Nat.testBit_two_pow_sub_one, decide_eq_false (show ¬ i < N by omega)] at h2
      by_cases q : i < 64
      · rw [decide_eq_true q] at h2
        simpa using h2
      · exact Nat.testBit_lt_two_pow (Nat.lt_of_lt_of_le hX (Nat.pow_le_pow_right (by omega) (by omega)))
    · intro h
      apply Nat.eq_of_testBit_eq
      intro i
      rw [Nat.zero_testBit, Nat.testBit_and, Nat.testBit_xor]
      unfold evN
      rw [Nat.testBit_two_pow_sub_one, Nat.testBit_two_pow_sub_one]
      by_cases q : i < N
      · rw [decide_eq_true q, decide_eq_true (show i < 64 by omega)]
        simp
      · rw [Nat.testBit_lt_two_pow (Nat.lt_of_lt_of_le h (Nat.pow_le_pow_right (by omega) (by omega)))]
        simp
  rw [e2]
  by_cases q : X < 2 ^ N
  · rw [decide_eq_true q, key.mpr q]
    exact decide_eq_true rfl
  · rw [decide_eq_false q]
    apply decide_eq_false
    intro h
    apply q
    apply key.mp
    have := congrArg (fun z : Int64 => z.toBitVec.toNat) h
    simp only [lN_bv, BitVec.toNat_ofNat] at this
    rwa [Nat.mod_eq_of_lt hlt] at this
/-- a set of elements for both, or for none -/
theorem both_set {N : Nat} (hN : N ≤ 32) (x : Int64) : (∃ S, S < 2 ^ N ∧ x = lN S ∧ decide (x &&& (lN (evN N) ^^^ (-1 : Int64)) = lN 0) = true ∧ decide (x < lN 0) = false ∧ decide (lN (evN N) < x) = false) ∨ (decide (x &&& (lN (evN N) ^^^ (-1 : Int64)) = lN 0) = false ∧ (decide (x < lN 0) = true ∨ decide (x < lN 0) = false ∧ decide (lN (evN N) < x) = true)) := by
  have hp : 2 ^ N ≤ 2 ^ 32 := Nat.pow_le_pow_right (by omega) hN
  have he := ev_lt hN
  have h1 : 1 ≤ 2 ^ N := Nat.one_le_two_pow
  obtain ⟨X, hX, rfl⟩ := x_lN x
  rw [not_and hN hX]
  by_cases q : X < 2 ^ N
  · refine Or.inl ⟨X, q, rfl, decide_eq_true q, ?_, ?_⟩
    · rw [lN_ltb (by omega) (by omega)]
      exact decide_eq_false (by omega)
    · rw [lN_ltb (by omega) (by omega)]
      unfold evN
      exact decide_eq_false (by omega)
  · refine Or.inr ⟨decide_eq_false q, ?_⟩
    by_cases q2 : X < 2 ^ 63
    · refine Or.inr ⟨?_, ?_⟩
      · rw [lN_ltb (by omega) (by omega)]
        exact decide_eq_false (by omega)
      · rw [lN_ltb (by omega) (by omega)]
        unfold evN
        exact decide_eq_true (by omega)
    · exact Or.inl (neg_l (by omega) hX)

