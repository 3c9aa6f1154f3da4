/-! doubles: halves, doubles, exponents; their bits by the class's arithmetic -/
def dD (c : Nat) (q : Int) : UInt64 := FP.Core.of64 (.fin false c q)
def okc (c : Nat) (q : Int) : Prop := (2 ^ 52 ≤ c ∧ c < 2 ^ 53) ∧ -1074 ≤ q ∧ q ≤ 971
theorem qmax64 : FP.Core.b64.qmax = 971 := by decide
theorem fit64 {c : Nat} {q : Int} (h : okc c q) : FP.Core.fits FP.Core.b64 (.fin false c q) := by
  show c < 2 ^ FP.Core.b64.p ∧ FP.Core.b64.qmin ≤ q ∧ q ≤ FP.Core.b64.qmax ∧ (q = FP.Core.b64.qmin ∨ FP.Core.b64.tails ≤ c)
  rw [FP.Core.qmin_b64, qmax64, FP.Core.tails_b64]
  exact ⟨h.1.2, h.2.1, h.2.2, Or.inr h.1.1⟩
theorem v64 {c : Nat} {q : Int} (h : okc c q) : FP.Core.val64 (dD c q) = .fin false c q := FP.Core.val64_of64 (fit64 h)
theorem ne64 {c : Nat} {q : Int} (h : okc c q) : FP.Core.val64 (dD c q) ≠ .nan := by
  rw [v64 h]
  exact fun e => by cases e
theorem dD_of {x : UInt64} {c : Nat} {q : Int} (h : FP.Core.val64 x = .fin false c q) : x = dD c q := by
  have := FP.Core.of64_val64 (a := x) (by rw [h]; exact fun e => by cases e)
  rw [← this, h]
  rfl
theorem k2 : (4611686018427387904 : UInt64) = dD (2 ^ 52) (-51) := by decide +kernel
theorem k1 : FP.dconst1 = dD (2 ^ 52) (-52) := by decide +kernel
theorem ok2 : okc (2 ^ 52) (-51) := by unfold okc; omega
theorem ok1 : okc (2 ^ 52) (-52) := by unfold okc; omega
theorem n64_of {x : UInt64} (h : FP.Core.val64 x ≠ .nan) : n64 x = true := by
  have h1 := (FP.Core.ne_nan x).mp h
  unfold n64
  apply decide_eq_true
  rw [UInt64.le_iff_toNat_le, UInt64.toNat_and]
  show x.toNat &&& 9223372036854775807 ≤ 9218868437227405312
  rw [show (9223372036854775807 : Nat) = 2 ^ 63 - 1 by decide, Nat.and_two_pow_sub_one_eq_mod]
  exact h1
theorem n64D {c : Nat} {q : Int} (h : okc c q) : n64 (dD c q) = true := n64_of (ne64 h)
theorem nD {c : Nat} {q : Int} (h : okc c q) : (dD c q).toNat = ((q + 1074).toNat + 1) * 2 ^ 52 + (c - 2 ^ 52) := by
  have hc := h.1.1
  unfold dD
  rw [FP.Core.toNat_of64 (fit64 h)]
  show (if c < FP.Core.b64.tails then FP.Core.assemble FP.Core.b64 false 0 c else FP.Core.assemble FP.Core.b64 false ((q - FP.Core.b64.qmin).toNat + 1) (c - FP.Core.b64.tails)) = _
  rw [FP.Core.tails_b64, if_neg (by omega), FP.Core.qmin_b64]
  unfold FP.Core.assemble
  rw [FP.Core.tails_b64, Bool.toNat_false, Nat.zero_mul, Nat.zero_add, show q - -1074 = q + 1074 by omega]
theorem d_dbl {c : Nat} {q : Int} (h : okc c q) (h2 : q + 1 ≤ 971) : FP.dmul (dD c q) 4611686018427387904 = dD c (q + 1) := by
  have h3 : okc c (q + 1) := by unfold okc at *; omega
  apply dD_of
  show FP.Core.val64 (FP.Core.dmul (dD c q) 4611686018427387904) = _
  rw [FP.Core.val64_dmul, v64 h, k2, v64 ok2]
  show FP.Core.roundRatio FP.Core.b64 false (c * 2 ^ 52) 1 (q + -51) = _
  refine FP.Core.roundRatio_exact FP.Core.good_b64 (by decide) (fit64 h3) ?_
  rw [show (q + -51 - (q + 1)).toNat = 0 by omega, show (q + 1 - (q + -51)).toNat = 52 by omega, Nat.pow_zero, Nat.mul_one, Nat.mul_one]
theorem d_hlv {c : Nat} {q : Int} (h : okc c q) (h2 : -1074 ≤ q - 1) : FP.ddiv (dD c q) 4611686018427387904 = dD c (q - 1) := by
  have h3 : okc c (q - 1) := by unfold okc at *; omega
  apply dD_of
  show FP.Core.val64 (FP.Core.ddiv (dD c q) 4611686018427387904) = _
  rw [FP.Core.val64_ddiv, v64 h, k2, v64 ok2]
  have e : FP.Core.quotient FP.Core.b64 (.fin false c q) (.fin false (2 ^ 52) (-51)) = FP.Core.roundRatio FP.Core.b64 false c (2 ^ 52) (q - -51) := by
    unfold FP.Core.quotient
    exact if_neg (by omega)
  rw [e]
  refine FP.Core.roundRatio_exact FP.Core.good_b64 (by decide) (fit64 h3) ?_
  rw [show (q - -51 - (q - 1)).toNat = 52 by omega, show (q - 1 - (q - -51)).toNat = 0 by omega, Nat.pow_zero, Nat.mul_one]
theorem cmp_lt {a b : Int} (h : a < b) : compare a b = .lt := by
  simp only [compare, compareOfLessAndEq]
  rw [if_pos h]
theorem cmp_gt {a b : Int} (h : b < a) : compare a b = .gt := by
  simp only [compare, compareOfLessAndEq]
  rw [if_neg (by omega), if_neg (by omega)]
theorem cmp_eq {a : Int} : compare a a = .eq := by
  simp only [compare, compareOfLessAndEq]
  rw [if_neg (by omega)]
  exact if_pos trivial
theorem dcm {c : Nat} {q r : Int} (h : okc c q) (hr : okc (2 ^ 52) r) (op : CmpOp) : decide (Op.cmpValue (FP.dcmp (dD c q) (dD (2 ^ 52) r)) op < nI 0) = decide (q < r) := by
  have e : FP.dcmp (dD c q) (dD (2 ^ 52) r) = some (compare (FP.Core.signed false (FP.Core.inUnits c q (min q r))) (FP.Core.signed false (FP.Core.inUnits (2 ^ 52) r (min q r)))) := by
    show FP.Core.order (FP.Core.val64 (dD c q)) (FP.Core.val64 (dD (2 ^ 52) r)) = _
    rw [v64 h, v64 hr]
    rfl
  have s : ∀ n : Nat, FP.Core.signed false n = (n : Int) := fun n => rfl
  rw [e, s, s]
  unfold FP.Core.inUnits
  obtain ⟨⟨h1, h2⟩, -⟩ := h
  by_cases hq : q < r
  · have m : min q r = q := by omega
    have p : 2 ^ 1 ≤ 2 ^ (r - q).toNat := Nat.pow_le_pow_right (by omega) (by omega)
    have p2 : 2 ^ 52 * 2 ^ 1 ≤ 2 ^ 52 * 2 ^ (r - q).toNat := Nat.mul_le_mul_left _ p
    rw [m, Int.sub_self, decide_eq_true hq, cmp_lt (by
      have : c * 2 ^ (0 : Int).toNat = c := by simp
      rw [this]
      omega)]
    cases op <;> decide
  · have m : min q r = r := by omega
    have p : 1 ≤ 2 ^ (q - r).toNat := Nat.one_le_two_pow
    have p2 : c * 1 ≤ c * 2 ^ (q - r).toNat := Nat.mul_le_mul_left _ p
    have z : (2 ^ 52 * 2 ^ (0 : Int).toNat : Nat) = 2 ^ 52 := by simp
    rw [m, Int.sub_self, decide_eq_false hq, z]
    by_cases e2 : c * 2 ^ (q - r).toNat = 2 ^ 52
    · rw [e2, cmp_eq]
      cases op <;> decide
    · rw [cmp_gt (by omega)]
      cases op <;> decide
theorem dcz {c : Nat} {q : Int} (h : okc c q) : FP.dcmp (dD c q) FP.dconst0 = some .gt := by
  show FP.Core.order (FP.Core.val64 (dD c q)) (FP.Core.val64 FP.dconst0) = _
  have z : FP.Core.val64 FP.dconst0 = .fin false 0 (-1074) := by decide +kernel
  rw [v64 h, z]
  show some (compare (FP.Core.signed false (FP.Core.inUnits c q (min q (-1074)))) (FP.Core.signed false (FP.Core.inUnits 0 (-1074) (min q (-1074))))) = _
  have s : ∀ n : Nat, FP.Core.signed false n = (n : Int) := fun n => rfl
  rw [s, s]
  unfold FP.Core.inUnits
  obtain ⟨⟨h1, h2⟩, -⟩ := h
  have p : 1 ≤ 2 ^ (q - min q (-1074)).toNat := Nat.one_le_two_pow
  have p2 : c * 1 ≤ c * 2 ^ (q - min q (-1074)).toNat := Nat.mul_le_mul_left _ p
  rw [Nat.zero_mul, cmp_gt (by omega)]
theorem dcs {c : Nat} {q : Int} (h : okc c q) : FP.dcmp (dD c q) (dD c q) = some .eq := by
  show FP.Core.order (FP.Core.val64 (dD c q)) (FP.Core.val64 (dD c q)) = _
  rw [v64 h]
  exact congrArg some cmp_eq
theorem iI_1 (z : Int) : iI z + nI 1 = iI (z + 1) := by rw [iI_n, iI_add]; rfl
theorem iI_m (z : Int) : iI z + (-1 : Int32) = iI (z - 1) := by
  rw [show (-1 : Int32) = iI (-1) by decide, iI_add]
  congr 1
theorem s_exp_8 {c : Nat} (hc : 2 ^ 52 ≤ c ∧ c < 2 ^ 53) (μ : Mm) : ∀ (n i : Nat) (q z : Int), n + i ≤ 1000 → q = -52 + n → m_Bi_exponentOf_8 (dD c q) (iI z) (nI i) μ = m_Bi_exponentOf_42 (dD c (-52)) (iI (z + n)) (nI 0) μ
  | 0, i, q, z, h, hq => by
    have ok : okc c q := ⟨hc, by omega, by omega⟩
    rw [e_Bi_exponentOf_8, bLt (by omega) (by omega), k2, dcm ok ok2, decide_eq_true (show q < -51 by omega), cond_true]
    congr 2 <;> first | omega | skip
  | n + 1, i, q, z, h, hq => by
    have ok : okc c q := ⟨hc, by omega, by omega⟩
    have ok' : okc c (q - 1) := ⟨hc, by omega, by omega⟩
    rw [e_Bi_exponentOf_8, bLt (by omega) (by omega), d_hlv ok (by omega), gd_h (n64D ok'), k2, dcm ok ok2, decide_eq_false (show ¬ q < -51 by omega), cond_false, iI_1, nI_p1, s_exp_8 hc μ n (i + 1) (q - 1) (z + 1) (by omega) (by omega), show z + 1 + (n : Int) = z + ((n + 1 : Nat) : Int) by omega]
theorem s_exp_8n {c : Nat} {q : Int} (h : okc c q) (hq : q < -51) (z : Int) (μ : Mm) : m_Bi_exponentOf_8 (dD c q) (iI z) (nI 0) μ = m_Bi_exponentOf_42 (dD c q) (iI z) (nI 0) μ := by
  rw [e_Bi_exponentOf_8, bLt (by omega) (by omega), k2, dcm h ok2, decide_eq_true hq, cond_true]
theorem s_exp_42 {c : Nat} (hc : 2 ^ 52 ≤ c ∧ c < 2 ^ 53) (μ : Mm) : ∀ (n i : Nat) (q z : Int), n + i ≤ 1000 → q = -52 - n → m_Bi_exponentOf_42 (dD c q) (iI z) (nI i) μ = some (some (.int (iI (z - n))), μ)
  | 0, i, q, z, h, hq => by
    have ok : okc c q := ⟨hc, by omega, by omega⟩
    rw [e_Bi_exponentOf_42, bLt (by omega) (by omega), k1, dcm ok ok1, decide_eq_false (show ¬ q < -52 by omega), cond_false, show z - ((0 : Nat) : Int) = z by omega]
  | n + 1, i, q, z, h, hq => by
    have ok : okc c q := ⟨hc, by omega, by omega⟩
    have ok' : okc c (q + 1) := ⟨hc, by omega, by omega⟩
    rw [e_Bi_exponentOf_42, bLt (by omega) (by omega), d_dbl ok (by omega), gd_h (n64D ok'), k1, dcm ok ok1, decide_eq_true (show q < -52 by omega), cond_true, iI_m, nI_p1, s_exp_42 hc μ n (i + 1) (q + 1) (z - 1) (by omega) (by omega), show z - 1 - (n : Int) = z - ((n + 1 : Nat) : Int) by omega]
/-- exponents as they come here -/
def okd (c : Nat) (q : Int) : Prop := (2 ^ 52 ≤ c ∧ c < 2 ^ 53) ∧ -900 ≤ q ∧ q ≤ 800
theorem okd.c {c : Nat} {q : Int} (h : okd c q) : okc c q := by unfold okd at h; unfold okc; omega
theorem s_expOf {c : Nat} {q : Int} (h : okd c q) (μ : Mm) : m_Bi_exponentOf (dD c q) μ = some (some (.int (iI (q + 52))), μ) := by
  obtain ⟨hc, h1, h2⟩ := h
  have ok : okc c q := ⟨hc, by omega, by omega⟩
  rw [e_Bi_exponentOf]
  by_cases hq : q < -51
  · rw [show m_Bi_exponentOf_8 (dD c q) (nI 0) (nI 0) μ = m_Bi_exponentOf_8 (dD c q) (iI 0) (nI 0) μ by rw [← iI_0], s_exp_8n ok hq, s_exp_42 hc μ (-52 - q).toNat 0 q 0 (by omega) (by omega), show (0 : Int) - ((-52 - q).toNat : Int) = q + 52 by omega]
  · have := s_exp_8 hc μ (q + 52).toNat 0 q 0 (by omega) (by omega)
    rw [← iI_0] at this
    rw [this, s_exp_42 hc μ 0 0 (-52) _ (by omega) (by omega), show (0 : Int) + ((q + 52).toNat : Int) - ((0 : Nat) : Int) = q + 52 by omega]
theorem s_sca_26 {c : Nat} (hc : 2 ^ 52 ≤ c ∧ c < 2 ^ 53) (μ : Mm) {E : Int} (hE : -900 ≤ E) : ∀ (n : Nat) (j q : Int), E = j - n → q = -52 - n → j ≤ 0 → m_Bi_scaled_26 (iI E) (dD c q) (iI j) μ = some (some (.double (dD c (-52))), μ)
  | 0, j, q, h1, h2, h3 => by
    rw [e_Bi_scaled_26, iI_lt (by omega) (by omega) (by omega) (by omega), decide_eq_false (show ¬ E < j by omega), cond_false, show q = -52 by omega]
  | n + 1, j, q, h1, h2, h3 => by
    have ok : okc c q := ⟨hc, by omega, by omega⟩
    have ok' : okc c (q + 1) := ⟨hc, by omega, by omega⟩
    rw [e_Bi_scaled_26, iI_lt (by omega) (by omega) (by omega) (by omega), decide_eq_true (show E < j by omega), cond_true, d_dbl ok (by omega), gd_h (n64D ok'), iI_m, s_sca_26 hc μ hE n (j - 1) (q + 1) (by omega) (by omega) (by omega)]
theorem s_sca_5 {c : Nat} (hc : 2 ^ 52 ≤ c ∧ c < 2 ^ 53) (μ : Mm) {E : Int} (hE : E ≤ 900) : ∀ (n i : Nat) (q : Int), E = i + n → q = -52 + n → m_Bi_scaled_5 (iI E) (dD c q) (nI i) μ = m_Bi_scaled_26 (iI E) (dD c (-52)) (nI 0) μ
  | 0, i, q, h1, h2 => by
    rw [e_Bi_scaled_5, iI_n i, iI_lt (by omega) (by omega) (by omega) (by omega), decide_eq_false (show ¬ (i : Int) < E by omega), cond_false, show q = -52 by omega]
  | n + 1, i, q, h1, h2 => by
    have ok : okc c q := ⟨hc, by omega, by omega⟩
    have ok' : okc c (q - 1) := ⟨hc, by omega, by omega⟩
    have := s_sca_5 hc μ hE n (i + 1) (q - 1) (by omega) (by omega)
    rw [e_Bi_scaled_5, nI_p1, d_hlv ok (by omega), gd_h (n64D ok'), this, iI_n i, iI_lt (by omega) (by omega) (by omega) (by omega), decide_eq_true (show (i : Int) < E by omega), cond_true]
theorem s_scaled {c : Nat} {q : Int} (h : okd c q) (μ : Mm) : m_Bi_scaled (dD c q) (iI (q + 52)) μ = some (some (.double (dD c (-52))), μ) := by
  obtain ⟨hc, h1, h2⟩ := h
  rw [e_Bi_scaled]
  by_cases hq : q + 52 < 0
  · rw [e_Bi_scaled_5, iI_0, iI_lt (by omega) (by omega) (by omega) (by omega), decide_eq_false (show ¬ (0 : Int) < q + 52 by omega), cond_false, s_sca_26 hc μ (by omega) (-52 - q).toNat 0 q (by omega) (by omega) (by omega)]
  · rw [s_sca_5 hc μ (by omega) (q + 52).toNat 0 q (by omega) (by omega), iI_0]
    rw [e_Bi_scaled_26, iI_lt (by omega) (by omega) (by omega) (by omega), decide_eq_false (show ¬ q + 52 < (0 : Int) by omega), cond_false]
/-- the fraction, times a power of 2, is a whole number -/
theorem frac {u s : Nat} (hs : s ≤ 52) (hu : u * 2 ^ s < 2 ^ 52) : ∃ C Q, FP.Core.val64 (FP.dmul (FP.dsub (dD (2 ^ 52 + u * 2 ^ s) (-52)) FP.dconst1) (dD (2 ^ 52) (-(s : Int)))) = .fin false C Q ∧ FP.Core.truncate false C Q = (u : Int) ∧ FP.Core.val64 (FP.dsub (dD (2 ^ 52 + u * 2 ^ s) (-52)) FP.dconst1) ≠ .nan := by
  have ok : okc (2 ^ 52 + u * 2 ^ s) (-52) := by unfold okc; omega
  have okm : okc (2 ^ 52) (-(s : Int)) := by unfold okc; omega
  have e1 : FP.Core.val64 (FP.dsub (dD (2 ^ 52 + u * 2 ^ s) (-52)) FP.dconst1) = FP.Core.round FP.Core.b64 (.fin false (u * 2 ^ s) (-52)) := by
    show FP.Core.val64 (FP.Core.dsub (dD (2 ^ 52 + u * 2 ^ s) (-52)) FP.dconst1) = _
    rw [FP.Core.val64_dsub, v64 ok, k1, v64 ok1]
    congr 1
    show FP.Core.Datum.fin (FP.Core.sumSign false true (FP.Core.sumUnits false (2 ^ 52 + u * 2 ^ s) (-52) true (2 ^ 52) (-52) (-52))) (FP.Core.sumUnits false (2 ^ 52 + u * 2 ^ s) (-52) true (2 ^ 52) (-52) (-52)).natAbs (-52) = _
    have ev : FP.Core.sumUnits false (2 ^ 52 + u * 2 ^ s) (-52) true (2 ^ 52) (-52) (-52) = ((u * 2 ^ s : Nat) : Int) := by
      show ((((2 ^ 52 + u * 2 ^ s) * 2 ^ 0 : Nat) : Int)) + -(((2 ^ 52 * 2 ^ 0 : Nat) : Int)) = _
      rw [Nat.pow_zero, Nat.mul_one, Nat.mul_one]
      omega
    rw [ev]
    have es : FP.Core.sumSign false true ((u * 2 ^ s : Nat) : Int) = false := by
      unfold FP.Core.sumSign
      split
      · rfl
      · exact decide_eq_false (by omega)
    rw [es, Int.natAbs_natCast]
  have e2 : FP.Core.val64 (FP.dmul (FP.dsub (dD (2 ^ 52 + u * 2 ^ s) (-52)) FP.dconst1) (dD (2 ^ 52) (-(s : Int)))) = FP.Core.round FP.Core.b64 (FP.Core.exactProduct (FP.Core.round FP.Core.b64 (.fin false (u * 2 ^ s) (-52))) (.fin false (2 ^ 52) (-(s : Int)))) := by
    show FP.Core.val64 (FP.Core.dmul _ _) = _
    rw [FP.Core.val64_dmul, e1, v64 okm]
  rw [e2, e1]
  by_cases hz : u = 0
  · subst hz
    have r0 : FP.Core.round FP.Core.b64 (.fin false (0 * 2 ^ s) (-52)) = .fin false 0 (-1074) := by
      rw [Nat.zero_mul]
      decide +kernel
    rw [r0]
    refine ⟨0, -1074, ?_, ?_, fun e => by cases e⟩
    · show FP.Core.roundRatio FP.Core.b64 false (0 * 2 ^ 52) 1 (-1074 + -(s : Int)) = _
      rw [Nat.zero_mul]
      unfold FP.Core.roundRatio
      rw [if_pos rfl, FP.Core.qmin_b64]
    · decide +kernel
  · obtain ⟨t, ht⟩ : ∃ t, u * 2 ^ s = t := ⟨_, rfl⟩
    have ht0 : 0 < t := by
      rw [← ht]
      exact Nat.mul_pos (by omega) (Nat.pow_pos (by omega))
    have l1 := Nat.log2_self_le (show t ≠ 0 by omega)
    have l2 := Nat.lt_log2_self (n := t)
    rw [ht] at hu
    have l3 : t.log2 < 52 := by
      apply Nat.lt_of_not_le
      intro hle
      have := Nat.pow_le_pow_right (n := 2) (by omega) hle
      omega
    obtain ⟨k, hk⟩ : ∃ k, k + t.log2 = 52 := ⟨52 - t.log2, by omega⟩
    have okt : ∀ q : Int, -1074 ≤ q → q ≤ 971 → okc (t * 2 ^ k) q := fun q q1 q2 => by
      refine ⟨⟨?_, ?_⟩, q1, q2⟩
      · rw [← hk, Nat.pow_add, Nat.mul_comm t]
        exact Nat.mul_le_mul_left _ l1
      · have : 2 ^ 53 = 2 ^ k * 2 ^ (t.log2 + 1) := by rw [← Nat.pow_add, ← Nat.add_assoc, hk]
        rw [this, Nat.mul_comm t]
        exact Nat.mul_lt_mul_of_pos_left l2 (Nat.pow_pos (by omega))
    have r1 : FP.Core.round FP.Core.b64 (.fin false t (-52)) = .fin false (t * 2 ^ k) (-52 - k) := by
      show FP.Core.roundRatio FP.Core.b64 false t 1 (-52) = _
      refine FP.Core.roundRatio_exact FP.Core.good_b64 (by decide) (fit64 (okt (-52 - k) (by omega) (by omega))) ?_
      rw [show (-52 - (-52 - (k : Int))).toNat = k by omega, show (-52 - (k : Int) - -52).toNat = 0 by omega, Nat.pow_zero, Nat.mul_one, Nat.mul_one]
    rw [ht, r1]
    refine ⟨t * 2 ^ k, -(s : Int) - k, ?_, ?_, fun e => by cases e⟩
    · show FP.Core.roundRatio FP.Core.b64 false (t * 2 ^ k * 2 ^ 52) 1 (-52 - (k : Int) + -(s : Int)) = _
      refine FP.Core.roundRatio_exact FP.Core.good_b64 (by decide) (fit64 (okt (-(s : Int) - k) (by omega) (by omega))) ?_
      rw [show (-52 - (k : Int) + -(s : Int) - (-(s : Int) - k)).toNat = 0 by omega, show (-(s : Int) - (k : Int) - (-52 - k + -(s : Int))).toNat = 52 by omega, Nat.pow_zero, Nat.mul_one, Nat.mul_one]
    · show (((t * 2 ^ k * 2 ^ (-(s : Int) - (k : Int)).toNat / 2 ^ (-(-(s : Int) - (k : Int))).toNat : Nat)) : Int) = _
      rw [show (-(s : Int) - (k : Int)).toNat = 0 by omega, show (-(-(s : Int) - (k : Int))).toNat = s + k by omega, Nat.pow_zero, Nat.mul_one, ← ht, Nat.mul_assoc, ← Nat.pow_add, Nat.mul_div_cancel _ (Nat.pow_pos (by omega))]
theorem toL_n {C : Nat} {Q : Int} {u : Nat} (h : FP.Core.truncate false C Q = (u : Int)) (hu : u < 2 ^ 63) : FP.Core.toL (.fin false C Q) = lN u := by
  show Int64.ofInt (max (-2 ^ 63) (min (2 ^ 63 - 1) (FP.Core.truncate false C Q))) = _
  rw [h, show max (-2 ^ 63) (min (2 ^ 63 - 1) (u : Int)) = (u : Int) by omega]
  exact Int64.ofInt_eq_ofNat
theorem toI_n {C : Nat} {Q : Int} {u : Nat} (h : FP.Core.truncate false C Q = (u : Int)) (hu : u < 2 ^ 31) : FP.Core.toI (.fin false C Q) = nI u := by
  show Int32.ofInt (max (-2 ^ 31) (min (2 ^ 31 - 1) (FP.Core.truncate false C Q))) = _
  rw [h, show max (-2 ^ 31) (min (2 ^ 31 - 1) (u : Int)) = (u : Int) by omega]
  exact Int32.ofInt_eq_ofNat
theorem kM : (4841369599423283200 : UInt64) = dD (2 ^ 52) (-((0 : Nat) : Int)) := by decide +kernel
theorem kF : (4710765210229538816 : UInt64) = dD (2 ^ 52) (-((29 : Nat) : Int)) := by decide +kernel
theorem u64_l (x : UInt64) : x.toInt64 = lN x.toNat := by
  apply Int64.toBitVec_inj.mp
  rw [lN_bv]
  show x.toBitVec = BitVec.ofNat 64 x.toBitVec.toNat
  rw [BitVec.ofNat_toNat, BitVec.setWidth_eq]
/-- a double's bits by arithmetic -/
theorem dcore {c : Nat} {q : Int} (h : okd c q) : n64 (FP.dsub (dD c (-52)) FP.dconst1) = true ∧ n64 (FP.dmul (FP.dsub (dD c (-52)) FP.dconst1) (4841369599423283200 : UInt64)) = true ∧ (iI (q + 52) + nI 1023).toInt64 <<< ((nI 52).toInt64 &&& 63) ||| FP.d2l (FP.dmul (FP.dsub (dD c (-52)) FP.dconst1) (4841369599423283200 : UInt64)) = (dD c q).toInt64 := by
  have ok := h.c
  obtain ⟨⟨hc1, hc2⟩, h1, h2⟩ := h
  obtain ⟨t, rfl⟩ : ∃ t, c = 2 ^ 52 + t * 2 ^ 0 := ⟨c - 2 ^ 52, by omega⟩
  have ht : t * 2 ^ 0 < 2 ^ 52 := by omega
  obtain ⟨C, Q, f1, f2, f3⟩ := frac (u := t) (s := 0) (by omega) ht
  have f4 : n64 (FP.dmul (FP.dsub (dD (2 ^ 52 + t * 2 ^ 0) (-52)) FP.dconst1) (dD (2 ^ 52) (-((0 : Nat) : Int)))) = true := n64_of (by rw [f1]; exact fun e => by cases e)
  have f5 : FP.d2l (FP.dmul (FP.dsub (dD (2 ^ 52 + t * 2 ^ 0) (-52)) FP.dconst1) (dD (2 ^ 52) (-((0 : Nat) : Int)))) = lN t := by
    show FP.Core.toL (FP.Core.val64 _) = _
    rw [f1]
    exact toL_n f2 (by omega)
  refine ⟨n64_of f3, by rw [kM]; exact f4, ?_⟩
  rw [kM, f5, iI_n 1023, iI_add, show q + 52 + ((1023 : Nat) : Int) = (((q + 1074).toNat + 1 : Nat) : Int) by omega, ← iI_n, nI_l (by omega), nI_l (by omega), and63 (by omega), lN_shl (by omega), lN_or, u64_l, nD ok, ← Nat.shiftLeft_add_eq_or_of_lt (by omega), Nat.shiftLeft_eq]
  exact congrArg lN (by omega)
theorem s_ofDouble {c : Nat} {q : Int} (h : okd c q) (μ : Mm) : m_Bi_ofDouble (dD c q) μ = some (some (.long (dD c q).toInt64), μ) := by
  obtain ⟨n1, n2, eb⟩ := dcore h
  rw [e_Bi_ofDouble, dcz h.c]
  show (bif decide ((1 : Int32) = nI 0) then _ else (bif decide ((1 : Int32) < nI 0) then _ else _)) = _
  rw [bf (by decide), bf (by decide), s_expOf h, cI_s, s_scaled h, cD_s, gd_h n1, gd_h n2, eb]
  exact bf (by decide)
theorem s_ofDoubleN {x : UInt64} {c : Nat} {q : Int} (hx : FP.dneg x = dD c q) (h : okd c q) (hl : FP.dcmp x FP.dconst0 = some .lt) (μ : Mm) : m_Bi_ofDouble x μ = some (some (.long ((dD c q).toInt64 ||| (-9223372036854775808 : Int64))), μ) := by
  obtain ⟨n1, n2, eb⟩ := dcore h
  rw [e_Bi_ofDouble, hl]
  show (bif decide ((-1 : Int32) = nI 0) then _ else (bif decide ((-1 : Int32) < nI 0) then _ else _)) = _
  rw [bf (by decide), bt (by decide), hx, s_expOf h, cI_s, s_scaled h, cD_s, gd_h n1, gd_h n2, eb]
  exact bt (by decide)
theorem s_ofDouble0 (μ : Mm) : m_Bi_ofDouble FP.dconst0 μ = some (some (.long (lN 0)), μ) := by
  rw [e_Bi_ofDouble]
  exact bt (by decide +kernel)
/-- the library's own -/
theorem s_dtl {x : UInt64} (h : FP.dcmp x x = some .eq) (μ : Mm) : m_jD_doubleToLongBits x μ = some (some (.long x.toInt64), μ) := by
  rw [e_jD_doubleToLongBits, e_jD_isNaN, h]
  show cI (bif decide ((0 : Int32) = nI 0) then _ else _) _ = _
  rw [bt (by decide), gd_h isb_0, cI_s]
  exact bt (by decide)
/-- a double that is 0 or of a middling size -/
def okP (x : UInt64) : Bool := match FP.Core.val64 x with
  | .fin false c q => (decide (2 ^ 52 ≤ c) && decide (c < 2 ^ 53)) && (decide (-900 ≤ q) && decide (q ≤ 800))
  | _ => false
theorem okP_d {x : UInt64} (h : okP x = true) : ∃ c q, okd c q ∧ x = dD c q := by
  unfold okP at h
  split at h
  · rename_i c q e
    obtain ⟨a, b⟩ := Bool.and_eq_true_iff.mp h
    obtain ⟨a1, a2⟩ := Bool.and_eq_true_iff.mp a
    obtain ⟨b1, b2⟩ := Bool.and_eq_true_iff.mp b
    exact ⟨c, q, ⟨⟨of_decide_eq_true a1, of_decide_eq_true a2⟩, of_decide_eq_true b1, of_decide_eq_true b2⟩, dD_of e⟩
  · cases h
def okB (x : UInt64) : Bool := decide (x = 0) || (okP x || ((okP (FP.dneg x) && decide (FP.dcmp x FP.dconst0 = some .lt)) && (decide (FP.dcmp x x = some .eq) && decide ((FP.dneg x).toInt64 ||| (-9223372036854775808 : Int64) = x.toInt64))))
theorem both_bits {x : UInt64} (h : okB x = true) (μ ν : Mm) : ∃ r : Int64, m_Bi_ofDouble x μ = some (some (.long r), μ) ∧ m_jD_doubleToLongBits x ν = some (some (.long r), ν) := by
  rcases (Bool.or_eq_true _ _).mp h with h | h
  · have e : x = FP.dconst0 := of_decide_eq_true h
    subst e
    exact ⟨lN 0, s_ofDouble0 μ, s_dtl (by decide +kernel) ν⟩
  · rcases (Bool.or_eq_true _ _).mp h with h | h
    · obtain ⟨c, q, ok, ex⟩ := okP_d h
      subst ex
      exact ⟨_, s_ofDouble ok μ, s_dtl (dcs ok.c) ν⟩
    · obtain ⟨a, b⟩ := Bool.and_eq_true_iff.mp h
      obtain ⟨a1, a2⟩ := Bool.and_eq_true_iff.mp a
      obtain ⟨b1, b2⟩ := Bool.and_eq_true_iff.mp b
      obtain ⟨c, q, ok, ex⟩ := okP_d a1
      have b2 := of_decide_eq_true b2
      rw [ex] at b2
      refine ⟨x.toInt64, ?_, s_dtl (of_decide_eq_true b1) ν⟩
      rw [s_ofDoubleN ex ok (of_decide_eq_true a2), b2]
/-- a float's bits by arithmetic -/
def okF (x : UInt32) : Bool := decide (x = 0) || (match FP.Core.val32 x with
  | .fin false c q => ((decide (2 ^ 23 ≤ c) && decide (c < 2 ^ 24)) && (decide (-140 ≤ q) && decide (q ≤ 100))) && ((decide (FP.fcmp x FP.fconst0 = some .gt) && decide (FP.fcmp x x = some .eq)) && decide ((iI (q + 23) + nI 127) <<< (nI 23 &&& 31) ||| nI (c - 2 ^ 23) = x.toInt32))
  | _ => false)
theorem both_bitsF {x : UInt32} (h : okF x = true) (μ ν : Mm) : ∃ r : Int32, m_Bi_ofFloat x μ = some (some (.int r), μ) ∧ m_jF_floatToIntBits x ν = some (some (.int r), ν) := by
  have lib : FP.fcmp x x = some .eq → m_jF_floatToIntBits x ν = some (some (.int x.toInt32), ν) := fun e => by
    rw [e_jF_floatToIntBits, e_jF_isNaN, e]
    show cI (bif decide ((0 : Int32) = nI 0) then _ else _) _ = _
    rw [bt (by decide), gd_h isb_0, cI_s]
    exact bt (by decide)
  rcases (Bool.or_eq_true _ _).mp h with h | h
  · have e : x = FP.fconst0 := of_decide_eq_true h
    subst e
    refine ⟨nI 0, ?_, lib (by decide +kernel)⟩
    rw [e_Bi_ofFloat]
    exact bf (by decide +kernel)
  · split at h
    · rename_i c q e
      obtain ⟨a, b⟩ := Bool.and_eq_true_iff.mp h
      obtain ⟨a, a'⟩ := Bool.and_eq_true_iff.mp a
      obtain ⟨a1, a2⟩ := Bool.and_eq_true_iff.mp a
      obtain ⟨a3, a4⟩ := Bool.and_eq_true_iff.mp a'
      obtain ⟨b, b3⟩ := Bool.and_eq_true_iff.mp b
      obtain ⟨b1, b2⟩ := Bool.and_eq_true_iff.mp b
      have a1 := of_decide_eq_true a1
      have a2 := of_decide_eq_true a2
      have a3 := of_decide_eq_true a3
      have a4 := of_decide_eq_true a4
      have b1 := of_decide_eq_true b1
      have b2 := of_decide_eq_true b2
      have b3 := of_decide_eq_true b3
      obtain ⟨u, rfl⟩ : ∃ u, c = 2 ^ 23 + u := ⟨c - 2 ^ 23, by omega⟩
      rw [Nat.add_sub_cancel_left] at b3
      have ok : okd (2 ^ 52 + u * 2 ^ 29) (q - 29) := by unfold okd; omega
      have ed : FP.f2d x = dD (2 ^ 52 + u * 2 ^ 29) (q - 29) := by
        have n : FP.Core.fIsNaN x = false := by
          show decide (FP.Core.val32 x = .nan) = false
          rw [e]
          rfl
        have e0 : FP.f2d x = FP.Core.f2d x := by
          unfold FP.f2d
          rw [n]
          rfl
        rw [e0]
        apply dD_of
        rw [FP.Core.val64_f2d, e]
        show FP.Core.roundRatio FP.Core.b64 false (2 ^ 23 + u) 1 q = _
        refine FP.Core.roundRatio_exact FP.Core.good_b64 (by decide) (fit64 ok.c) ?_
        rw [show (q - (q - 29)).toNat = 29 by omega, show (q - 29 - q).toNat = 0 by omega]
        omega
      obtain ⟨C, Q, f1, f2, f3⟩ := frac (u := u) (s := 29) (by omega) (by omega)
      have f4 : n64 (FP.dmul (FP.dsub (dD (2 ^ 52 + u * 2 ^ 29) (-52)) FP.dconst1) (dD (2 ^ 52) (-((29 : Nat) : Int)))) = true := n64_of (by rw [f1]; exact fun e => by cases e)
      have f5 : FP.d2i (FP.dmul (FP.dsub (dD (2 ^ 52 + u * 2 ^ 29) (-52)) FP.dconst1) (dD (2 ^ 52) (-((29 : Nat) : Int)))) = nI u := by
        show FP.Core.toI (FP.Core.val64 _) = _
        rw [f1]
        exact toI_n f2 (by omega)
      refine ⟨x.toInt32, ?_, lib b2⟩
      have hE : q - 29 + 52 = q + 23 := by omega
      have s1 := s_expOf ok μ
      have s2 := s_scaled ok μ
      rw [hE] at s1 s2
      rw [e_Bi_ofFloat, b1]
      show (bif decide (nI 0 < (1 : Int32)) then _ else _) = _
      rw [bt (by decide), ed, gd_h (n64D ok.c), s1, cI_s, s2, cD_s, gd_h (n64_of f3), kF, gd_h f4, f5, b3]
    · cases h
