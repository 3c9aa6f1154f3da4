/-! how many bits a long has: by the library, and one by one -/
theorem ushr {S e : Nat} (hS : S < 2 ^ 63) (he : e < 64) : ((lN S).toUInt64 >>> ((nI e).toInt64.toUInt64 &&& Int64.toUInt64 63)).toInt64 = lN (S >>> e) := by
  rw [nI_l (by omega)]
  apply Int64.toBitVec_inj.mp
  apply BitVec.eq_of_toNat_eq
  have h1 : (lN e).toUInt64 &&& Int64.toUInt64 63 = UInt64.ofNat e := by
    have : e < 64 := he
    revert e
    decide +kernel
  have h3 : S >>> e ≤ S := by
    rw [Nat.shiftRight_eq_div_pow]
    exact Nat.div_le_self _ _
  rw [h1]
  show ((lN S).toUInt64 >>> UInt64.ofNat e).toBitVec.toNat = (BitVec.ofNat 64 (S >>> e)).toNat
  rw [BitVec.toNat_ofNat, Nat.mod_eq_of_lt (show S >>> e < 2 ^ 64 by omega)]
  show ((lN S).toUInt64 >>> UInt64.ofNat e).toNat = _
  rw [UInt64.toNat_shiftRight]
  have h4 : (lN S).toUInt64.toNat = S := by
    show (BitVec.ofNat 64 S).toNat = S
    rw [BitVec.toNat_ofNat, Nat.mod_eq_of_lt (by omega)]
  have h5 : (UInt64.ofNat e).toNat = e := by
    show (BitVec.ofNat 64 e).toNat = e
    rw [BitVec.toNat_ofNat, Nat.mod_eq_of_lt (by omega)]
  rw [h4, h5, Nat.mod_eq_of_lt he]
/-- masks of n bytes -/
def rpB (m : Nat) : Nat → Nat
  | 0 => 0
  | n + 1 => m + 256 * rpB m n
def q1 (n S : Nat) : Nat := S - ((S >>> 1) &&& rpB 85 n)
def q2 (n S : Nat) : Nat := (q1 n S &&& rpB 51 n) + ((q1 n S >>> 2) &&& rpB 51 n)
def q3 (n S : Nat) : Nat := (q2 n S + (q2 n S >>> 4)) &&& rpB 15 n
theorem andB {a m y M : Nat} (ha : a < 256) (hm : m < 256) : (a + 256 * y) &&& (m + 256 * M) = (a &&& m) + 256 * (y &&& M) := by
  apply Nat.eq_of_testBit_eq
  intro i
  have h : a &&& m < 2 ^ 8 := Nat.lt_of_le_of_lt Nat.and_le_left (by omega)
  rw [Nat.testBit_and, Nat.add_comm a, Nat.add_comm m, Nat.add_comm (a &&& m), show (256 : Nat) = 2 ^ 8 from rfl, Nat.testBit_two_pow_mul_add _ (by omega), Nat.testBit_two_pow_mul_add _ (by omega), Nat.testBit_two_pow_mul_add _ h]
  by_cases q : i < 8
  · rw [if_pos q, if_pos q, if_pos q, Nat.testBit_and]
  · rw [if_neg q, if_neg q, if_neg q, Nat.testBit_and]
theorem shrB {a y k : Nat} (ha : a < 256) (hk : k ≤ 8) : (a + 256 * y) >>> k = ((a >>> k) + 2 ^ (8 - k) * (y % 2 ^ k)) + 256 * (y >>> k) := by
  rw [Nat.shiftRight_eq_div_pow, Nat.shiftRight_eq_div_pow, Nat.shiftRight_eq_div_pow]
  have e : (256 : Nat) = 2 ^ k * 2 ^ (8 - k) := by
    rw [← Nat.pow_add, show k + (8 - k) = 8 by omega]
  have hp : 0 < 2 ^ k := Nat.pow_pos (by omega)
  have e1 : a + 256 * y = a + 2 ^ k * (2 ^ (8 - k) * y) := by rw [← Nat.mul_assoc, ← e]
  rw [e1, Nat.add_mul_div_left _ _ hp]
  have e2 : 2 ^ (8 - k) * y = 2 ^ (8 - k) * (y % 2 ^ k) + 256 * (y / 2 ^ k) := by
    have := Nat.div_add_mod y (2 ^ k)
    have e3 : 256 * (y / 2 ^ k) = 2 ^ (8 - k) * (2 ^ k * (y / 2 ^ k)) := by
      rw [← Nat.mul_assoc, Nat.mul_comm (2 ^ (8 - k)), ← e]
    rw [e3, ← Nat.mul_add, Nat.add_comm (y % 2 ^ k), this]
  omega
/-- a byte's bits that come from the byte above are cut off by the mask -/
theorem lowB {a m k r : Nat} (ha : a < 256) (hk : k ≤ 8) (hm : m < 2 ^ (8 - k)) : ((a >>> k) + 2 ^ (8 - k) * r) &&& m = (a >>> k) &&& m := by
  have h1 : a >>> k < 2 ^ (8 - k) := by
    rw [Nat.shiftRight_eq_div_pow]
    apply Nat.div_lt_of_lt_mul
    rw [← Nat.pow_add, show k + (8 - k) = 8 by omega]
    exact ha
  apply Nat.eq_of_testBit_eq
  intro i
  rw [Nat.testBit_and, Nat.testBit_and, Nat.add_comm, Nat.testBit_two_pow_mul_add _ h1]
  by_cases q : i < 8 - k
  · rw [if_pos q]
  · rw [if_neg q, Nat.testBit_lt_two_pow (Nat.lt_of_lt_of_le hm (Nat.pow_le_pow_right (by omega) (by omega))), Bool.and_false, Bool.and_false]
theorem shmB {a y k m M : Nat} (ha : a < 256) (hk : k ≤ 8) (hm : m < 2 ^ (8 - k)) : ((a + 256 * y) >>> k) &&& (m + 256 * M) = ((a >>> k) &&& m) + 256 * ((y >>> k) &&& M) := by
  have h1 : a >>> k < 2 ^ (8 - k) := by
    rw [Nat.shiftRight_eq_div_pow]
    apply Nat.div_lt_of_lt_mul
    rw [← Nat.pow_add, show k + (8 - k) = 8 by omega]
    exact ha
  have h2 : y % 2 ^ k < 2 ^ k := Nat.mod_lt _ (Nat.pow_pos (by omega))
  have e : 2 ^ (8 - k) * 2 ^ k = 256 := by rw [← Nat.pow_add, show 8 - k + k = 8 by omega]
  have h3 : 2 ^ (8 - k) * (y % 2 ^ k) ≤ 2 ^ (8 - k) * (2 ^ k - 1) := Nat.mul_le_mul_left _ (by omega)
  have h4 : 2 ^ (8 - k) * (2 ^ k - 1) = 256 - 2 ^ (8 - k) := by rw [Nat.mul_sub, e, Nat.mul_one]
  have h5 : 2 ^ (8 - k) ≤ 2 ^ 8 := Nat.pow_le_pow_right (by omega) (by omega)
  rw [shrB ha hk, andB (by omega) (by omega), lowB ha hk hm]
def b1 (a : Nat) : Nat := a - ((a >>> 1) &&& 85)
def b2 (a : Nat) : Nat := (b1 a &&& 51) + ((b1 a >>> 2) &&& 51)
def b3 (a : Nat) : Nat := (b2 a + (b2 a >>> 4)) &&& 15
def pcF : Nat → Nat → Nat
  | 0, _ => 0
  | n + 1, S => S % 2 + pcF n (S / 2)
theorem byte_ok : ∀ a, a < 256 → ((a >>> 1) &&& 85 ≤ a ∧ b1 a < 256 ∧ b2 a % 16 ≤ 4 ∧ b2 a + (b2 a >>> 4) + 64 < 256) ∧ b3 a = pcF 8 a := by decide +kernel
theorem q1_le (n S : Nat) : (S >>> 1) &&& rpB 85 n ≤ S := Nat.le_trans Nat.and_le_left (by rw [Nat.shiftRight_eq_div_pow]; exact Nat.div_le_self _ _)
theorem q2_s {n a y : Nat} (ha : a < 256) : q2 (n + 1) (a + 256 * y) = b2 a + 256 * q2 n y := by
  obtain ⟨⟨p1, p2, p3, p4⟩, p5⟩ := byte_ok a ha
  have e1 : q1 (n + 1) (a + 256 * y) = b1 a + 256 * q1 n y := by
    have hq := q1_le n y
    show a + 256 * y - (((a + 256 * y) >>> 1) &&& (85 + 256 * rpB 85 n)) = (a - ((a >>> 1) &&& 85)) + 256 * (y - ((y >>> 1) &&& rpB 85 n))
    rw [shmB ha (by omega) (by omega), Nat.mul_sub]
    omega
  show (q1 (n + 1) (a + 256 * y) &&& (51 + 256 * rpB 51 n)) + ((q1 (n + 1) (a + 256 * y) >>> 2) &&& (51 + 256 * rpB 51 n)) = ((b1 a &&& 51) + ((b1 a >>> 2) &&& 51)) + 256 * ((q1 n y &&& rpB 51 n) + ((q1 n y >>> 2) &&& rpB 51 n))
  rw [e1, andB p2 (by omega), shmB p2 (by omega) (by omega), Nat.mul_add]
  omega
theorem q2_m (n y : Nat) : q2 n y % 16 ≤ 4 := by
  cases n with
  | zero =>
    show ((q1 0 y &&& 0) + ((q1 0 y >>> 2) &&& 0)) % 16 ≤ 4
    rw [Nat.and_zero, Nat.and_zero]
    omega
  | succ n =>
    have h := q2_s (n := n) (a := y % 256) (y := y / 256) (Nat.mod_lt _ (by omega))
    rw [show y % 256 + 256 * (y / 256) = y by omega] at h
    have := (byte_ok (y % 256) (Nat.mod_lt _ (by omega))).1.2.2.1
    rw [h]
    omega
theorem q3_s {n a y : Nat} (ha : a < 256) : q3 (n + 1) (a + 256 * y) = pcF 8 a + 256 * q3 n y := by
  obtain ⟨⟨p1, p2, p3, p4⟩, p5⟩ := byte_ok a ha
  have hm := q2_m n y
  show (q2 (n + 1) (a + 256 * y) + (q2 (n + 1) (a + 256 * y) >>> 4)) &&& (15 + 256 * rpB 15 n) = pcF 8 a + 256 * ((q2 n y + (q2 n y >>> 4)) &&& rpB 15 n)
  have e3 : q2 (n + 1) (a + 256 * y) + (q2 (n + 1) (a + 256 * y) >>> 4) = (b2 a + (b2 a >>> 4) + 16 * (q2 n y % 16)) + 256 * (q2 n y + (q2 n y >>> 4)) := by
    rw [q2_s ha, shrB (by omega) (by omega), Nat.mul_add, show (2 : Nat) ^ (8 - 4) = 16 from rfl]
    omega
  have c : ((b2 a + (b2 a >>> 4)) + 16 * (q2 n y % 16)) &&& 15 = b3 a := by
    unfold b3
    rw [show (15 : Nat) = 2 ^ 4 - 1 from rfl, Nat.and_two_pow_sub_one_eq_mod, Nat.and_two_pow_sub_one_eq_mod, show (2 : Nat) ^ 4 = 16 from rfl, Nat.add_mul_mod_self_left]
  rw [e3, andB (by omega) (by omega), c, p5]
theorem pcF_byte (a y : Nat) : pcF 8 (a + 256 * y) = pcF 8 a := by
  show (a + 256 * y) % 2 + ((a + 256 * y) / 2 % 2 + ((a + 256 * y) / 2 / 2 % 2 + ((a + 256 * y) / 2 / 2 / 2 % 2 + ((a + 256 * y) / 2 / 2 / 2 / 2 % 2 + ((a + 256 * y) / 2 / 2 / 2 / 2 / 2 % 2 + ((a + 256 * y) / 2 / 2 / 2 / 2 / 2 / 2 % 2 + ((a + 256 * y) / 2 / 2 / 2 / 2 / 2 / 2 / 2 % 2 + 0))))))) = a % 2 + (a / 2 % 2 + (a / 2 / 2 % 2 + (a / 2 / 2 / 2 % 2 + (a / 2 / 2 / 2 / 2 % 2 + (a / 2 / 2 / 2 / 2 / 2 % 2 + (a / 2 / 2 / 2 / 2 / 2 / 2 % 2 + (a / 2 / 2 / 2 / 2 / 2 / 2 / 2 % 2 + 0)))))))
  omega
theorem pcF_add : ∀ m n S, pcF (m + n) S = pcF m S + pcF n (S / 2 ^ m)
  | 0, n, S => by
    rw [Nat.zero_add, Nat.pow_zero, Nat.div_one]
    exact (Nat.zero_add _).symm
  | m + 1, n, S => by
    rw [show m + 1 + n = (m + n) + 1 by omega]
    show S % 2 + pcF (m + n) (S / 2) = (S % 2 + pcF m (S / 2)) + _
    rw [pcF_add m n, Nat.div_div_eq_div_mul, ← Nat.pow_succ', Nat.add_assoc]
theorem pc_le (S : Nat) : pcF 8 S ≤ 8 := by
  show S % 2 + (S / 2 % 2 + (S / 2 / 2 % 2 + (S / 2 / 2 / 2 % 2 + (S / 2 / 2 / 2 / 2 % 2 + (S / 2 / 2 / 2 / 2 / 2 % 2 + (S / 2 / 2 / 2 / 2 / 2 / 2 % 2 + (S / 2 / 2 / 2 / 2 / 2 / 2 / 2 % 2 + 0))))))) ≤ 8
  omega
def q4 (S : Nat) : Nat := q3 8 S + (q3 8 S >>> 8)
def q5 (S : Nat) : Nat := q4 S + (q4 S >>> 16)
def q6 (S : Nat) : Nat := q5 S + (q5 S >>> 32)
theorem q_all {S : Nat} (hS : S < 2 ^ 32) : (q3 8 S < 2 ^ 32 ∧ q4 S < 2 ^ 33 ∧ q5 S < 2 ^ 34 ∧ q6 S < 2 ^ 35) ∧ q6 S % 128 = pcF 32 S := by
  obtain ⟨a, y, ha, rfl⟩ : ∃ a y, a < 256 ∧ S = a + 256 * y := ⟨S % 256, S / 256, by omega, by omega⟩
  obtain ⟨b, z, hb, rfl⟩ : ∃ b z, b < 256 ∧ y = b + 256 * z := ⟨y % 256, y / 256, by omega, by omega⟩
  obtain ⟨c, w, hc, rfl⟩ : ∃ c w, c < 256 ∧ z = c + 256 * w := ⟨z % 256, z / 256, by omega, by omega⟩
  have hw : w < 256 := by omega
  have e3 : q3 8 (a + 256 * (b + 256 * (c + 256 * w))) = pcF 8 a + 256 * (pcF 8 b + 256 * (pcF 8 c + 256 * pcF 8 w)) := by
    rw [q3_s ha, q3_s hb, q3_s hc]
    have := q3_s (n := 4) (a := w) (y := 0) hw
    rw [show w + 256 * 0 = w by omega] at this
    rw [this, show q3 4 0 = 0 by decide +kernel]
    omega
  have ep : pcF 32 (a + 256 * (b + 256 * (c + 256 * w))) = pcF 8 a + (pcF 8 b + (pcF 8 c + pcF 8 w)) := by
    rw [show (32 : Nat) = 8 + (8 + (8 + 8)) from rfl, pcF_add, pcF_add, pcF_add, pcF_byte, show (2 : Nat) ^ 8 = 256 from rfl, show (a + 256 * (b + 256 * (c + 256 * w))) / 256 = b + 256 * (c + 256 * w) by omega, pcF_byte, show (b + 256 * (c + 256 * w)) / 256 = c + 256 * w by omega, pcF_byte, show (c + 256 * w) / 256 = w by omega]
  have ha1 := pc_le a
  have hb1 := pc_le b
  have hc1 := pc_le c
  have hw1 := pc_le w
  rw [ep]
  unfold q6 q5 q4
  rw [e3]
  generalize pcF 8 a = A at *
  generalize pcF 8 b = B at *
  generalize pcF 8 c = C at *
  generalize pcF 8 w = W at *
  rw [Nat.shiftRight_eq_div_pow, Nat.shiftRight_eq_div_pow, Nat.shiftRight_eq_div_pow, show (2 : Nat) ^ 8 = 256 from rfl, show (2 : Nat) ^ 16 = 65536 from rfl, show (2 : Nat) ^ 32 = 4294967296 from rfl]
  have w1 : (A + 256 * (B + 256 * (C + 256 * W))) / 256 = B + 256 * (C + 256 * W) := by omega
  rw [w1]
  have w2 : (A + 256 * (B + 256 * (C + 256 * W)) + (B + 256 * (C + 256 * W))) / 65536 = C + W + 256 * W := by omega
  rw [w2]
  have w3 : (A + 256 * (B + 256 * (C + 256 * W)) + (B + 256 * (C + 256 * W)) + (C + W + 256 * W)) / 4294967296 = 0 := by omega
  rw [w3]
  constructor
  · refine ⟨?_, ?_, ?_, ?_⟩ <;> omega
  · omega
theorem rp85 : rpB 85 8 = 6148914691236517205 := by decide
theorem rp51 : rpB 51 8 = 3689348814741910323 := by decide
theorem rp15 : rpB 15 8 = 1085102592571150095 := by decide
theorem and_lt {a b n : Nat} (h : a < n) : a &&& b < n := Nat.lt_of_le_of_lt Nat.and_le_left h
theorem shr_lt {a k n : Nat} (h : a < n) : a >>> k < n := Nat.lt_of_le_of_lt (by rw [Nat.shiftRight_eq_div_pow]; exact Nat.div_le_self _ _) h
theorem s_bitCount {S : Nat} (hS : S < 2 ^ 32) (μ : Mm) : m_jL_bitCount (lN S) μ = some (some (.int (nI (pcF 32 S))), μ) := by
  obtain ⟨⟨h3, h4, h5, h6⟩, h7⟩ := q_all hS
  have i1 : q1 8 S < 2 ^ 32 := Nat.lt_of_le_of_lt (Nat.sub_le _ _) hS
  have i2 : q2 8 S < 2 ^ 33 := by
    have a := and_lt (b := rpB 51 8) i1
    have b := and_lt (b := rpB 51 8) (shr_lt (k := 2) i1)
    unfold q2
    omega
  rw [e_jL_bitCount]
  have u1 : lN S - (((lN S).toUInt64 >>> ((nI 1).toInt64.toUInt64 &&& Int64.toUInt64 63)).toInt64 &&& lN 6148914691236517205) = lN (q1 8 S) := by
    rw [ushr (by omega) (by omega), ← rp85, lN_and, lN_subA (q1_le 8 S)]
    rfl
  have u2 : (lN (q1 8 S) &&& lN 3689348814741910323) + (((lN (q1 8 S)).toUInt64 >>> ((nI 2).toInt64.toUInt64 &&& Int64.toUInt64 63)).toInt64 &&& lN 3689348814741910323) = lN (q2 8 S) := by
    rw [ushr (by omega) (by omega), ← rp51, lN_and, lN_and, lN_add]
    rfl
  have u3 : (lN (q2 8 S) + ((lN (q2 8 S)).toUInt64 >>> ((nI 4).toInt64.toUInt64 &&& Int64.toUInt64 63)).toInt64) &&& lN 1085102592571150095 = lN (q3 8 S) := by
    rw [ushr (by omega) (by omega), ← rp15, lN_add, lN_and]
    rfl
  have u4 : lN (q3 8 S) + ((lN (q3 8 S)).toUInt64 >>> ((nI 8).toInt64.toUInt64 &&& Int64.toUInt64 63)).toInt64 = lN (q4 S) := by
    rw [ushr (by omega) (by omega), lN_add]
    rfl
  have u5 : lN (q4 S) + ((lN (q4 S)).toUInt64 >>> ((nI 16).toInt64.toUInt64 &&& Int64.toUInt64 63)).toInt64 = lN (q5 S) := by
    rw [ushr (by omega) (by omega), lN_add]
    rfl
  have u6 : lN (q5 S) + ((lN (q5 S)).toUInt64 >>> ((nI 32).toInt64.toUInt64 &&& Int64.toUInt64 63)).toInt64 = lN (q6 S) := by
    rw [ushr (by omega) (by omega), lN_add]
    rfl
  have u7 : (lN (q6 S)).toInt32 &&& nI 127 = nI (pcF 32 S) := by
    rw [lN_i, ← h7]
    apply Int32.toBitVec_inj.mp
    rw [Int32.toBitVec_and]
    show BitVec.ofNat 32 (q6 S) &&& BitVec.ofNat 32 127 = BitVec.ofNat 32 (q6 S % 128)
    rw [← BitVec.ofNat_and, show (127 : Nat) = 2 ^ 7 - 1 from rfl, Nat.and_two_pow_sub_one_eq_mod]
  rw [u1, u2, u3, u4, u5, u6, u7]
