/-! types of subgroups and of their cosets, both sides; told -/
def pwTab : List Nat := [0x0,
  0x20,
  0x100400000000000000000000000000000000000018820,
  0x18820,
  0x20080200800000000000000000000000000000003104031040000000000000000000000000000000398a418820,
  0x1004010040000000000000000000000000000000398a418820,
  0x398a418820,
  0x4010040100401004010000000000000000000000620806208062080620800000000000000000000073148310407314831040000000000000000000007b9ac5a928398a418820,
  0x200802008020080200800000000000000000000031040310403104031040000000000000000000007b9ac5a928398a418820,
  0x52148100405214810040000000000000000000007b9ac5a928398a418820,
  0x10040100401004010040000000000000000000007b9ac5a928398a418820,
  0x7b9ac5a928398a418820,
  0x8020080200802008020080200802008020080200c4100c4100c4100c4100c4100c4100c4100c4100e629062080e629062080e629062080e629062080f7358b52507314831040f7358b52507314831040ffbbcdeb38bdab49ca307b9ac5a928398a418820,
  0x401004010040100401004010040100401004010062080620806208062080620806208062080620807314831040731483104073148310407314831040ffbbcdeb38bdab49ca307b9ac5a928398a418820,
  0x2008020080200802008020080200802008020080b5250b52503104031040b5250b52503104031040ffbbcdeb38bdab49ca307b9ac5a928398a418820,
  0x20080200802008020080200802008020080200803104031040310403104031040310403104031040ffbbcdeb38bdab49ca307b9ac5a928398a418820,
  0x5214810040521481004052148100405214810040ffbbcdeb38bdab49ca307b9ac5a928398a418820,
  0x1004010040100401004010040100401004010040ffbbcdeb38bdab49ca307b9ac5a928398a418820,
  0xffbbcdeb38bdab49ca307b9ac5a928398a418820,
  0x0,
  0x820,
  0x6180c301860000000000000000000000000000008398a418820,
  0x8398a418820,
  0x492092412482490492092412482490492000000062b27b1261831593d8930c18ac9ec498600000006b38bdab49ca307b9ac5a928398a418820,
  0x186030c06180c30186030c06180c3018600000006b38bdab49ca307b9ac5a928398a418820,
  0x6b38bdab49ca307b9ac5a928398a418820,
  0x0,
  0x418820,
  0x147a8a0a3d45051ea2828f514147a8a00000000018bdab49ca307b9ac5a928398a418820,
  0x18bdab49ca307b9ac5a928398a418820,
  0x0,
  0x18a418820]
/-- an element, the prime to the i times -/
def pwG (g i a : Nat) : Nat := (pwTab.getD g 0 >>> (5 * (32 * i + a))) % 32
theorem pw_ok : ∀ g, g < 32 → ∀ i, i < 6 → ∀ a, a < nG g → (asG g 0 a (pG g ^ i) = pwG g i a ∧ pwG g i a < nG g) := by decide +kernel
theorem pw_1 {g a : Nat} (hg : g < 32) (ha : a < nG g) : raG g a = pwG g 1 a := by
  have h := (pw_ok g hg 1 (by omega) a ha).1
  rw [Nat.pow_one] at h
  exact h
theorem pcF_le : ∀ n S, pcF n S ≤ n
  | 0, _ => Nat.le_refl 0
  | n + 1, S => by
    show S % 2 + pcF n (S / 2) ≤ n + 1
    have := pcF_le n (S / 2)
    omega
/-- what comes into a set, the prime times -/
def brF (g K : Nat) : Nat → Nat → Nat → Nat
  | 0, _, acc => acc
  | f + 1, a, acc => brF g K f (a + 1) (if K.testBit (pwG g 1 a) then acc ||| (1 <<< a) else acc)
def brN (g K : Nat) : Nat := brF g K (nG g) 0 0
def exF (p : Nat) : Nat → Nat → Nat → Nat
  | 0, _, c => c
  | f + 1, r, c => if 1 < r then exF p f (r / p) (c + 1) else c
def tbF (g L : Nat) : Nat → Nat → Nat → Nat → Nat
  | 0, v, _, _ => v
  | f + 1, v, K, B => if L &&& (K ^^^ (2 ^ 64 - 1)) = 0 then v else tbF g L f (v * 10 + exF (pG g) 5 (if 0 < B then pcF 32 (L &&& brN g K) / B else 1) 0) (brN g K) (pcF 32 (L &&& brN g K))
def tbN (g L S : Nat) : Nat := tbF g L 5 0 S (pcF 32 S)
theorem tb_ok : ∀ g, g < 32 → ∀ i, i < lenG g → (tyG g i < 19 ∧ tbN g (LG g i) 1 = numN (trnN (tyG g i))) ∧ (coG g i < 19 ∧ tbN g (evN (nG g)) (LG g i) = numN (trnN (coG g i))) := by decide +kernel
theorem trn_inv : ∀ t, t < 19 → trnN (trnN t) = t ∧ trnN t < 19 := by decide +kernel
theorem s_find_n {u : Nat} (hu : u < 19) (μ : Mm) : m_Ty_find (nI (numN u)) μ = some (some (.int (nI u)), μ) := by
  have b := numN_lt u
  rcases s_Ty_find (nI (numN u)) μ with ⟨v, hv, e, h3⟩ | ⟨h3, -⟩
  · have a := numN_lt v
    have := numN_inj hu hv ((nI_eq (by omega) (by omega)).mp e)
    subst this
    exact h3
  · exact absurd rfl (h3 u hu)
theorem kil {L K : Nat} (hL : L < 2 ^ 32) : decide (lN L &&& (lN K ^^^ (-1 : Int64)) = lN 0) = decide (L &&& (K ^^^ (2 ^ 64 - 1)) = 0) := by
  rw [show (-1 : Int64) = lN (2 ^ 64 - 1) by decide, lN_xor, lN_and, lN_eqb (Nat.lt_of_le_of_lt Nat.and_le_left (by omega)) (by omega)]
section TYP
variable {g : Nat} {μ : Mm}
theorem brF_lt (hg : g < 32) {K : Nat} : ∀ (f a acc : Nat), a + f = nG g → acc < 2 ^ 32 → brF g K f a acc < 2 ^ 32
  | 0, a, acc, _, h => h
  | f + 1, a, acc, e, h => by
    have n2 := (g_1 g hg).2.2.1
    unfold brF
    split
    · exact brF_lt hg f (a + 1) _ (by omega) (or_bit h (by omega))
    · exact brF_lt hg f (a + 1) _ (by omega) h
theorem brN_lt (hg : g < 32) (K : Nat) : brN g K < 2 ^ 32 := brF_lt hg (nG g) 0 0 (by omega) (by omega)
theorem s_bro_5 (hg : g < 32) (hC : GC g μ) {K : Nat} (hK : K < 2 ^ 32) : ∀ (f a acc : Nat), a + f = nG g → m_Gr_broughtInto_5 (lN K) (lN acc) (nI a) μ = some (some (.long (lN (brF g K f a acc))), μ)
  | 0, a, acc, e => by
    have n2 := (g_1 g hg).2.2.1
    obtain rfl : a = nG g := by omega
    rw [e_Gr_broughtInto_5, hC.1.2.2.1, bLf (by omega) (by omega)]
    rfl
  | f + 1, a, acc, e => by
    have n2 := (g_1 g hg).2.2.1
    have hv := (pw_ok g hg 1 (by omega) a (by omega)).2
    unfold brF
    rw [e_Gr_broughtInto_5, hC.1.2.2.1, bLt (by omega) (by omega), bLt (by omega) (by omega), gi (by omega) (by omega), kl (by omega), hC.2.2.2 a (by omega), pw_1 hg (by omega), s_Gr_hasBit (by omega) (by omega), cI_s, b2i_n, nI_p1]
    by_cases q : K.testBit (pwG g 1 a) = true
    · rw [q, if_pos rfl, Bool.not_true, cond_false, nI_l (by omega), and63 (by omega), lN_shl (by omega), lN_or, s_bro_5 hg hC hK f (a + 1) _ (by omega)]
    · rw [Bool.not_eq_true] at q
      rw [q, if_neg (by decide), Bool.not_false, cond_true, s_bro_5 hg hC hK f (a + 1) _ (by omega)]
theorem s_brought (hg : g < 32) (hC : GC g μ) {K : Nat} (hK : K < 2 ^ 32) : m_Gr_broughtInto (lN K) μ = some (some (.long (lN (brN g K))), μ) := by
  rw [e_Gr_broughtInto, s_bro_5 hg hC hK (nG g) 0 0 (by omega)]
  rfl
theorem s_exp_7 {p : Nat} (h1 : 1 < p) (h2 : p < 2 ^ 31) (hp : μ.1 61 1 = nI p) : ∀ (f i r c : Nat), i + f = 5 → r < 2 ^ 31 → m_Gr_exponent_7 (nI r) (nI c) (nI i) μ = some (some (.int (nI (exF p f r c))), μ)
  | 0, i, r, c, e, hr => by
    obtain rfl : i = 5 := by omega
    rw [e_Gr_exponent_7, bLf (by omega) (by omega)]
    rfl
  | f + 1, i, r, c, e, hr => by
    unfold exF
    rw [e_Gr_exponent_7, bLt (by omega) (by omega)]
    by_cases q : 1 < r
    · rw [bLt q hr, if_pos q, hp, bLt h1 h2, gd_h (ne_nI (by omega) h2), nI_div hr h2, nI_p1, nI_p1, s_exp_7 h1 h2 hp f (i + 1) _ _ (by omega) (Nat.lt_of_le_of_lt (Nat.div_le_self _ _) hr)]
    · rw [bLf (by omega) (by omega), if_neg q]
theorem s_exponent (hg : g < 32) (hC : GC g μ) {r : Nat} (hr : r < 2 ^ 31) : m_Gr_exponent (nI r) μ = some (some (.int (nI (exF (pG g) 5 r 0))), μ) := by
  obtain ⟨⟨-, hp, -⟩, -⟩ := g_1 g hg
  rw [e_Gr_exponent, s_exp_7 (by omega) (by omega) hC.1.2.1 5 0 r 0 rfl hr]
theorem s_tb_15 (hg : g < 32) (hC : GC g μ) {L : Nat} (hL : L < 2 ^ 32) : ∀ (f i v K B : Nat), i + f = 6 → K < 2 ^ 32 → B < 2 ^ 31 → m_Gr_typeBetween_15 (lN L) (nI v) (lN K) (nI B) (nI i) μ = cI (m_Ty_find (nI (tbF g L f v K B)) μ) fun v2 μ1 => cI (m_Ty_turned v2 μ1) fun v4 μ3 => some (some (.int v4), μ3)
  | 0, i, v, K, B, e, hK, hB => by
    obtain rfl : i = 6 := by omega
    rw [e_Gr_typeBetween_15, bLt (by omega) (by omega)]
    rfl
  | f + 1, i, v, K, B, e, hK, hB => by
    have hb := brN_lt hg K
    have h2 : L &&& brN g K < 2 ^ 32 := Nat.lt_of_le_of_lt Nat.and_le_left hL
    have h3 := pcF_le 32 (L &&& brN g K)
    unfold tbF
    rw [e_Gr_typeBetween_15, bLf (by omega) (by omega), lgc_eq, kil hL]
    by_cases q : L &&& (K ^^^ (2 ^ 64 - 1)) = 0
    · rw [bt (decide_eq_true q), if_pos q]
    · rw [bf (decide_eq_false q), if_neg q, s_brought hg hC hK, cJ_s, lN_and, s_bitCount h2, cI_s]
      by_cases q2 : 0 < B
      · rw [bLt q2 hB, gd_h (ne_nI q2 hB), nI_div (by omega) hB, s_exponent hg hC (Nat.lt_of_le_of_lt (Nat.div_le_self _ _) (by omega)), cI_s, nI_mul, nI_add, nI_p1, if_pos q2, s_tb_15 hg hC hL f (i + 1) _ _ _ (by omega) hb (by omega)]
      · rw [bLf (by omega) (by omega), s_exponent hg hC (by omega), cI_s, nI_mul, nI_add, nI_p1, if_neg q2, s_tb_15 hg hC hL f (i + 1) _ _ _ (by omega) hb (by omega)]
theorem s_typeBetween (hg : g < 32) (hC : GC g μ) {L S T : Nat} (hL : L < 2 ^ 32) (hS : S < 2 ^ 32) (hT : T < 19) (ho : tbN g L S = numN (trnN T)) : m_Gr_typeBetween (lN L) (lN S) μ = some (some (.int (nI T)), μ) := by
  have h3 := pcF_le 32 S
  obtain ⟨i1, i2⟩ := trn_inv T hT
  rw [e_Gr_typeBetween, s_bitCount hS, cI_s, s_tb_15 hg hC hL 5 1 0 S _ (by omega) hS (by omega), show tbF g L 5 0 S (pcF 32 S) = tbN g L S from rfl, ho, s_find_n i2, cI_s, s_Ty_turned i2, cI_s, i1]
theorem s_typeOf (hg : g < 32) (hC : GC g μ) {i : Nat} (hi : i < lenG g) : m_Gr_typeBetween (lN (LG g i)) (lN 1) μ = some (some (.int (nI (tyG g i))), μ) := by
  obtain ⟨⟨a, b⟩, -⟩ := tb_ok g hg i hi
  exact s_typeBetween hg hC (lg_lt hg hi) (by omega) a b
theorem s_cotypeOf (hg : g < 32) (hC : GC g μ) {i : Nat} (hi : i < lenG g) : m_Gr_typeBetween (lN (evN (nG g))) (lN (LG g i)) μ = some (some (.int (nI (coG g i))), μ) := by
  obtain ⟨-, ⟨a, b⟩⟩ := tb_ok g hg i hi
  have h := pw_N hg
  exact s_typeBetween hg hC (by unfold evN; have := Nat.one_le_two_pow (n := nG g); omega) (lg_lt hg hi) a b
/-! .. the reference's -/
theorem s_everything (hg : g < 32) (hC : GC g μ) : m_Gr_everything μ = some (some (.long (lN (evN (nG g)))), μ) := by
  rw [e_Gr_everything, hC.1.2.2.1, ev_l (g_1 g hg).2.2.1]
end TYP
