/-! types of subgroups and of their cosets, both sides; told -/
def pwTab : List Nat := [0x0,
  0x20,
  0x100400000000000000000000000000000000000018820,
  0x18820,
  0x20080200800000000000000000000000000000003104031040000000000000000000000000000000398a418820,
  0x1004010040000000000000000000000000000000398a418820,
  0x398a418820,
  0x4010040100401004010000000000000000000000620806208062080620800000000000000000000073148310407314831040000000000000000000007b9ac5a928398a418820,
  0x200802008020080200800000000000000000000031040310403104031040000000000000000000007b9ac5a928398a418820,
  0x52148100405214810040000000000000000000007b9ac5a928398a418820,
  0x10040100401004010040000000000000000000007b9ac5a928398a418820,
  0x7b9ac5a928398a418820,
  0x8020080200802008020080200802008020080200c4100c4100c4100c4100c4100c4100c4100c4100e629062080e629062080e629062080e629062080f7358b52507314831040f7358b52507314831040ffbbcdeb38bdab49ca307b9ac5a928398a418820,
  0x401004010040100401004010040100401004010062080620806208062080620806208062080620807314831040731483104073148310407314831040ffbbcdeb38bdab49ca307b9ac5a928398a418820,
  0x2008020080200802008020080200802008020080b5250b52503104031040b5250b52503104031040ffbbcdeb38bdab49ca307b9ac5a928398a418820,
  0x20080200802008020080200802008020080200803104031040310403104031040310403104031040ffbbcdeb38bdab49ca307b9ac5a928398a418820,
  0x5214810040521481004052148100405214810040ffbbcdeb38bdab49ca307b9ac5a928398a418820,
  0x1004010040100401004010040100401004010040ffbbcdeb38bdab49ca307b9ac5a928398a418820,
  0xffbbcdeb38bdab49ca307b9ac5a928398a418820,
  0x0,
  0x820,
  0x6180c301860000000000000000000000000000008398a418820,
  0x8398a418820,
  0x492092412482490492092412482490492000000062b27b1261831593d8930c18ac9ec498600000006b38bdab49ca307b9ac5a928398a418820,
  0x186030c06180c30186030c06180c3018600000006b38bdab49ca307b9ac5a928398a418820,
  0x6b38bdab49ca307b9ac5a928398a418820,
  0x0,
  0x418820,
  0x147a8a0a3d45051ea2828f514147a8a00000000018bdab49ca307b9ac5a928398a418820,
  0x18bdab49ca307b9ac5a928398a418820,
  0x0,
  0x18a418820]
/-- an element, the prime to the i times -/
def pwG (g i a : Nat) : Nat := (pwTab.getD g 0 >>> (5 * (32 * i + a))) % 32
theorem pw_ok : ∀ g, g < 32 → ∀ i, i < 6 → ∀ a, a < nG g → (asG g 0 a (pG g ^ i) = pwG g i a ∧ pwG g i a < nG g) := by decide +kernel
theorem pw_1 {g a : Nat} (hg : g < 32) (ha : a < nG g) : raG g a = pwG g 1 a := by
  have h := (pw_ok g hg 1 (by omega) a ha).1
  rw [Nat.pow_one] at h
  exact h
theorem pkG_lt {g k : Nat} (hg : g < 32) (hk : k < 6) : pG g ^ k < 2 ^ 31 := by
  obtain ⟨⟨-, hp, -⟩, -⟩ := g_1 g hg
  have h1 : pG g ^ k ≤ 8 ^ k := Nat.pow_le_pow_left (by omega) _
  have h2 : 8 ^ k ≤ 8 ^ 5 := Nat.pow_le_pow_right (by omega) (by omega)
  omega
theorem pcF_le : ∀ n S, pcF n S ≤ n
  | 0, _ => Nat.le_refl 0
  | n + 1, S => by
    show S % 2 + pcF n (S / 2) ≤ n + 1
    have := pcF_le n (S / 2)
    omega
/-- what comes into a set, the prime times -/
def brF (g K : Nat) : Nat → Nat → Nat → Nat
  | 0, _, acc => acc
  | f + 1, a, acc => brF g K f (a + 1) (if K.testBit (pwG g 1 a) then acc ||| (1 <<< a) else acc)
def brN (g K : Nat) : Nat := brF g K (nG g) 0 0
def exF (p : Nat) : Nat → Nat → Nat → Nat
  | 0, _, c => c
  | f + 1, r, c => if 1 < r then exF p f (r / p) (c + 1) else c
def tbF (g L : Nat) : Nat → Nat → Nat → Nat → Nat
  | 0, v, _, _ => v
  | f + 1, v, K, B => if L &&& (K ^^^ (2 ^ 64 - 1)) = 0 then v else tbF g L f (v * 10 + exF (pG g) 5 (if 0 < B then pcF 32 (L &&& brN g K) / B else 1) 0) (brN g K) (pcF 32 (L &&& brN g K))
def tbN (g L S : Nat) : Nat := tbF g L 5 0 S (pcF 32 S)
theorem tb_ok : ∀ g, g < 32 → ∀ i, i < lenG g → (tyG g i < 19 ∧ tbN g (LG g i) 1 = numN (trnN (tyG g i))) ∧ (coG g i < 19 ∧ tbN g (evN (nG g)) (LG g i) = numN (trnN (coG g i))) := by decide +kernel
theorem trn_inv : ∀ t, t < 19 → trnN (trnN t) = t ∧ trnN t < 19 := by decide +kernel
/-- the reference's count -/
def nyF (g A S k : Nat) : Nat → Nat → Nat → Nat
  | 0, _, c => c
  | f + 1, e, c => nyF g A S k f (e + 1) (if A.testBit e then (if S.testBit (pwG g k e) then c + 1 else c) else c)
def ahN (g A S k : Nat) : Nat := if k = 0 then 1 else nyF g A S k (nG g) 0 0 / pcF 32 S
def htN (g A S k : Nat) : Nat := exF (pG g) 6 (ahN g A S k / ahN g A S (k - 1)) 0
def myB (g A S T : Nat) : Nat → Bool
  | 0 => true
  | j + 1 => (Nat.ble 1 (ahN g A S j) && Nat.beq (htN g A S (j + 1)) (colN T (j + 1))) && myB g A S T j
theorem myB_s {g A S T : Nat} : ∀ n, myB g A S T n = true → ∀ j, j < n → (1 ≤ ahN g A S j ∧ htN g A S (j + 1) = colN T (j + 1))
  | 0, _, j, hj => absurd hj (Nat.not_lt_zero j)
  | n + 1, h, j, hj => by
    obtain ⟨h1, h2⟩ := Bool.and_eq_true_iff.mp h
    obtain ⟨h3, h4⟩ := Bool.and_eq_true_iff.mp h1
    by_cases q : j = n
    · rw [q]
      exact ⟨Nat.le_of_ble_eq_true h3, Nat.eq_of_beq_eq_true h4⟩
    · exact myB_s n h2 j (by omega)
theorem my_A1 : ∀ g, g < 18 → ∀ i, i < lenG g → myB g (LG g i) 1 (tyG g i) 5 = true := by decide +kernel
theorem my_A2 : ∀ i, i < lenG 18 → myB 18 (LG 18 i) 1 (tyG 18 i) 5 = true := by decide +kernel
theorem my_A3 : ∀ h, h < 13 → ∀ i, i < lenG (h + 19) → myB (h + 19) (LG (h + 19) i) 1 (tyG (h + 19) i) 5 = true := by decide +kernel
theorem my_B1 : ∀ g, g < 17 → ∀ i, i < lenG g → myB g (evN (nG g)) (LG g i) (coG g i) 5 = true := by decide +kernel
theorem my_B2 : ∀ i, i < lenG 17 → myB 17 (evN (nG 17)) (LG 17 i) (coG 17 i) 5 = true := by decide +kernel
theorem my_B3 : ∀ i, i < 187 → myB 18 (evN (nG 18)) (LG 18 i) (coG 18 i) 5 = true := by decide +kernel
theorem my_B4 : ∀ i, i < 187 → myB 18 (evN (nG 18)) (LG 18 (i + 187)) (coG 18 (i + 187)) 5 = true := by decide +kernel
theorem my_B5 : ∀ h, h < 13 → ∀ i, i < lenG (h + 19) → myB (h + 19) (evN (nG (h + 19))) (LG (h + 19) i) (coG (h + 19) i) 5 = true := by decide +kernel
theorem my_C : ∀ g, g < 32 → ∀ i, i < lenG g → 1 ≤ q6 (LG g i) % 128 := by decide +kernel
theorem my_A (g : Nat) (hg : g < 32) (i : Nat) (hi : i < lenG g) : myB g (LG g i) 1 (tyG g i) 5 = true := by
  by_cases a : g < 18
  · exact my_A1 g a i hi
  · by_cases b : g = 18
    · subst b
      exact my_A2 i hi
    · obtain ⟨h, rfl⟩ : ∃ h, g = h + 19 := ⟨g - 19, by omega⟩
      exact my_A3 h (by omega) i hi
theorem my_B (g : Nat) (hg : g < 32) (i : Nat) (hi : i < lenG g) : myB g (evN (nG g)) (LG g i) (coG g i) 5 = true := by
  by_cases a : g < 17
  · exact my_B1 g a i hi
  · by_cases b : g = 17
    · subst b
      exact my_B2 i hi
    · by_cases c : g = 18
      · subst c
        have hl : lenG 18 = 374 := rfl
        rw [hl] at hi
        by_cases d : i < 187
        · exact my_B3 i d
        · obtain ⟨k, rfl⟩ : ∃ k, i = k + 187 := ⟨i - 187, by omega⟩
          exact my_B4 k (by omega)
      · obtain ⟨h, rfl⟩ : ∃ h, g = h + 19 := ⟨g - 19, by omega⟩
        exact my_B5 h (by omega) i hi
theorem my_ok (g : Nat) (hg : g < 32) (i : Nat) (hi : i < lenG g) : (∀ j, j < 5 → (1 ≤ ahN g (LG g i) 1 j ∧ htN g (LG g i) 1 (j + 1) = colN (tyG g i) (j + 1))) ∧ 1 ≤ pcF 32 (LG g i) ∧ ∀ j, j < 5 → (1 ≤ ahN g (evN (nG g)) (LG g i) j ∧ htN g (evN (nG g)) (LG g i) (j + 1) = colN (coG g i) (j + 1)) :=
  ⟨myB_s 5 (my_A g hg i hi), by rw [← (q_all (lg_lt hg hi)).2]; exact my_C g hg i hi, myB_s 5 (my_B g hg i hi)⟩
def eqF (t T : Nat) : Nat → Nat → Bool → Bool
  | 0, _, b => b
  | f + 1, i, b => eqF t T f (i + 1) (b && decide (colN t i = colN T i))
theorem eq_ok : ∀ t, t < 19 → ∀ T, T < 19 → eqF t T 5 1 true = decide (t = T) := by decide +kernel
theorem s_find_n {u : Nat} (hu : u < 19) (μ : Mm) : m_Ty_find (nI (numN u)) μ = some (some (.int (nI u)), μ) := by
  have b := numN_lt u
  rcases s_Ty_find (nI (numN u)) μ with ⟨v, hv, e, h3⟩ | ⟨h3, -⟩
  · have a := numN_lt v
    have := numN_inj hu hv ((nI_eq (by omega) (by omega)).mp e)
    subst this
    exact h3
  · exact absurd rfl (h3 u hu)
theorem kil {L K : Nat} (hL : L < 2 ^ 32) : decide (lN L &&& (lN K ^^^ (-1 : Int64)) = lN 0) = decide (L &&& (K ^^^ (2 ^ 64 - 1)) = 0) := by
  rw [show (-1 : Int64) = lN (2 ^ 64 - 1) by decide, lN_xor, lN_and, lN_eqb (Nat.lt_of_le_of_lt Nat.and_le_left (by omega)) (by omega)]
section TYP
variable {g : Nat} {μ : Mm}
theorem brF_lt (hg : g < 32) {K : Nat} : ∀ (f a acc : Nat), a + f = nG g → acc < 2 ^ 32 → brF g K f a acc < 2 ^ 32
  | 0, a, acc, _, h => h
  | f + 1, a, acc, e, h => by
    have n2 := (g_1 g hg).2.2.1
    unfold brF
    split
    · exact brF_lt hg f (a + 1) _ (by omega) (or_bit h (by omega))
    · exact brF_lt hg f (a + 1) _ (by omega) h
theorem brN_lt (hg : g < 32) (K : Nat) : brN g K < 2 ^ 32 := brF_lt hg (nG g) 0 0 (by omega) (by omega)
theorem s_bro_5 (hg : g < 32) (hC : GC g μ) {K : Nat} (hK : K < 2 ^ 32) : ∀ (f a acc : Nat), a + f = nG g → m_Gr_broughtInto_5 (lN K) (lN acc) (nI a) μ = some (some (.long (lN (brF g K f a acc))), μ)
  | 0, a, acc, e => by
    have n2 := (g_1 g hg).2.2.1
    obtain rfl : a = nG g := by omega
    rw [e_Gr_broughtInto_5, hC.1.2.2.1, bLf (by omega) (by omega)]
    rfl
  | f + 1, a, acc, e => by
    have n2 := (g_1 g hg).2.2.1
    have hv := (pw_ok g hg 1 (by omega) a (by omega)).2
    unfold brF
    rw [e_Gr_broughtInto_5, hC.1.2.2.1, bLt (by omega) (by omega), bLt (by omega) (by omega), gi (by omega) (by omega), kl (by omega), hC.2.2.2 a (by omega), pw_1 hg (by omega), s_Gr_hasBit (by omega) (by omega), cI_s, b2i_n, nI_p1]
    by_cases q : K.testBit (pwG g 1 a) = true
    · rw [q, if_pos rfl, Bool.not_true, cond_false, nI_l (by omega), and63 (by omega), lN_shl (by omega), lN_or, s_bro_5 hg hC hK f (a + 1) _ (by omega)]
    · rw [Bool.not_eq_true] at q
      rw [q, if_neg (by decide), Bool.not_false, cond_true, s_bro_5 hg hC hK f (a + 1) _ (by omega)]
theorem s_brought (hg : g < 32) (hC : GC g μ) {K : Nat} (hK : K < 2 ^ 32) : m_Gr_broughtInto (lN K) μ = some (some (.long (lN (brN g K))), μ) := by
  rw [e_Gr_broughtInto, s_bro_5 hg hC hK (nG g) 0 0 (by omega)]
  rfl
theorem s_exp_7 {p : Nat} (h1 : 1 < p) (h2 : p < 2 ^ 31) (hp : μ.1 61 1 = nI p) : ∀ (f i r c : Nat), i + f = 5 → r < 2 ^ 31 → m_Gr_exponent_7 (nI r) (nI c) (nI i) μ = some (some (.int (nI (exF p f r c))), μ)
  | 0, i, r, c, e, hr => by
    obtain rfl : i = 5 := by omega
    rw [e_Gr_exponent_7, bLf (by omega) (by omega)]
    rfl
  | f + 1, i, r, c, e, hr => by
    unfold exF
    rw [e_Gr_exponent_7, bLt (by omega) (by omega)]
    by_cases q : 1 < r
    · rw [bLt q hr, if_pos q, hp, bLt h1 h2, gd_h (ne_nI (by omega) h2), nI_div hr h2, nI_p1, nI_p1, s_exp_7 h1 h2 hp f (i + 1) _ _ (by omega) (Nat.lt_of_le_of_lt (Nat.div_le_self _ _) hr)]
    · rw [bLf (by omega) (by omega), if_neg q]
theorem s_exponent (hg : g < 32) (hC : GC g μ) {r : Nat} (hr : r < 2 ^ 31) : m_Gr_exponent (nI r) μ = some (some (.int (nI (exF (pG g) 5 r 0))), μ) := by
  obtain ⟨⟨-, hp, -⟩, -⟩ := g_1 g hg
  rw [e_Gr_exponent, s_exp_7 (by omega) (by omega) hC.1.2.1 5 0 r 0 rfl hr]
theorem s_tb_15 (hg : g < 32) (hC : GC g μ) {L : Nat} (hL : L < 2 ^ 32) : ∀ (f i v K B : Nat), i + f = 6 → K < 2 ^ 32 → B < 2 ^ 31 → m_Gr_typeBetween_15 (lN L) (nI v) (lN K) (nI B) (nI i) μ = cI (m_Ty_find (nI (tbF g L f v K B)) μ) fun v2 μ1 => cI (m_Ty_turned v2 μ1) fun v4 μ3 => some (some (.int v4), μ3)
  | 0, i, v, K, B, e, hK, hB => by
    obtain rfl : i = 6 := by omega
    rw [e_Gr_typeBetween_15, bLt (by omega) (by omega)]
    rfl
  | f + 1, i, v, K, B, e, hK, hB => by
    have hb := brN_lt hg K
    have h2 : L &&& brN g K < 2 ^ 32 := Nat.lt_of_le_of_lt Nat.and_le_left hL
    have h3 := pcF_le 32 (L &&& brN g K)
    unfold tbF
    rw [e_Gr_typeBetween_15, bLf (by omega) (by omega), lgc_eq, kil hL]
    by_cases q : L &&& (K ^^^ (2 ^ 64 - 1)) = 0
    · rw [bt (decide_eq_true q), if_pos q]
    · rw [bf (decide_eq_false q), if_neg q, s_brought hg hC hK, cJ_s, lN_and, s_bitCount h2, cI_s]
      by_cases q2 : 0 < B
      · rw [bLt q2 hB, gd_h (ne_nI q2 hB), nI_div (by omega) hB, s_exponent hg hC (Nat.lt_of_le_of_lt (Nat.div_le_self _ _) (by omega)), cI_s, nI_mul, nI_add, nI_p1, if_pos q2, s_tb_15 hg hC hL f (i + 1) _ _ _ (by omega) hb (by omega)]
      · rw [bLf (by omega) (by omega), s_exponent hg hC (by omega), cI_s, nI_mul, nI_add, nI_p1, if_neg q2, s_tb_15 hg hC hL f (i + 1) _ _ _ (by omega) hb (by omega)]
theorem s_typeBetween (hg : g < 32) (hC : GC g μ) {L S T : Nat} (hL : L < 2 ^ 32) (hS : S < 2 ^ 32) (hT : T < 19) (ho : tbN g L S = numN (trnN T)) : m_Gr_typeBetween (lN L) (lN S) μ = some (some (.int (nI T)), μ) := by
  have h3 := pcF_le 32 S
  obtain ⟨i1, i2⟩ := trn_inv T hT
  rw [e_Gr_typeBetween, s_bitCount hS, cI_s, s_tb_15 hg hC hL 5 1 0 S _ (by omega) hS (by omega), show tbF g L 5 0 S (pcF 32 S) = tbN g L S from rfl, ho, s_find_n i2, cI_s, s_Ty_turned i2, cI_s, i1]
theorem s_typeOf (hg : g < 32) (hC : GC g μ) {i : Nat} (hi : i < lenG g) : m_Gr_typeBetween (lN (LG g i)) (lN 1) μ = some (some (.int (nI (tyG g i))), μ) := by
  obtain ⟨⟨a, b⟩, -⟩ := tb_ok g hg i hi
  exact s_typeBetween hg hC (lg_lt hg hi) (by omega) a b
theorem s_cotypeOf (hg : g < 32) (hC : GC g μ) {i : Nat} (hi : i < lenG g) : m_Gr_typeBetween (lN (evN (nG g))) (lN (LG g i)) μ = some (some (.int (nI (coG g i))), μ) := by
  obtain ⟨-, ⟨a, b⟩⟩ := tb_ok g hg i hi
  have h := pw_N hg
  exact s_typeBetween hg hC (by unfold evN; have := Nat.one_le_two_pow (n := nG g); omega) (lg_lt hg hi) a b
/-! .. the reference's -/
theorem ln320 : lnI 320 = 6 := by decide
theorem nyF_le {A S k : Nat} : ∀ (f e c : Nat), nyF g A S k f e c ≤ c + f
  | 0, e, c => Nat.le_refl _
  | f + 1, e, c => by
    unfold nyF
    split
    · split
      · have := nyF_le (A := A) (S := S) (k := k) f (e + 1) (c + 1)
        omega
      · have := nyF_le (A := A) (S := S) (k := k) f (e + 1) c
        omega
    · have := nyF_le (A := A) (S := S) (k := k) f (e + 1) c
      omega
theorem s_ty_30 (hg : g < 32) (hM : GM g μ) {A S k : Nat} (hA : A < 2 ^ 32) (hS : S < 2 ^ 32) (hk : k < 6) (x5 x7 : Int32) : ∀ (f e c : Nat), e + f = nG g → m_Mo_typeBy_30 (lN A) (lN S) x5 320 x7 (nI k) (nI c) (nI e) μ = gd (!decide (x5 = 0)) (gd (inb (nI k) 6) (gd (!decide (x7 = 0)) (m_Mo_typeBy_107 (lN A) (lN S) x5 320 (nI k) (nI (nyF g A S k f e c) / x5) ((nI (nyF g A S k f e c) / x5) / x7) (sI μ 320 k (nI 0)))))
  | 0, e, c, h => by
    have n2 := (g_1 g hg).2.2.1
    obtain rfl : e = nG g := by omega
    rw [e_Mo_typeBy_30, hM.1.2.2.1, bLf (by omega) (by omega), ln320, kl (by omega)]
    rfl
  | f + 1, e, c, h => by
    have n2 := (g_1 g hg).2.2.1
    obtain ⟨p1, p2⟩ := pw_ok g hg k hk e (by omega)
    unfold nyF
    rw [e_Mo_typeBy_30, hM.1.2.2.1, bLt (by omega) (by omega), s_Mo_has (by omega) (by omega), cI_s, b2i_n, nI_p1, nI_p1, nI_add, Nat.add_zero]
    by_cases q : A.testBit e = true
    · rw [q, if_pos rfl, Bool.not_true, cond_false, hM.1.2.1, s_power (by omega), cI_s, s_addsN hg hM (by omega) (by omega) (pkG_lt hg hk), cI_s, p1, s_Mo_has (by omega) (by omega), cI_s, b2i_n]
      by_cases q2 : S.testBit (pwG g k e) = true
      · rw [q2, if_pos rfl, Bool.not_true, cond_false, s_ty_30 hg hM hA hS hk x5 x7 f (e + 1) _ (by omega)]
      · rw [Bool.not_eq_true] at q2
        rw [q2, if_neg (by decide), Bool.not_false, cond_true, s_ty_30 hg hM hA hS hk x5 x7 f (e + 1) _ (by omega)]
    · rw [Bool.not_eq_true] at q
      rw [q, if_neg (by decide), Bool.not_false, cond_true, s_ty_30 hg hM hA hS hk x5 x7 f (e + 1) _ (by omega)]
abbrev f320 (k : Nat) : Prop := k = 320
theorem s_ty_107 {p k : Nat} (h1 : 1 < p) (h2 : p < 2 ^ 31) (hk : k < 6) (x1 x3 : Int64) (x5 x9 : Int32) : ∀ (f v c : Nat) (μ : Mm), v < 2 ^ f → f < 10 → μ.1 306 15 = nI p → μ.1 320 k = nI c → ∃ μ', m_Mo_typeBy_107 x1 x3 x5 320 (nI k) x9 (nI v) μ = m_Mo_typeBy_18 x1 x3 x5 320 x9 (nI (k + 1)) μ' ∧ Fr f320 μ μ' ∧ μ'.1 320 k = nI (exF p f v c) ∧ ∀ j, j ≠ k → μ'.1 320 j = μ.1 320 j
  | 0, v, c, μ, hv, _, hp, hc => by
    refine ⟨μ, ?_, Fr.rf, hc, fun _ _ => rfl⟩
    rw [e_Mo_typeBy_107, bLf (by rw [Nat.pow_zero] at hv; omega) (by omega), nI_p1]
  | f + 1, v, c, μ, hv, hf, hp, hc => by
    have hv2 : v < 2 ^ 31 := Nat.lt_of_lt_of_le hv (Nat.pow_le_pow_right (by omega) (by omega))
    unfold exF
    by_cases q : 1 < v
    · have hd : v / p < 2 ^ f := by
        apply Nat.div_lt_of_lt_mul
        rw [Nat.pow_succ] at hv
        have : 2 * 2 ^ f ≤ p * 2 ^ f := Nat.mul_le_mul_right _ (by omega)
        omega
      have e1 : (sI μ 320 k (nI (c + 1))).1 306 15 = nI p := by rw [sI_o (by omega)]; exact hp
      obtain ⟨μ', k1, k2, k3, k4⟩ := s_ty_107 h1 h2 hk x1 x3 x5 x9 f (v / p) (c + 1) (sI μ 320 k (nI (c + 1))) hd (by omega) e1 (by rw [sI_s, up_s])
      refine ⟨μ', ?_, (Fr.sI (S := f320) rfl).t2 k2, ?_, fun j hj => ?_⟩
      · rw [e_Mo_typeBy_107, bLt q hv2, ln320, gi hk (by omega), gi hk (by omega), kl (by omega), hc, nI_p1, e1, gd_h (ne_nI (by omega) h2), nI_div hv2 h2, k1]
      · rw [k3, if_pos q]
      · rw [k4 j hj, sI_s, up_o hj]
    · refine ⟨μ, ?_, Fr.rf, ?_, fun _ _ => rfl⟩
      · rw [e_Mo_typeBy_107, bLf (by omega) (by omega), nI_p1]
      · rw [if_neg q, hc]
def HT (T : Nat) (μ : Mm) : Prop := ∀ j, 1 ≤ j → j < 6 → μ.1 320 j = nI (colN T j)
theorem s_ty_160 {t T : Nat} (ht : t < 19) (hTT : T < 19) (hT : MT μ) (h : HT T μ) : ∀ (f i : Nat) (b : Bool), i + f = 6 → 1 ≤ i → m_Mo_typeBy_160 320 (nI t) (nI (b2i b)) (nI i) μ = bif eqF t T f i b then some (some (.int (nI t)), μ) else m_Mo_typeBy_147 320 (nI (t + 1)) μ
  | 0, i, b, e, _ => by
    obtain rfl : i = 6 := by omega
    rw [e_Mo_typeBy_160, bLt (by omega) (by omega), b2i_n, nI_p1]
    unfold eqF
    cases b <;> rfl
  | f + 1, i, b, e, h1 => by
    have c1 := col_lt ht (i := i) (by omega)
    have c2 := col_lt hTT (i := i) (by omega)
    unfold eqF
    rw [e_Mo_typeBy_160, bLf (by omega) (by omega), b2i_n, nI_p1]
    cases b
    · rw [Bool.not_false, cond_true, Bool.false_and]
      exact s_ty_160 ht hTT hT h f (i + 1) false (by omega) (by omega)
    · rw [Bool.not_true, cond_false, Bool.true_and, s_Mo_column hT ht h1 (by omega), cI_s, ln320, gi (by omega) (by omega), kl (by omega), h i h1 (by omega), d_eq (by omega) (by omega)]
      by_cases q : colN t i = colN T i
      · rw [decide_eq_true q, cond_true]
        exact s_ty_160 ht hTT hT h f (i + 1) true (by omega) (by omega)
      · rw [decide_eq_false q, cond_false]
        exact s_ty_160 ht hTT hT h f (i + 1) false (by omega) (by omega)
theorem s_ty_147 {T : Nat} (hTT : T < 19) (hT : MT μ) (h : HT T μ) : ∀ (f t : Nat), t + f = T → m_Mo_typeBy_147 320 (nI t) μ = some (some (.int (nI T)), μ)
  | 0, t, e => by
    obtain rfl : t = T := by omega
    rw [e_Mo_typeBy_147, bLt hTT (by omega), show nI 1 = nI (b2i true) from rfl, show m_Mo_typeBy_160 320 (nI t) (nI (b2i true)) (nI (b2i true)) μ = m_Mo_typeBy_160 320 (nI t) (nI (b2i true)) (nI 1) μ from rfl, s_ty_160 hTT hTT hT h 5 1 true rfl (by omega), eq_ok t hTT t hTT, decide_eq_true rfl]
    rfl
  | f + 1, t, e => by
    rw [e_Mo_typeBy_147, bLt (by omega) (by omega), show nI 1 = nI (b2i true) from rfl, show m_Mo_typeBy_160 320 (nI t) (nI (b2i true)) (nI (b2i true)) μ = m_Mo_typeBy_160 320 (nI t) (nI (b2i true)) (nI 1) μ from rfl, s_ty_160 (by omega) hTT hT h 5 1 true rfl (by omega), eq_ok t (by omega) T hTT, decide_eq_false (by omega), cond_false]
    exact s_ty_147 hTT hT h f (t + 1) (by omega)
theorem ah_le (hg : g < 32) (A S k : Nat) : ahN g A S k ≤ 32 := by
  have n2 := (g_1 g hg).2.2.1
  unfold ahN
  split
  · omega
  · have h1 := nyF_le (g := g) (A := A) (S := S) (k := k) (nG g) 0 0
    have h2 := Nat.div_le_self (nyF g A S k (nG g) 0 0) (pcF 32 S)
    omega
theorem s_ty_18 (hg : g < 32) {A S T : Nat} (hA : A < 2 ^ 32) (hS : S < 2 ^ 32) (hTT : T < 19) (h1 : 1 ≤ pcF 32 S) (ho : ∀ j, j < 5 → 1 ≤ ahN g A S j ∧ htN g A S (j + 1) = colN T (j + 1)) : ∀ (f j : Nat) (μ : Mm), j + f = 5 → MT μ → GM g μ → (∀ i, 1 ≤ i → i < j + 1 → μ.1 320 i = nI (colN T i)) → ∃ μ', m_Mo_typeBy_18 (lN A) (lN S) (nI (pcF 32 S)) 320 (nI (ahN g A S j)) (nI (j + 1)) μ = some (some (.int (nI T)), μ') ∧ Fr f320 μ μ'
  | 0, j, μ, e, hT, hM, hh => by
    obtain rfl : j = 5 := by omega
    refine ⟨μ, ?_, Fr.rf⟩
    rw [e_Mo_typeBy_18, bLt (by omega) (by omega)]
    exact s_ty_147 hTT hT hh T 0 (by omega)
  | f + 1, j, μ, e, hT, hM, hh => by
    obtain ⟨⟨-, hp, -⟩, -⟩ := g_1 g hg
    obtain ⟨o1, o2⟩ := ho j (by omega)
    have a1 := ah_le hg A S j
    have a2 := ah_le hg A S (j + 1)
    have p1 := pcF_le 32 S
    have y1 := nyF_le (g := g) (A := A) (S := S) (k := j + 1) (nG g) 0 0
    have n2 := (g_1 g hg).2.2.1
    have ea : nyF g A S (j + 1) (nG g) 0 0 / pcF 32 S = ahN g A S (j + 1) := by unfold ahN; rw [if_neg (by omega)]
    have d1 := Nat.div_le_self (ahN g A S (j + 1)) (ahN g A S j)
    have F0 : Fr f320 μ (sI μ 320 (j + 1) (nI 0)) := Fr.sI rfl
    obtain ⟨μ1, k1, k2, k3, k4⟩ := s_ty_107 (p := pG g) (k := j + 1) (by omega) (by omega) (by omega) (lN A) (lN S) (nI (pcF 32 S)) (nI (ahN g A S (j + 1))) 6 (ahN g A S (j + 1) / ahN g A S j) 0 (sI μ 320 (j + 1) (nI 0)) (by omega) (by omega) (by rw [sI_o (by omega)]; exact hM.1.2.1) (by rw [sI_s, up_s])
    have F1 := F0.t2 k2
    obtain ⟨μ2, l1, l2⟩ := s_ty_18 hg hA hS hTT h1 ho f (j + 1) μ1 (by omega) (hT.fr F1 (by omega) (by omega) (by omega)) (hM.fr F1 (by omega) (by omega)) (fun i i1 i2 => by
      by_cases q : i = j + 1
      · rw [q, k3, ← o2]
        rfl
      · rw [k4 i q, sI_s, up_o q]
        exact hh i i1 (by omega))
    refine ⟨μ2, ?_, F1.t2 l2⟩
    rw [e_Mo_typeBy_18, bLf (by omega) (by omega), s_ty_30 hg hM hA hS (by omega) _ _ (nG g) 0 0 (by omega), gd_h (ne_nI h1 (by omega)), gi (by omega) (by omega), gd_h (ne_nI o1 (by omega)), nI_div (by omega) (by omega), ea, nI_div (by omega) (by omega), k1, l1]
theorem s_typeBy (hg : g < 32) {A S T : Nat} (hA : A < 2 ^ 32) (hS : S < 2 ^ 32) (hTT : T < 19) (h1 : 1 ≤ pcF 32 S) (ho : ∀ j, j < 5 → 1 ≤ ahN g A S j ∧ htN g A S (j + 1) = colN T (j + 1)) (hT : MT μ) (hM : GM g μ) : ∃ μ', m_Mo_typeBy (lN A) (lN S) μ = some (some (.int (nI T)), μ') ∧ Fr f320 μ μ' := by
  obtain ⟨μ', k1, k2⟩ := s_ty_18 hg hA hS hTT h1 ho 5 0 μ rfl hT hM (fun i a b => absurd a (by omega))
  refine ⟨μ', ?_, k2⟩
  rw [e_Mo_typeBy, s_Mo_bits (by omega), cI_s]
  exact k1
theorem s_byType (hg : g < 32) {i : Nat} (hi : i < lenG g) (hT : MT μ) (hM : GM g μ) : ∃ μ', m_Mo_typeBy (lN (LG g i)) (lN 1) μ = some (some (.int (nI (tyG g i))), μ') ∧ Fr f320 μ μ' :=
  s_typeBy hg (lg_lt hg hi) (by omega) (tb_ok g hg i hi).1.1 (by decide +kernel) (my_ok g hg i hi).1 hT hM
theorem s_byCo (hg : g < 32) {i : Nat} (hi : i < lenG g) (hT : MT μ) (hM : GM g μ) : ∃ μ', m_Mo_typeBy (lN (evN (nG g))) (lN (LG g i)) μ = some (some (.int (nI (coG g i))), μ') ∧ Fr f320 μ μ' :=
  have h := pw_N hg
  s_typeBy hg (by unfold evN; have := Nat.one_le_two_pow (n := nG g); omega) (lg_lt hg hi) (tb_ok g hg i hi).2.1 (my_ok g hg i hi).2.1 (my_ok g hg i hi).2.2 hT hM
theorem s_whole_ (hg : g < 32) (hM : GM g μ) : m_Mo_whole_ μ = some (some (.long (lN (evN (nG g)))), μ) := by
  rw [e_Mo_whole_, hM.1.2.2.1, ev_l (g_1 g hg).2.2.1]
theorem s_everything (hg : g < 32) (hC : GC g μ) : m_Gr_everything μ = some (some (.long (lN (evN (nG g)))), μ) := by
  rw [e_Gr_everything, hC.1.2.2.1, ev_l (g_1 g hg).2.2.1]
theorem Bg.mk320 {μ2 : Mm} (hG : GI g μ) {r : Int32} {f h : Mm → Option Rs} (h1 : f μ = some (some (.int r), μ)) (h2 : h μ = some (some (.int r), μ2)) (F : Fr f320 μ μ2) : Bg μ f h :=
  ⟨r, μ, μ2, g, h1, h2, hG.fr F (fun k a b => by omega) (by omega) (by omega) (by omega), F.w (fun k hk => by omega), fun i _ => by rw [(F 306 (by omega)).1]⟩
/-- promise 17: told -/
theorem both_told (hT : MT μ) (hG : GI g μ) (x : Int64) (y : Int32) : Bg μ (m_TI_told x y) (m_Mo_told x y) := by
  have hp := pw_N hG.1
  rcases both_isSet hG x with ⟨S, hS, rfl, x1, x2⟩ | ⟨x1, x2⟩
  · rcases i_cases y with hy | ⟨n, hn, rfl⟩
    · refine Bg.same hG (r := (-1 : Int32)) ?_ ?_
      · rw [e_TI_told, x1, cI_s, bf (by decide), bt (decide_eq_true hy)]
      · rw [e_Mo_told, x2, cI_s, bf (by decide), s_Mo_in, cI_s, l_lt _ _ (by omega), decide_eq_true hy, Bool.not_true, Bool.false_and]
        exact bt (by decide)
    · have dl : decide (nI n < nI 0) = false := nI_lt0 hn
      by_cases q : n ≤ 2
      · have dg : decide (nI 2 < nI n) = false := by rw [d_lt (by omega) hn]; exact decide_eq_false (by omega)
        have c0 : m_TI_told (lN S) (nI n) μ = bif decide (nI n = nI 2) then (cI (m_jL_bitCount (lN S) μ) fun v14 μ13 => some (some (.int v14), μ13)) else (cI (m_Gr_isSubgroup (lN S) μ) fun v4 μ3 => bif decide (v4 = nI 0) then (some (some (.int (-5 : Int32)), μ3)) else (bif decide (nI n = nI 0) then (cI (m_Gr_typeOf (lN S) μ3) fun v10 μ9 => cI (m_Ty_number v10 μ9) fun v12 μ11 => some (some (.int v12), μ11)) else (cI (m_Gr_cotypeOf (lN S) μ3) fun v6 μ5 => cI (m_Ty_number v6 μ5) fun v8 μ7 => some (some (.int v8), μ7)))) := by
          rw [e_TI_told, x1, cI_s, bf (by decide), bf dl, bf dg]
        have m0 : m_Mo_told (lN S) (nI n) μ = bif decide (nI n = nI 2) then (cI (m_Mo_bits (lN S) μ) fun v14 μ13 => some (some (.int v14), μ13)) else (bif decide (lg_cmp (lN S) (lN 0) = nI 0) then (some (some (.int (-5 : Int32)), μ)) else (cJ (m_Mo_spans (lN S) μ) fun v6 μ5 => bif decide (lg_cmp v6 (lN S) = nI 0) then (bif decide (nI n = nI 0) then (cI (m_Mo_typeBy (lN S) (lN 1) μ5) fun v12 μ11 => gd (inb v12 19) (some (some (.int (μ11.1 307 v12.toNatClampNeg)), μ11))) else (cJ (m_Mo_whole_ μ5) fun v8 μ7 => cI (m_Mo_typeBy v8 (lN S) μ7) fun v10 μ9 => gd (inb v10 19) (some (some (.int (μ9.1 307 v10.toNatClampNeg)), μ9)))) else (some (some (.int (-5 : Int32)), μ5)))) := by
          rw [e_Mo_told, x2, cI_s, bf (by decide), s_Mo_in, cI_s, l_lt _ _ (by omega), dl, l_gt _ _ (by omega), dg, Bool.not_false, Bool.true_and, bf (by decide)]
        by_cases q2 : n = 2
        · refine Bg.same hG (r := nI (pcF 32 S)) ?_ ?_
          · rw [c0, bEt q2, s_bitCount (by omega), cI_s]
          · rw [m0, bEt q2, s_Mo_bits (by omega), cI_s]
        · obtain ⟨s1, s2⟩ := s_spanOf hG.1 hG.2.1 (show S < 2 ^ 32 by omega)
          have s3 := s_spans hG.1 hG.2.2.1 (show S < 2 ^ 32 by omega)
          have s4 := lg_lt hG.1 s2
          rw [bEf q2 (by omega) (by omega), e_Gr_isSubgroup, s1, cJ_s, lgc_eq, lN_eqb (by omega) (by omega)] at c0
          rw [bEf q2 (by omega) (by omega), s3, cJ_s, lgc_eq, lgc_eq, lN_eqb (by omega) (by omega), lN_eqb (by omega) (by omega)] at m0
          by_cases q3 : LG g (spN g S) = S
          · obtain ⟨k, hk, e⟩ : ∃ k, k < lenG g ∧ S = LG g k := ⟨_, s2, q3.symm⟩
            have hz : ¬ S = 0 := fun z => by
              have := ((l_ok g hG.1).2 k hk).2
              rw [← e, z, Nat.zero_testBit] at this
              cases this
            obtain ⟨⟨t1, -⟩, ⟨t2, -⟩⟩ := tb_ok g hG.1 k hk
            rw [bt (decide_eq_true q3), gd_h isb_1, cI_s, bf (by decide), e] at c0
            rw [bf (decide_eq_false hz), bt (decide_eq_true q3), e] at m0
            rw [e]
            by_cases q4 : n = 0
            · obtain ⟨μ2, y1, y2⟩ := s_byType hG.1 hk hT hG.2.2.1
              refine Bg.mk320 hG (r := nI (numN (tyG g k))) (μ2 := μ2) ?_ ?_ y2
              · rw [c0, bEt q4, e_Gr_typeOf, s_typeOf hG.1 hG.2.1 hk, cI_s, cI_s, s_Ty_number t1, cI_s]
              · rw [m0, bEt q4, y1, cI_s, gi t1 (by omega), kl (by omega), (hT.fr y2 (by omega) (by omega) (by omega)).1 _ t1]
            · obtain ⟨μ2, y1, y2⟩ := s_byCo hG.1 hk hT hG.2.2.1
              refine Bg.mk320 hG (r := nI (numN (coG g k))) (μ2 := μ2) ?_ ?_ y2
              · rw [c0, bEf q4 (by omega) (by omega), e_Gr_cotypeOf, s_everything hG.1 hG.2.1, cJ_s, s_cotypeOf hG.1 hG.2.1 hk, cI_s, cI_s, s_Ty_number t2, cI_s]
              · rw [m0, bEf q4 (by omega) (by omega), s_whole_ hG.1 hG.2.2.1, cJ_s, y1, cI_s, gi t2 (by omega), kl (by omega), (hT.fr y2 (by omega) (by omega) (by omega)).1 _ t2]
          · refine Bg.same hG (r := (-5 : Int32)) ?_ ?_
            · rw [c0, bf (decide_eq_false q3), gd_h isb_0, cI_s]
              exact bt (by decide)
            · rw [m0, bf (decide_eq_false q3)]
              cases decide (S = 0) <;> rfl
      · have dg : decide (nI 2 < nI n) = true := by rw [d_lt (by omega) hn]; exact decide_eq_true (by omega)
        refine Bg.same hG (r := (-1 : Int32)) ?_ ?_
        · rw [e_TI_told, x1, cI_s, bf (by decide), bf dl, bt dg]
        · rw [e_Mo_told, x2, cI_s, bf (by decide), s_Mo_in, cI_s, l_lt _ _ (by omega), dl, l_gt _ _ (by omega), dg, Bool.not_true, Bool.and_false]
          exact bt (by decide)
  · refine Bg.same hG (r := (-2 : Int32)) ?_ ?_
    · rw [e_TI_told, x1, cI_s]
      exact bt (by decide)
    · rw [e_Mo_told, x2, cI_s]
      exact bt (by decide)
end TYP
