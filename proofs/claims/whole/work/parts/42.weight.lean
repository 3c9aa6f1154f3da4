/-! weights: both sides -/
def pP (x : Nat) : Nat := ([2, 3, 5, 7] : List Nat).getD x 0
def auT : List (List Nat) := [[1, 1, 1, 1], [1, 2, 4, 6], [2, 6, 20, 42], [6, 48, 480, 2016], [4, 18, 100, 294], [8, 108, 2000, 12348], [168, 11232, 1488000, 33784128], [8, 54, 500, 2058], [16, 324, 10000, 86436], [96, 3888, 300000, 4840416], [192, 23328, 6000000, 203297472], [20160, 24261120, 116064000000, 27811094169600], [16, 162, 2500, 14406], [32, 972, 50000, 605052], [128, 8748, 1250000, 29647548], [384, 69984, 30000000, 1423082304], [1536, 629856, 750000000, 69731032896], [21504, 49128768, 465000000000, 166936092753024], [9999360, 475566474240, 226614960000000000, 15406545500355440640]]
def auV (t x : Nat) : Nat := (auT.getD t []).getD x 0
def wTb : List (List Nat) := [[4607182418800017408, 4602678819172646912, 4600427019358961664, 4599582594428829696, 4599213158521896960, 4599039985440522240, 4598956104729231360, 4598914819691642880, 4598894338442526720, 4598884137820408320, 4598879047470894158, 4598876504781659300, 4598875234057815610, 4598874598851011422, 4598874281286379274, 4598874122513754504, 4598874043129864797, 4598874003438525594, 4598873983593007403, 4598873973670286160, 4598873968708935001], [4607182418800017408, 4604180019048437078, 4603512819103641449, 4603315130231109411, 4603251674543629991, 4603230783782319894, 4603223848851953579, 4603221540379476817, 4603220771240498887, 4603220514899915885, 4603220429457396035, 4603220400977038410, 4603220391483639459, 4603220388319179097, 4603220387264359638, 4603220386912753225, 4603220386795551096, 4603220386756483720, 4603220386743461261, 4603220386739120441, 4603220386737673501], [4607182418800017408, 4605380978949069210, 4605092748572917498, 4605037408340696369, 4605026428838623697, 4605024236451649826, 4605023798114567818, 4605023710452762131, 4605023692920625408, 4605023689414207040, 4605023688712923725, 4605023688572667076, 4605023688544615747, 4605023688539005481, 4605023688537883427, 4605023688537659016, 4605023688537614134, 4605023688537605158, 4605023688537603363, 4605023688537603004, 4605023688537602933], [4607182418800017408, 4605895676049340124, 4605738115712522497, 4605716066452559681, 4605712925741644528, 4605712477255525865, 4605712413189892411, 4605712404037736853, 4605712402730287646, 4605712402543509221, 4605712402516826589, 4605712402513014784, 4605712402512470240, 4605712402512392448, 4605712402512381335, 4605712402512379748, 4605712402512379521, 4605712402512379488, 4605712402512379483, 4605712402512379482, 4605712402512379482]]
def qTb : List (List Nat) := [[4607182418800017408, 4602678819172646912, 4598175219545276416, 4593671619917905920, 4589168020290535424, 4584664420663164928, 4580160821035794432, 4575657221408423936, 4571153621781053440, 4566650022153682944, 4562146422526312448, 4557642822898941952, 4553139223271571456, 4548635623644200960, 4544132024016830464, 4539628424389459968, 4535124824762089472, 4530621225134718976, 4526117625507348480, 4521614025879977984, 4517110426252607488], [4607182418800017408, 4599676419421066581, 4592670820000712476, 4585498420594159464, 4578270421192206816, 4571394555094451861, 4563968866819967175, 4557070348872234591, 4549755174168852885, 4542622358298119367, 4535619580825405573, 4528278500134226780, 4521492792297568720, 4514027204112754315, 4506994663896309263, 4499858185551210847, 4492606238774955135, 4485762302509604266, 4478315327680183523, 4471388427659202863, 4464111095720151925], [4607182418800017408, 4596373779694328218, 4585925428558828667, 4575765307799480828, 4565021520528425773, 4554538581747788017, 4544350790872329614, 4533673411879939914, 4523155055350680635, 4512938930276325014, 4502329553361288637, 4491774929057440919, 4481529789763414546, 4470990046975587971, 4460398284470561692, 4450123434615592470, 4439654997174028733, 4429025205150995607, 4418719931681620908, 4408324510914630317, 4397655776665158180], [4607182418800017408, 4594314991293244562, 4581539473982948665, 4568868996897197853, 4556318565782355709, 4543905330062837757, 4531135057107776071, 4518341034168582810, 4505649407792663582, 4493074806060486105, 4480633946778299201, 4467958383180959635, 4455146320364105018, 4442434076985144240, 4429835912963776421, 4417368125351086269, 4404784887458329269, 4391955238792982735, 4379222897301459766, 4366601764008592299, 4354107725799902550]]
def wW (x i : Nat) : UInt64 := UInt64.ofNat ((wTb.getD x []).getD i 0)
def qQ (x i : Nat) : UInt64 := UInt64.ofNat ((qTb.getD x []).getD i 0)
theorem au_ok : ∀ t, t < 19 → ∀ x, x < 4 → val (rp (turC t)) (lN (pP x)) 31 (lN 0) = lN (auV t x) ∧ decide (lN (auV t x) = lN 0) = false := by decide +kernel
theorem w_0 : ∀ x, x < 4 → wW x 0 = FP.dconst1 ∧ qQ x 0 = FP.dconst1 := by decide +kernel
theorem w_ok : ∀ x, x < 4 → ∀ i, i < 20 → (FP.ddiv (qQ x i) (FP.i2d (nI (pP x))) = qQ x (i + 1) ∧ n64 (qQ x (i + 1)) = true) ∧ (n64 (FP.dsub FP.dconst1 (qQ x (i + 1))) = true ∧ FP.dmul (wW x i) (FP.dsub FP.dconst1 (qQ x (i + 1))) = wW x (i + 1) ∧ n64 (wW x (i + 1)) = true) := by decide +kernel
def vV (t x k : Nat) : UInt64 := FP.ddiv (wW x k) (FP.l2d (lN (auV t x)))
theorem v_ok : ∀ t, t < 19 → ∀ x, x < 4 → ∀ k, k < 21 → okB (vV t x k) = true ∧ n64 (vV t x k) = true := by decide +kernel
def suF (s x k : Nat) : Nat → Nat → UInt64 → Option UInt64
  | 0, _, a => some a
  | f + 1, t, a => if sizN t = s then (if n64 (FP.dadd a (vV t x k)) = true then suF s x k f (t + 1) (FP.dadd a (vV t x k)) else none) else suF s x k f (t + 1) a
def suB (o : Option UInt64) : Bool := match o with
  | some a => okB a
  | none => false
theorem su_ok : ∀ s, s < 6 → ∀ x, x < 4 → ∀ k, k < 21 → suB (suF s x k 19 0 FP.dconst0) = true := by decide +kernel
theorem pP_lt : ∀ x, x < 4 → pP x < 8 := by decide
abbrev f274 (k : Nat) : Prop := k = 274
theorem s_tw_9 {t x k : Nat} (ht : t < 19) (hx : x < 4) (hk : k ≤ 20) (μ : Mm) : ∀ (f i : Nat), i + f = k → ∃ μ', m_TI_weightOf_9 (nI t) (nI (pP x)) (nI k) (wW x i) (qQ x i) (nI i) μ = some (some (.double (vV t x k)), μ') ∧ Fr f274 μ μ'
  | 0, i, e => by
    have hp := pP_lt x hx
    obtain rfl : i = k := by omega
    obtain ⟨μ', k1, k2, k3⟩ := s_aut (k := 274) k274 n274 ht μ
    obtain ⟨o1, o2⟩ := au_ok t ht x hx
    refine ⟨μ', ?_, k2⟩
    rw [e_TI_weightOf_9, bLf (by omega) (by omega), k1, cV_s, s_value31 k274 n274 k3, cJ_s, nI_l (by omega), o1, lgc_eq, bf o2]
    exact gd_h (v_ok t ht x hx i (by omega)).2
  | f + 1, i, e => by
    obtain ⟨⟨o1, o2⟩, ⟨o3, o4, o5⟩⟩ := w_ok x hx i (by omega)
    rw [e_TI_weightOf_9, bLt (by omega) (by omega), o1, gd_h o2, gd_h o3, o4, gd_h o5, nI_p1]
    exact s_tw_9 ht hx hk μ f (i + 1) (by omega)
theorem s_TI_weightOf {t x k : Nat} (ht : t < 19) (hx : x < 4) (hk : k ≤ 20) (μ : Mm) : ∃ μ', m_TI_weightOf (nI t) (nI (pP x)) (nI k) μ = some (some (.double (vV t x k)), μ') ∧ Fr f274 μ μ' := by
  have := s_tw_9 ht hx hk μ k 0 (by omega)
  rw [(w_0 x hx).1, (w_0 x hx).2] at this
  rw [e_TI_weightOf]
  exact this
theorem s_mw_9 {t x k : Nat} (ht : t < 19) (hx : x < 4) (hk : k ≤ 20) {μ : Mm} (hT : MT μ) : ∀ (f i : Nat), i + f = k → ∃ μ', m_Mo_weightOf_9 (nI t) (nI (pP x)) (nI k) (wW x i) (qQ x i) (nI i) μ = some (some (.double (vV t x k)), μ') ∧ Fr fMade μ μ'
  | 0, i, e => by
    have hp := pP_lt x hx
    obtain rfl : i = k := by omega
    obtain ⟨μ', k1, k2, k3⟩ := s_makesTurns ht hT
    obtain ⟨o1, o2⟩ := au_ok t ht x hx
    refine ⟨μ', ?_, k2⟩
    rw [e_Mo_weightOf_9, bLf (by omega) (by omega), k1, cV_s, s_valueOfMade k3, cJ_s, nI_l (by omega), o1]
    exact gd_h (v_ok t ht x hx i (by omega)).2
  | f + 1, i, e => by
    obtain ⟨⟨o1, o2⟩, ⟨o3, o4, o5⟩⟩ := w_ok x hx i (by omega)
    rw [e_Mo_weightOf_9, bLt (by omega) (by omega), o1, gd_h o2, gd_h o3, o4, gd_h o5, nI_p1]
    exact s_mw_9 ht hx hk hT f (i + 1) (by omega)
theorem s_Mo_weightOf {t x k : Nat} (ht : t < 19) (hx : x < 4) (hk : k ≤ 20) {μ : Mm} (hT : MT μ) : ∃ μ', m_Mo_weightOf (nI t) (nI (pP x)) (nI k) μ = some (some (.double (vV t x k)), μ') ∧ Fr fMade μ μ' := by
  have := s_mw_9 ht hx hk hT k 0 (by omega)
  rw [(w_0 x hx).1, (w_0 x hx).2] at this
  rw [e_Mo_weightOf]
  exact this
theorem both_px (y : Int32) : (∃ x, x < 4 ∧ y = nI (pP x) ∧ ∀ μ, m_TI_isPrime y μ = some (some (.int (nI 1)), μ) ∧ m_Mo_isPrime y μ = some (some (.int (nI 1)), μ)) ∨ ∀ μ, m_TI_isPrime y μ = some (some (.int (nI 0)), μ) ∧ m_Mo_isPrime y μ = some (some (.int (nI 0)), μ) := by
  rcases both_prime y with ⟨h, h2⟩ | h
  · refine Or.inl ?_
    rcases h with h | h | h | h
    · exact ⟨0, by omega, h, h2⟩
    · exact ⟨1, by omega, h, h2⟩
    · exact ⟨2, by omega, h, h2⟩
    · exact ⟨3, by omega, h, h2⟩
  · exact Or.inr h
theorem in20 (x : Int32) : (∃ n, n ≤ 20 ∧ x = nI n ∧ decide (x < nI 0) = false ∧ decide (nI 20 < x) = false ∧ ∀ μ, m_Mo_in_JJJ x.toInt64 (lN 0) (lN 20) μ = some (some (.int (nI 1)), μ)) ∨ ((decide (x < nI 0) = true ∨ decide (x < nI 0) = false ∧ decide (nI 20 < x) = true) ∧ ∀ μ, m_Mo_in_JJJ x.toInt64 (lN 0) (lN 20) μ = some (some (.int (nI 0)), μ)) := by
  have e : ∀ μ, m_Mo_in_JJJ x.toInt64 (lN 0) (lN 20) μ = some (some (.int (nI (b2i (!decide (x < nI 0) && !decide (nI 20 < x))))), μ) := fun μ => by
    rw [s_Mo_in, l_lt _ _ (by omega), l_gt _ _ (by omega)]
  rcases i_cases x with hx | ⟨n, hn, rfl⟩
  · refine Or.inr ⟨Or.inl (decide_eq_true hx), fun μ => ?_⟩
    rw [e μ, decide_eq_true hx]
    rfl
  · have d0 : decide (nI n < nI 0) = false := nI_lt0 hn
    by_cases q : n ≤ 20
    · have d1 : decide (nI 20 < nI n) = false := by rw [d_lt (by omega) hn]; exact decide_eq_false (by omega)
      refine Or.inl ⟨n, q, rfl, d0, d1, fun μ => ?_⟩
      rw [e μ, d0, d1]
      rfl
    · have d1 : decide (nI 20 < nI n) = true := by rw [d_lt (by omega) hn]; exact decide_eq_true (by omega)
      refine Or.inr ⟨Or.inr ⟨d0, d1⟩, fun μ => ?_⟩
      rw [e μ, d0, d1]
      rfl
/-- promise 22: weight -/
theorem both_weight {μ : Mm} (hT : MT μ) (x y z : Int32) : Bl cP μ (m_TI_weight x y z) (m_Mo_weight x y z) := by
  rcases both_find x with ⟨t, ht, hf⟩ | hf
  · rcases both_px y with ⟨p, hp, rfl, y1⟩ | y1
    · rcases in20 z with ⟨k, hk, rfl, z1, z2, z3⟩ | ⟨z1, z2⟩
      · obtain ⟨μ1, a1, a2⟩ := s_TI_weightOf ht hp hk μ
        have T1 := hT.fr a2 (by omega) (by omega) (by omega)
        obtain ⟨μ2, b1, b2⟩ := s_Mo_weightOf ht hp hk T1
        obtain ⟨r, c1, c2⟩ := both_bits (v_ok t ht p hp k (by omega)).1 μ1 μ2
        refine ⟨r, μ1, μ2, ?_, ?_, (a2.w (fun k hk => by omega)).t2 (b2.w (fun k hk => by omega))⟩
        · rw [e_TI_weight, (hf μ).1, cI_s, bf (t_ge ht), (y1 μ).1, cI_s, bf (by decide), bf z1, bf z2, a1, cD_s, c1, cJ_s]
        · rw [e_Mo_weight, (hf μ1).2 T1, cI_s, bf (d_e1 (by omega)), (y1 μ1).2, cI_s, bf (by decide), z3, cI_s, bf (by decide), b1, cD_s, c2, cJ_s]
      · refine Bl.same (r := (-9223372036854775808 : Int64)) ?_ ?_
        · rw [e_TI_weight, (hf μ).1, cI_s, bf (t_ge ht), (y1 μ).1, cI_s, bf (by decide)]
          rcases z1 with q | ⟨q, q2⟩
          · rw [bt q]
          · rw [bf q, bt q2]
        · rw [e_Mo_weight, (hf μ).2 hT, cI_s, bf (d_e1 (by omega)), (y1 μ).2, cI_s, bf (by decide), z2, cI_s]
          exact bt (by decide)
    · refine Bl.same (r := (-9223372036854775808 : Int64)) ?_ ?_
      · rw [e_TI_weight, (hf μ).1, cI_s, bf (t_ge ht), (y1 μ).1, cI_s]
        exact bt (by decide)
      · rw [e_Mo_weight, (hf μ).2 hT, cI_s, bf (d_e1 (by omega)), (y1 μ).2, cI_s]
        exact bt (by decide)
  · refine Bl.same (r := (-9223372036854775808 : Int64)) ?_ ?_
    · rw [e_TI_weight, (hf μ).1, cI_s]
      exact bt d_neg
    · rw [e_Mo_weight, (hf μ).2 hT, cI_s]
      exact bt neg1
theorem s_tws_36 {s x k : Nat} (hs : s < 6) (hx : x < 4) (hk : k ≤ 20) {a : UInt64} : ∀ (f t : Nat) (v : UInt64) (μ : Mm), t + f = 19 → suF s x k f t v = some a → ∃ μ', m_TI_weights_36 (nI s) (nI (pP x)) (nI k) v (nI t) μ = cJ (m_Bi_ofDouble a μ') (fun v2 μ1 => some (some (.long v2), μ1)) ∧ Fr f274 μ μ'
  | 0, t, v, μ, e, h => by
    obtain rfl : t = 19 := by omega
    cases h
    refine ⟨μ, ?_, Fr.rf⟩
    rw [e_TI_weights_36, bLf (by omega) (by omega)]
  | f + 1, t, v, μ, e, h => by
    have ht : t < 19 := by omega
    have sz := sz_lt ht
    unfold suF at h
    rw [e_TI_weights_36, bLt ht (by omega), s_Ty_size ht, cI_s, d_eq (by omega) (by omega), nI_p1]
    by_cases q : sizN t = s
    · rw [if_pos q] at h
      obtain ⟨μ1, a1, a2⟩ := s_TI_weightOf ht hx hk μ
      by_cases q2 : n64 (FP.dadd v (vV t x k)) = true
      · rw [if_pos q2] at h
        obtain ⟨μ2, b1, b2⟩ := s_tws_36 hs hx hk f (t + 1) _ μ1 (by omega) h
        refine ⟨μ2, ?_, a2.t2 b2⟩
        rw [bt (decide_eq_true q), a1, cD_s, gd_h q2, b1]
      · rw [if_neg q2] at h
        cases h
    · rw [if_neg q] at h
      obtain ⟨μ2, b1, b2⟩ := s_tws_36 hs hx hk f (t + 1) _ μ (by omega) h
      refine ⟨μ2, ?_, b2⟩
      rw [bf (decide_eq_false q), b1]
theorem s_mws_41 {s x k : Nat} (hs : s < 6) (hx : x < 4) (hk : k ≤ 20) {a : UInt64} : ∀ (f t : Nat) (v : UInt64) (μ : Mm), t + f = 19 → MT μ → suF s x k f t v = some a → ∃ μ', m_Mo_weights_41 (nI s) (nI (pP x)) (nI k) v (nI t) μ = cJ (m_jD_doubleToLongBits a μ') (fun v2 μ1 => some (some (.long v2), μ1)) ∧ Fr fMade μ μ'
  | 0, t, v, μ, e, hT, h => by
    obtain rfl : t = 19 := by omega
    cases h
    refine ⟨μ, ?_, Fr.rf⟩
    rw [e_Mo_weights_41, bLf (by omega) (by omega)]
  | f + 1, t, v, μ, e, hT, h => by
    have ht : t < 19 := by omega
    have sz := sz_lt ht
    unfold suF at h
    rw [e_Mo_weights_41, bLt ht (by omega), gi ht (by omega), kl (by omega), hT.2.1 t ht, d_eq (by omega) (by omega), nI_p1]
    by_cases q : sizN t = s
    · rw [if_pos q] at h
      obtain ⟨μ1, a1, a2⟩ := s_Mo_weightOf ht hx hk hT
      by_cases q2 : n64 (FP.dadd v (vV t x k)) = true
      · rw [if_pos q2] at h
        obtain ⟨μ2, b1, b2⟩ := s_mws_41 hs hx hk f (t + 1) _ μ1 (by omega) (hT.fr a2 (by omega) (by omega) (by omega)) h
        refine ⟨μ2, ?_, a2.t2 b2⟩
        rw [bt (decide_eq_true q), a1, cD_s, gd_h q2, b1]
      · rw [if_neg q2] at h
        cases h
    · rw [if_neg q] at h
      obtain ⟨μ2, b1, b2⟩ := s_mws_41 hs hx hk f (t + 1) _ μ (by omega) hT h
      refine ⟨μ2, ?_, b2⟩
      rw [bf (decide_eq_false q), b1]
/-- promise 23: weights -/
theorem both_weights {μ : Mm} (hT : MT μ) (x y z : Int32) : Bl cP μ (m_TI_weights x y z) (m_Mo_weights x y z) := by
  rcases in5 x with ⟨s, hs, rfl, x1, x2, x3⟩ | ⟨x1, x2⟩
  · rcases both_px y with ⟨p, hp, rfl, y1⟩ | y1
    · rcases in20 z with ⟨k, hk, rfl, z1, z2, z3⟩ | ⟨z1, z2⟩
      · have ho := su_ok s hs p hp k (by omega)
        cases hsu : suF s p k 19 0 FP.dconst0 with
        | none => rw [hsu] at ho; cases ho
        | some a =>
          rw [hsu] at ho
          obtain ⟨μ1, a1, a2⟩ := s_tws_36 hs hp hk 19 0 _ μ rfl hsu
          obtain ⟨μ2, b1, b2⟩ := s_mws_41 hs hp hk 19 0 _ μ1 rfl (hT.fr a2 (by omega) (by omega) (by omega)) hsu
          obtain ⟨r, c1, c2⟩ := both_bits ho μ1 μ2
          refine ⟨r, μ1, μ2, ?_, ?_, (a2.w (fun k hk => by omega)).t2 (b2.w (fun k hk => by omega))⟩
          · rw [e_TI_weights, bf x1, bf x2, (y1 μ).1, cI_s, bf (by decide), bf z1, bf z2, a1, c1, cJ_s]
          · rw [e_Mo_weights, x3, cI_s, bf (by decide), (y1 μ1).2, cI_s, bf (by decide), z3, cI_s, bf (by decide), b1, c2, cJ_s]
      · refine Bl.same (r := (-9223372036854775808 : Int64)) ?_ ?_
        · rw [e_TI_weights, bf x1, bf x2, (y1 μ).1, cI_s, bf (by decide)]
          rcases z1 with q | ⟨q, q2⟩
          · rw [bt q]
          · rw [bf q, bt q2]
        · rw [e_Mo_weights, x3, cI_s, bf (by decide), (y1 μ).2, cI_s, bf (by decide), z2, cI_s]
          exact bt (by decide)
    · refine Bl.same (r := (-9223372036854775808 : Int64)) ?_ ?_
      · rw [e_TI_weights, bf x1, bf x2, (y1 μ).1, cI_s]
        exact bt (by decide)
      · rw [e_Mo_weights, x3, cI_s, bf (by decide), (y1 μ).2, cI_s]
        exact bt (by decide)
  · refine Bl.same (r := (-9223372036854775808 : Int64)) ?_ ?_
    · rw [e_TI_weights]
      rcases x1 with q | ⟨q, q2⟩
      · rw [bt q]
      · rw [bf q, bt q2]
    · rw [e_Mo_weights, x2, cI_s]
      exact bt (by decide)
