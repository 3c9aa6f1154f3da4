/-! sums: the form, the reference's side (nothing is worked out) -/
theorem gk1 : ∀ d, d < 3 → Nat.ble (pK 222 [.ref 306, .int (nI d)] + 1) (pK 221 [.ref 306, .int (nI d)]) = true := by decide +kernel
theorem gk2 : ∀ d, d < 3 → Nat.ble 1 (pK 221 [.ref 306, .int (nI d)]) = true := by decide +kernel
theorem gk3 : ∀ d, d < 3 → Nat.ble (pK 226 [.ref 306, .int (nI d)] + 1) (pK 222 [.ref 306, .int (nI d)]) = true := by decide +kernel
theorem gk4 : ∀ d, d < 3 → Nat.ble 1 (pK 222 [.ref 306, .int (nI d)]) = true := by decide +kernel
theorem gk5 : ∀ d, d < 3 → Nat.ble 1 (pK 226 [.ref 306, .int (nI d)]) = true := by decide +kernel
theorem gk6 : ∀ d, d < 3 → Nat.ble 2 (pK 226 [.ref 306, .int (nI d)]) = true := by decide +kernel
theorem gk7 : ∀ d, d < 2 → Nat.ble (pK 221 [.ref 306, .int (nI (d + 1))] + 1) (pK 226 [.ref 306, .int (nI d)]) = true := by decide +kernel
theorem gk8 : ∀ d, d < 3 → Nat.ble 7 (pK 222 [.ref 306, .int (nI d)]) = true := by decide +kernel
theorem gk9 : Nat.ble (pK 221 [.ref 306, .int (nI 0)] + 1) 16 = true := by decide +kernel
/-- only where it stands and what is wrong change -/
def F2 (μ μ' : Mm) : Prop := Fr (fun k => k = 306) μ μ' ∧ ∀ j, j ≠ 24 → j ≠ 25 → j ≠ 26 → μ'.1 306 j = μ.1 306 j
theorem F2.rf {μ : Mm} : F2 μ μ := ⟨Fr.rf, fun _ _ _ _ => rfl⟩
theorem F2.tr {a b d : Mm} (h : F2 a b) (k : F2 b d) : F2 a d := ⟨h.1.t2 k.1, fun j h1 h2 h3 => (k.2 j h1 h2 h3).trans (h.2 j h1 h2 h3)⟩
theorem F2.I {μ : Mm} {j : Nat} {v : Int32} (hj : j = 24 ∨ j = 25 ∨ j = 26) : F2 μ (sI μ 306 j v) := ⟨Fr.sI rfl, fun i h1 h2 h3 => by rw [sI_s, up_o (by omega)]⟩
def F24 (μ μ' : Mm) : Prop := Fr (fun k => k = 306) μ μ' ∧ ∀ j, j ≠ 24 → μ'.1 306 j = μ.1 306 j
theorem F24.rf {μ : Mm} : F24 μ μ := ⟨Fr.rf, fun _ _ => rfl⟩
theorem F24.tr {a b d : Mm} (h : F24 a b) (k : F24 b d) : F24 a d := ⟨h.1.t2 k.1, fun j h1 => (k.2 j h1).trans (h.2 j h1)⟩
theorem F24.I {μ : Mm} {v : Int32} : F24 μ (sI μ 306 24 v) := ⟨Fr.sI rfl, fun i h1 => by rw [sI_s, up_o h1]⟩
theorem F24.f2 {a b : Mm} (h : F24 a b) : F2 a b := ⟨h.1, fun j h1 _ _ => h.2 j h1⟩
section FRM
variable {c : Nat → Nat} {n : Nat} {μ : Mm}
theorem TM.f2 {μ' : Mm} (h : TM c n μ) (F : F2 μ μ') : TM c n μ' := by
  unfold TM
  rw [F.2 23 (by omega) (by omega) (by omega), (F.1 322 (by omega)).1]
  exact h
theorem MT.f2 {μ' : Mm} (h : MT μ) (F : F2 μ μ') : MT μ' := h.fr F.1 (by omega) (by omega) (by omega)
/-- the end of a type in brackets -/
noncomputable def thT (x1 x2 : Int32) (μ : Mm) : Option Rs := cI (m_Mo_here μ) fun v2 μ1 => bif decide (v2 = nI 93) then (cI (m_Mo_numberOf x2 (sI μ1 306 24 ((μ1.1 306 24) + (nI 1)))) fun v4 μ3 => bif decide (v4 = (-1 : Int32)) then (bif decide (μ3.1 306 26 = (-1 : Int32)) then (some (none, sI μ3 306 26 x1)) else (some (none, sI μ3 306 26 (μ3.1 306 26)))) else (cV (m_Mo_isNow v4 (lN 1) μ3) fun μ5 => some (none, μ5))) else (gd (isb (nI 1)) (some (none, sI μ1 306 25 (nI 1))))
theorem th19 (x1 : Int32) : ∀ (f k v q : Nat) (μ : Mm), k + f = 5 → q ≤ n → TM c n μ → μ.1 306 24 = nI q → ∃ μ', m_Mo_typeHere_19 x1 (nI v) (nI k) μ = thT x1 (nI (nvF c f q v)) μ' ∧ F24 μ μ' ∧ μ'.1 306 24 = nI (q + dgF c f q)
  | 0, k, v, q, μ, e, hq, h, ha => by
    refine ⟨μ, ?_, F24.rf, ha⟩
    rw [e_Mo_typeHere_19, bLf (by omega) (by omega)]
    rfl
  | f + 1, k, v, q, μ, e, hq, h, ha => by
    have h1 := h.1.1
    unfold dgF nvF
    by_cases z : 49 ≤ c q ∧ c q ≤ 57
    · have hl := h.1.lt (i := q) (by omega)
      have F0 : F24 μ (sI μ 306 24 (nI (q + 1))) := F24.I
      obtain ⟨μ', k1, k2, k3⟩ := th19 x1 f (k + 1) (10 * v + c q - 48) (q + 1) (sI μ 306 24 (nI (q + 1))) (by omega) (by omega) (h.f2 F0.f2) (by rw [sI_s, up_s])
      rw [if_pos z, if_pos z]
      refine ⟨μ', ?_, F0.tr k2, by rw [k3, show q + 1 + dgF c f (q + 1) = q + (dgF c f (q + 1) + 1) by omega]⟩
      rw [e_Mo_typeHere_19, bLt (by omega) (by omega), s_here h ha (by omega), cI_s, s_inS (h.1.c q) (by omega) (by omega) (by omega), cI_s, b2i_n, decide_eq_true z.1, decide_eq_true z.2]
      show cI (m_Mo_here μ) _ = _
      rw [s_here h ha (by omega), cI_s, ha, sv_n (by omega), nI_p1, nI_p1, nI_mul, nI_add, nI_sub (by omega), k1]
    · rw [if_neg z, if_neg z]
      refine ⟨μ, ?_, F24.rf, ha⟩
      rw [e_Mo_typeHere_19, bLt (by omega) (by omega), s_here h ha (by omega), cI_s, s_inS (h.1.c q) (by omega) (by omega) (by omega), cI_s, b2i_n]
      have hz : (decide (49 ≤ c q) && decide (c q ≤ 57)) = false := by
        cases hb : (decide (49 ≤ c q) && decide (c q ≤ 57))
        · rfl
        · obtain ⟨a, b⟩ := Bool.and_eq_true_iff.mp hb
          exact absurd ⟨of_decide_eq_true a, of_decide_eq_true b⟩ z
      rw [hz]
      rfl
theorem s_typeHere (h : TM c n μ) {p : Nat} (hp : p < n) (ha : μ.1 306 24 = nI p) : ∃ μ', m_Mo_typeHere μ = thT (nI p) (nI (nvF c 5 (p + 1) 0)) μ' ∧ F24 μ μ' ∧ μ'.1 306 24 = nI (brE c p) := by
  have F0 : F24 μ (sI μ 306 24 (nI (p + 1))) := F24.I
  obtain ⟨μ', k1, k2, k3⟩ := th19 (nI p) 5 0 0 (p + 1) (sI μ 306 24 (nI (p + 1))) rfl hp (h.f2 F0.f2) (by rw [sI_s, up_s])
  exact ⟨μ', by rw [e_Mo_typeHere, ha, nI_p1, k1], F0.tr k2, k3⟩
/-- how a reader of the reference's answers, where nothing is worked out -/
def SM0 (c : Nat → Nat) (n : Nat) (F : Mm → Option Rs) (O : Nat → Wt) : Prop := ∀ (p : Nat) (μ : Mm) (wt : Option Nat), p ≤ n → TM c n μ → MT μ → (∀ b, wt = some b → b < 1000) → μ.1 306 24 = nI p → μ.1 306 25 = nI 0 → μ.1 306 26 = oc wt → μ.1 306 28 = nI 0 →
  ∃ μ', F μ = some (none, μ') ∧ F2 μ μ' ∧ μ'.1 306 24 = nI (O p).1 ∧ μ'.1 306 25 = nI (b2i (!(O p).2.1)) ∧ ((O p).2.1 = true → μ'.1 306 26 = oc (wt.or (O p).2.2.1) ∧ ∀ b, wt.or (O p).2.2.1 = some b → b < 1000)
theorem oc_d {wt : Option Nat} (h : ∀ b, wt = some b → b < 1000) : decide (oc wt = (-1 : Int32)) = wt.isNone := by
  cases wt with
  | none => rfl
  | some b =>
    have := h b rfl
    exact d_e1 (by omega)
theorem m0_br {F : Mm → Option Rs} {p : Nat} (e : c p = 91) {wt : Option Nat} (hp : p ≤ n) (h : TM c n μ) (hT : MT μ) (hw : ∀ b, wt = some b → b < 1000) (h24 : μ.1 306 24 = nI p) (h25 : μ.1 306 25 = nI 0) (h26 : μ.1 306 26 = oc wt) (h28 : μ.1 306 28 = nI 0) : ∃ μ', m_Mo_typeHere μ = some (none, μ') ∧ F2 μ μ' ∧ μ'.1 306 24 = nI (brW c p).1 ∧ μ'.1 306 25 = nI (b2i (!(brW c p).2.1)) ∧ ((brW c p).2.1 = true → μ'.1 306 26 = oc (wt.or (brW c p).2.2.1) ∧ ∀ b, wt.or (brW c p).2.2.1 = some b → b < 1000) := by
  have h1 := h.1.1
  have hl := h.1.lt (i := p) (by omega)
  obtain ⟨b1, b2⟩ := br_le h.1 e
  obtain ⟨μ1, k1, k2, k3⟩ := s_typeHere h hl h24
  have hM := h.f2 k2.f2
  have g26 : μ1.1 306 26 = oc wt := by rw [k2.2 26 (by omega)]; exact h26
  have g28 : μ1.1 306 28 = nI 0 := by rw [k2.2 28 (by omega)]; exact h28
  have g25 : μ1.1 306 25 = nI 0 := by rw [k2.2 25 (by omega)]; exact h25
  rw [k1]
  unfold thT brW
  rw [s_here hM k3 (by omega), cI_s, sv_e (h.1.c _) (by omega)]
  by_cases q : c (brE c p) = 93
  · rw [bt (decide_eq_true q), if_pos q, k3, nI_p1]
    have F1 : F2 μ1 (sI μ1 306 24 (nI (brE c p + 1))) := F2.I (Or.inl rfl)
    have T1 := (hT.f2 k2.f2).f2 F1
    have e26 : (sI μ1 306 24 (nI (brE c p + 1))).1 306 26 = oc wt := by rw [sI_s, up_o (by omega)]; exact g26
    have e25 : (sI μ1 306 24 (nI (brE c p + 1))).1 306 25 = nI 0 := by rw [sI_s, up_o (by omega)]; exact g25
    have e28 : (sI μ1 306 24 (nI (brE c p + 1))).1 306 28 = nI 0 := by rw [sI_s, up_o (by omega)]; exact g28
    rw [s_number_O (br_num h.1 p) T1, cI_s, show tyO (nvF c 5 (p + 1) 0) = brT c p from rfl]
    cases hb : brT c p with
    | none =>
      rw [oc_n, bt neg1, e26, oc_d hw, if_pos rfl]
      cases wt with
      | none =>
        refine ⟨_, rfl, (k2.f2.tr F1).tr (F2.I (Or.inr (Or.inr rfl))), ?_, ?_, fun _ => ⟨?_, ?_⟩⟩
        · rw [sI_s, up_o (by omega), sI_s, up_s]
        · rw [sI_s, up_o (by omega), e25]
          rfl
        · rw [sI_s, up_s]
          rfl
        · rintro b ⟨⟩
          omega
      | some b =>
        refine ⟨_, rfl, (k2.f2.tr F1).tr (F2.I (Or.inr (Or.inr rfl))), ?_, ?_, fun _ => ⟨?_, ?_⟩⟩
        · rw [sI_s, up_o (by omega), sI_s, up_s]
        · rw [sI_s, up_o (by omega), e25]
          rfl
        · rw [sI_s, up_s]
          rfl
        · rintro b' ⟨⟩
          exact hw b rfl
    | some t =>
      have ht := tyO_lt hb
      rw [oc_s, bf (d_e1 (by omega)), e_Mo_isNow, e_Mo_isNow_3, bLt (by omega) (by omega), e28, bEt rfl, bEt rfl, cV_s, if_neg (fun z => by cases z)]
      refine ⟨_, rfl, k2.f2.tr F1, ?_, ?_, fun _ => ⟨?_, ?_⟩⟩
      · rw [sI_s, up_s]
      · rw [e25]
        rfl
      · rw [e26]
        cases wt <;> rfl
      · intro b hb2
        cases wt with
        | none => cases hb2
        | some b' => exact hw b hb2
  · rw [bf (decide_eq_false q), if_neg q, gd_h isb_1]
    refine ⟨_, rfl, k2.f2.tr (F2.I (Or.inr (Or.inl rfl))), ?_, ?_, fun z => by cases z⟩
    · rw [sI_s, up_o (by omega), k3]
      rfl
    · rw [sI_s, up_s]
      rfl
theorem m0_prL {O : Nat → Wt} {d : Nat} (hd : d < 3) (hG : GO n O) (hO : SM0 c n (m_Mo_oneAt (nI d)) O) (x2 : Int32) : ∀ (f : Nat) (w : Wt) (μ : Mm) (wt : Option Nat), w.1 ≤ n → 42 ≤ w.1 + f → TM c n μ → MT μ → (w.2.1 = true → (∀ b, wt.or w.2.2.1 = some b → b < 1000) ∧ μ.1 306 26 = oc (wt.or w.2.2.1)) → μ.1 306 24 = nI w.1 → μ.1 306 25 = nI (b2i (!w.2.1)) → μ.1 306 28 = nI 0 →
    ∃ μ', m_Mo_productAt_49 (pK 222 [.ref 306, .int (nI d)]) (nI d) x2 μ = some (none, μ') ∧ F2 μ μ' ∧ μ'.1 306 24 = nI (prL c O f w).1 ∧ μ'.1 306 25 = nI (b2i (!(prL c O f w).2.1)) ∧ ((prL c O f w).2.1 = true → μ'.1 306 26 = oc (wt.or (prL c O f w).2.2.1) ∧ ∀ b, wt.or (prL c O f w).2.2.1 = some b → b < 1000)
  | 0, w, μ, wt, h1, h2, h, hT, hw, h24, h25, h28 => by
    have := h.1.1
    omega
  | f + 1, w, μ, wt, h1, h2, h, hT, hw, h24, h25, h28 => by
    have hn := h.1.1
    by_cases q1 : w.2.1 = true
    · rw [q1] at h25
      obtain ⟨w1, w2⟩ := hw q1
      by_cases q2 : c w.1 = 42
      · have hl := h.1.lt (i := w.1) (by omega)
        have F0 : F2 μ (sI μ 306 24 (nI (w.1 + 1))) := F2.I (Or.inl rfl)
        obtain ⟨μ1, k1, k2, k3, k4, k5⟩ := hO (w.1 + 1) (sI μ 306 24 (nI (w.1 + 1))) (wt.or w.2.2.1) (by omega) (h.f2 F0) (hT.f2 F0) w1 (by rw [sI_s, up_s]) (by rw [sI_s, up_o (by omega)]; exact h25) (by rw [sI_s, up_o (by omega)]; exact w2) (by rw [sI_s, up_o (by omega)]; exact h28)
        have F1 := F0.tr k2
        have g28 : μ1.1 306 28 = nI 0 := by rw [F1.2 28 (by omega) (by omega) (by omega)]; exact h28
        obtain ⟨⟨a1, a2⟩, a3⟩ := hG (w.1 + 1) (by omega)
        rw [prL_s q1 q2]
        obtain ⟨μ2, l1, l2, l3, l4, l5⟩ := m0_prL hd hG hO x2 f (combP w (O (w.1 + 1))) μ1 wt a2 (by show 42 ≤ (O (w.1 + 1)).1 + f; omega) (h.f2 F1) (hT.f2 F1) (fun z => by
          obtain ⟨b1, b2⟩ := k5 z
          rw [Option.or_assoc] at b1 b2
          exact ⟨b2, b1⟩) k3 k4 g28
        refine ⟨μ2, ?_, F1.tr l2, l3, l4, l5⟩
        rw [e_Mo_productAt_49, h25, show decide (nI (b2i (!true)) = nI 0) = true by decide, cond_true, gd_h (gk4 d hd), s_here h h24 (by omega), cI_s, sv_e (h.1.c _) (by omega), bt (decide_eq_true q2), gd_h (gk3 d hd), h24, nI_p1, k1, cV_s, g28, bEt rfl, l1]
      · rw [prL_n (fun z => q2 z.2)]
        refine ⟨μ, ?_, F2.rf, h24, by rw [q1]; exact h25, fun _ => ⟨w2, w1⟩⟩
        rw [e_Mo_productAt_49, h25, show decide (nI (b2i (!true)) = nI 0) = true by decide, cond_true, gd_h (gk4 d hd), s_here h h24 (by omega), cI_s, sv_e (h.1.c _) (by omega), bf (decide_eq_false q2)]
    · rw [prL_n (fun z => q1 z.1)]
      refine ⟨μ, ?_, F2.rf, h24, h25, fun z => absurd z q1⟩
      rw [Bool.not_eq_true] at q1
      rw [e_Mo_productAt_49, h25, q1]
      exact bf (by decide)
theorem m0_pr {O : Nat → Wt} {d : Nat} (hd : d < 3) (hG : GO n O) (hO : SM0 c n (m_Mo_oneAt (nI d)) O) : SM0 c n (m_Mo_productAt (nI d)) (prW c O) := fun p μ wt hp h hT hw h24 h25 h26 h28 => by
  obtain ⟨μ1, k1, k2, k3, k4, k5⟩ := hO p μ wt hp h hT hw h24 h25 h26 h28
  have g28 : μ1.1 306 28 = nI 0 := by rw [k2.2 28 (by omega) (by omega) (by omega)]; exact h28
  obtain ⟨μ2, l1, l2, l3, l4, l5⟩ := m0_prL hd hG hO ((nI d * (nI 19)) * (nI 31)) 42 (O p) μ1 wt (hG p hp).1.2 (by omega) (h.f2 k2) (hT.f2 k2) (fun z => ⟨(k5 z).2, (k5 z).1⟩) k3 k4 g28
  refine ⟨μ2, ?_, k2.tr l2, l3, l4, l5⟩
  rw [e_Mo_productAt, gd_h (gk3 d hd), k1, cV_s, e_Mo_productAt_15, bLt (by omega) (by omega), g28, bEt rfl, l1]
theorem m0_smL {P : Nat → Wt} {d : Nat} (hd : d < 3) (hG : GO n P) (hP : SM0 c n (m_Mo_productAt (nI d)) P) : ∀ (f : Nat) (w : Wt) (μ : Mm) (wt : Option Nat), w.1 ≤ n → 42 ≤ w.1 + f → TM c n μ → MT μ → (w.2.1 = true → (∀ b, wt.or w.2.2.1 = some b → b < 1000) ∧ μ.1 306 26 = oc (wt.or w.2.2.1)) → μ.1 306 24 = nI w.1 → μ.1 306 25 = nI (b2i (!w.2.1)) → μ.1 306 28 = nI 0 →
    ∃ μ', m_Mo_sumAt_12 (pK 221 [.ref 306, .int (nI d)]) (nI d) μ = some (none, μ') ∧ F2 μ μ' ∧ μ'.1 306 24 = nI (smL c P f w).1 ∧ μ'.1 306 25 = nI (b2i (!(smL c P f w).2.1)) ∧ ((smL c P f w).2.1 = true → μ'.1 306 26 = oc (wt.or (smL c P f w).2.2.1) ∧ ∀ b, wt.or (smL c P f w).2.2.1 = some b → b < 1000)
  | 0, w, μ, wt, h1, h2, h, hT, hw, h24, h25, h28 => by
    have := h.1.1
    omega
  | f + 1, w, μ, wt, h1, h2, h, hT, hw, h24, h25, h28 => by
    have hn := h.1.1
    by_cases q1 : w.2.1 = true
    · rw [q1] at h25
      obtain ⟨w1, w2⟩ := hw q1
      by_cases q2 : c w.1 = 43 ∨ c w.1 = 45
      · have hl := h.1.lt (i := w.1) (by omega)
        have F0 : F2 μ (sI μ 306 24 (nI (w.1 + 1))) := F2.I (Or.inl rfl)
        obtain ⟨μ1, k1, k2, k3, k4, k5⟩ := hP (w.1 + 1) (sI μ 306 24 (nI (w.1 + 1))) (wt.or w.2.2.1) (by omega) (h.f2 F0) (hT.f2 F0) w1 (by rw [sI_s, up_s]) (by rw [sI_s, up_o (by omega)]; exact h25) (by rw [sI_s, up_o (by omega)]; exact w2) (by rw [sI_s, up_o (by omega)]; exact h28)
        have F1 := F0.tr k2
        have g28 : μ1.1 306 28 = nI 0 := by rw [F1.2 28 (by omega) (by omega) (by omega)]; exact h28
        obtain ⟨⟨a1, a2⟩, a3⟩ := hG (w.1 + 1) (by omega)
        rw [smL_s q1 q2]
        obtain ⟨μ2, l1, l2, l3, l4, l5⟩ := m0_smL hd hG hP f (combS (c w.1) w (P (w.1 + 1))) μ1 wt a2 (by show 42 ≤ (P (w.1 + 1)).1 + f; omega) (h.f2 F1) (hT.f2 F1) (fun z => by
          obtain ⟨b1, b2⟩ := k5 z
          rw [Option.or_assoc] at b1 b2
          exact ⟨b2, b1⟩) k3 k4 g28
        have ad : ∀ x y : Int64, m_Mo_adds_IJJ (nI d) x y μ1 = some (none, μ1) := fun x y => by
          rw [e_Mo_adds_IJJ, g28]
          exact bt (by decide)
        refine ⟨μ2, ?_, F1.tr l2, l3, l4, l5⟩
        rw [e_Mo_sumAt_12, h25, show decide (nI (b2i (!true)) = nI 0) = true by decide, cond_true, gd_h (gk2 d hd), s_here h h24 (by omega), cI_s, sv_e (h.1.c _) (by omega)]
        by_cases q3 : c w.1 = 43
        · rw [bt (decide_eq_true q3), gd_h (gk2 d hd), s_here h h24 (by omega), cI_s, sv_e (h.1.c _) (by omega), bt (decide_eq_true q3), gd_h (gk1 d hd), h24, nI_p1, k1, cV_s, gd_h (gk2 d hd), ad, cV_s, l1]
        · have q4 : c w.1 = 45 := q2.resolve_left q3
          rw [bf (decide_eq_false q3), gd_h (gk2 d hd), s_here h h24 (by omega), cI_s, sv_e (h.1.c _) (by omega), bt (decide_eq_true q4), gd_h (gk2 d hd), s_here h h24 (by omega), cI_s, sv_e (h.1.c _) (by omega), bf (decide_eq_false q3), gd_h (gk1 d hd), h24, nI_p1, k1, cV_s, gd_h (gk2 d hd), ad, cV_s, l1]
      · rw [smL_n (fun z => q2 z.2)]
        refine ⟨μ, ?_, F2.rf, h24, by rw [q1]; exact h25, fun _ => ⟨w2, w1⟩⟩
        rw [e_Mo_sumAt_12, h25, show decide (nI (b2i (!true)) = nI 0) = true by decide, cond_true, gd_h (gk2 d hd), s_here h h24 (by omega), cI_s, sv_e (h.1.c _) (by omega), bf (decide_eq_false (fun z => q2 (Or.inl z))), gd_h (gk2 d hd), s_here h h24 (by omega), cI_s, sv_e (h.1.c _) (by omega), bf (decide_eq_false (fun z => q2 (Or.inr z)))]
    · rw [smL_n (fun z => q1 z.1)]
      refine ⟨μ, ?_, F2.rf, h24, h25, fun z => absurd z q1⟩
      rw [Bool.not_eq_true] at q1
      rw [e_Mo_sumAt_12, h25, q1]
      exact bf (by decide)
theorem m0_sm (hT0 : TT c n) {O : Nat → Wt} {d : Nat} (hd : d < 3) (hG : GO n O) (hO : SM0 c n (m_Mo_oneAt (nI d)) O) : SM0 c n (m_Mo_sumAt (nI d)) (smW c O) := fun p μ wt hp h hT hw h24 h25 h26 h28 => by
  have hPG := go_pr hT0 hG
  have hP := m0_pr hd hG hO
  obtain ⟨μ1, k1, k2, k3, k4, k5⟩ := hP p μ wt hp h hT hw h24 h25 h26 h28
  have g28 : μ1.1 306 28 = nI 0 := by rw [k2.2 28 (by omega) (by omega) (by omega)]; exact h28
  obtain ⟨μ2, l1, l2, l3, l4, l5⟩ := m0_smL hd hPG hP 42 (prW c O p) μ1 wt (hPG p hp).1.2 (by omega) (h.f2 k2) (hT.f2 k2) (fun z => ⟨(k5 z).2, (k5 z).1⟩) k3 k4 g28
  refine ⟨μ2, ?_, k2.tr l2, l3, l4, l5⟩
  rw [e_Mo_sumAt, gd_h (gk1 d hd), k1, cV_s, gd_h (gk2 d hd), e_Mo_adds_IJJ, g28, bEt rfl, cV_s, l1]
theorem m0_fig {d p : Nat} {F : Option Rs} (hd : d < 3) (e : figB (c p) = true) (h : TM c n μ) (h24 : μ.1 306 24 = nI p) (h28 : μ.1 306 28 = nI 0) : m_Mo_oneAt (nI d) μ = some (none, sI μ 306 24 (nI (p + 1))) := by
  obtain ⟨hl, a1, a2⟩ := fig_lt h.1 e
  have hn := h.1.1
  rw [e_Mo_oneAt, gd_h (gk5 d hd), s_here h h24 (by omega), cI_s, gd_h (gk5 d hd), s_inS (h.1.c p) (by omega) (by omega) (by omega), cI_s, decide_eq_true a1, decide_eq_true a2]
  show gd _ _ = _
  rw [gd_h (gk5 d hd), e_Mo_isNow, e_Mo_isNow_3, bLt (by omega) (by omega), h28, bEt rfl, bEt rfl, cV_s, h24, nI_p1]
theorem fig_in {x : Nat} (h : ¬ figB x = true) : decide (nI (b2i (decide (48 ≤ x) && decide (x ≤ 57))) = nI 0) = true := by
  rw [Bool.not_eq_true] at h
  rw [show (decide (48 ≤ x) && decide (x ≤ 57)) = false from h]
  decide
theorem m0_on (hT0 : TT c n) : ∀ (k d : Nat), k + d = 2 → SM0 c n (m_Mo_oneAt (nI d)) (onW c k) := by
  have base : ∀ (d : Nat), d < 3 → ∀ (W : Wt) (p : Nat) (μ : Mm) (wt : Option Nat), p ≤ n → TM c n μ → MT μ → (∀ b, wt = some b → b < 1000) → μ.1 306 24 = nI p → μ.1 306 25 = nI 0 → μ.1 306 26 = oc wt → μ.1 306 28 = nI 0 → (∀ (q1 : ¬ figB (c p) = true) (q2 : ¬ c p = 91), ∃ μ', m_Mo_oneAt (nI d) μ = some (none, μ') ∧ F2 μ μ' ∧ μ'.1 306 24 = nI W.1 ∧ μ'.1 306 25 = nI (b2i (!W.2.1)) ∧ (W.2.1 = true → μ'.1 306 26 = oc (wt.or W.2.2.1) ∧ ∀ b, wt.or W.2.2.1 = some b → b < 1000)) → ∃ μ', m_Mo_oneAt (nI d) μ = some (none, μ') ∧ F2 μ μ' ∧ μ'.1 306 24 = nI (if figB (c p) then (p + 1, true, none, none, sgl 0 (lN (c p - 48))) else if c p = 91 then brW c p else W : Wt).1 ∧ μ'.1 306 25 = nI (b2i (!(if figB (c p) then (p + 1, true, none, none, sgl 0 (lN (c p - 48))) else if c p = 91 then brW c p else W : Wt).2.1)) ∧ ((if figB (c p) then (p + 1, true, none, none, sgl 0 (lN (c p - 48))) else if c p = 91 then brW c p else W : Wt).2.1 = true → μ'.1 306 26 = oc (wt.or (if figB (c p) then (p + 1, true, none, none, sgl 0 (lN (c p - 48))) else if c p = 91 then brW c p else W : Wt).2.2.1) ∧ ∀ b, wt.or (if figB (c p) then (p + 1, true, none, none, sgl 0 (lN (c p - 48))) else if c p = 91 then brW c p else W : Wt).2.2.1 = some b → b < 1000) := by
    intro d hd W p μ wt hp h hT hw h24 h25 h26 h28 hE
    have hn := h.1.1
    by_cases q1 : figB (c p) = true
    · rw [if_pos q1]
      refine ⟨_, m0_fig (F := none) hd q1 h h24 h28, F2.I (Or.inl rfl), by rw [sI_s, up_s], by rw [sI_s, up_o (by omega), h25]; rfl, fun _ => ⟨?_, ?_⟩⟩
      · rw [sI_s, up_o (by omega), h26]
        cases wt <;> rfl
      · intro b hb
        cases wt with
        | none => cases hb
        | some b' => exact hw b hb
    · rw [if_neg q1]
      by_cases q2 : c p = 91
      · rw [if_pos q2]
        obtain ⟨μ', k1, k2, k3, k4, k5⟩ := m0_br (F := fun _ => none) q2 hp h hT hw h24 h25 h26 h28
        refine ⟨μ', ?_, k2, k3, k4, k5⟩
        rw [e_Mo_oneAt, gd_h (gk5 d hd), s_here h h24 (by omega), cI_s, gd_h (gk5 d hd), s_inS (h.1.c p) (by omega) (by omega) (by omega), cI_s, fig_in q1, cond_true, sv_e (h.1.c p) (by omega), bt (decide_eq_true q2), gd_h (gk6 d hd), k1, cV_s]
      · rw [if_neg q2]
        exact hE q1 q2
  have bad : ∀ (d : Nat), d < 3 → ∀ (p : Nat) (μ : Mm) (wt : Option Nat), p ≤ n → TM c n μ → μ.1 306 24 = nI p → ¬ figB (c p) = true → ¬ c p = 91 → ¬ (c p = 40 ∧ d < 2) → ∃ μ', m_Mo_oneAt (nI d) μ = some (none, μ') ∧ F2 μ μ' ∧ μ'.1 306 24 = nI (failW p).1 ∧ μ'.1 306 25 = nI (b2i (!(failW p).2.1)) ∧ ((failW p).2.1 = true → μ'.1 306 26 = oc (wt.or (failW p).2.2.1) ∧ ∀ b, wt.or (failW p).2.2.1 = some b → b < 1000) := by
    intro d hd p μ wt hp h h24 q1 q2 q3
    have hn := h.1.1
    refine ⟨sI μ 306 25 (nI 1), ?_, F2.I (Or.inr (Or.inl rfl)), by rw [sI_s, up_o (by omega)]; exact h24, by rw [sI_s, up_s]; rfl, fun z => by cases z⟩
    rw [e_Mo_oneAt, gd_h (gk5 d hd), s_here h h24 (by omega), cI_s, gd_h (gk5 d hd), s_inS (h.1.c p) (by omega) (by omega) (by omega), cI_s, fig_in q1, cond_true, sv_e (h.1.c p) (by omega), bf (decide_eq_false q2), sv_e (h.1.c p) (by omega)]
    by_cases q4 : c p = 40
    · rw [bt (decide_eq_true q4), bLf (by omega) (by omega), gd_h isb_1]
    · rw [bf (decide_eq_false q4), gd_h isb_1]
  intro k
  induction k with
  | zero =>
    intro d hk p μ wt hp h hT hw h24 h25 h26 h28
    unfold onW
    exact base d (by omega) (failW p) p μ wt hp h hT hw h24 h25 h26 h28 (fun q1 q2 => bad d (by omega) p μ wt hp h h24 q1 q2 (by omega))
  | succ k ih =>
    intro d hk p μ wt hp h hT hw h24 h25 h26 h28
    have hn := h.1.1
    unfold onW
    refine base d (by omega) (if c p = 40 then cloW c (smW c (onW c k) (p + 1)) else failW p) p μ wt hp h hT hw h24 h25 h26 h28 (fun q1 q2 => ?_)
    by_cases q3 : c p = 40
    · rw [if_pos q3]
      have hd : d < 3 := by omega
      have hl := h.1.lt (i := p) (by omega)
      have F0 : F2 μ (sI μ 306 24 (nI (p + 1))) := F2.I (Or.inl rfl)
      have hS := m0_sm hT0 (show d + 1 < 3 by omega) (go_on hT0 k) (ih (d + 1) (by omega))
      obtain ⟨μ1, k1, k2, k3, k4, k5⟩ := hS (p + 1) (sI μ 306 24 (nI (p + 1))) wt (by omega) (h.f2 F0) (hT.f2 F0) hw (by rw [sI_s, up_s]) (by rw [sI_s, up_o (by omega)]; exact h25) (by rw [sI_s, up_o (by omega)]; exact h26) (by rw [sI_s, up_o (by omega)]; exact h28)
      have F1 := F0.tr k2
      have g28 : μ1.1 306 28 = nI 0 := by rw [F1.2 28 (by omega) (by omega) (by omega)]; exact h28
      have hM := h.f2 F1
      obtain ⟨⟨g1, g2⟩, -⟩ := go_sm hT0 (go_on hT0 k) (p + 1) (show p + 1 ≤ n by omega)
      have pre : m_Mo_oneAt (nI d) μ = bif decide (μ1.1 306 25 = nI 0) then (gd (Nat.ble 1 (pK 226 [.ref 306, .int (nI d)])) (cI (m_Mo_here μ1) fun v7 μ6 => bif decide (v7 = nI 41) then (m_Mo_oneAt_129 (pK 226 [.ref 306, .int (nI d)]) (((nI d + (nI 1)) * (nI 19)) * (nI 31)) (nI 0) (sI μ6 306 24 ((μ6.1 306 24) + (nI 1)))) else (gd (isb (nI 1)) (some (none, sI μ6 306 25 (nI 1)))))) else (some (none, μ1)) := by
        rw [e_Mo_oneAt, gd_h (gk5 d hd), s_here h h24 (by omega), cI_s, gd_h (gk5 d hd), s_inS (h.1.c p) (by omega) (by omega) (by omega), cI_s, fig_in q1, cond_true, sv_e (h.1.c p) (by omega), bf (decide_eq_false q2), sv_e (h.1.c p) (by omega), bt (decide_eq_true q3), bLt (show d < 2 by omega) (by omega), h24, nI_p1, nI_p1, gd_h (gk7 d (by omega)), k1, cV_s]
      rw [pre, k4]
      unfold cloW
      by_cases q4 : (smW c (onW c k) (p + 1)).2.1 = true
      · obtain ⟨b1, b2⟩ := k5 q4
        rw [q4, bt (by decide), gd_h (gk5 d hd), s_here hM k3 (by omega), cI_s, sv_e (h.1.c _) (by omega)]
        by_cases q5 : c (smW c (onW c k) (p + 1)).1 = 41
        · rw [bt (decide_eq_true q5), if_pos ⟨rfl, q5⟩, k3, nI_p1, nI_p1, e_Mo_oneAt_129, bLt (by omega) (by omega), show (sI μ1 306 24 (nI ((smW c (onW c k) (p + 1)).1 + 1))).1 306 28 = nI 0 by rw [sI_s, up_o (by omega)]; exact g28, bEt rfl]
          refine ⟨_, rfl, F1.tr (F2.I (Or.inl rfl)), by rw [sI_s, up_s], ?_, fun _ => ⟨by rw [sI_s, up_o (by omega)]; exact b1, b2⟩⟩
          rw [sI_s, up_o (by omega), k4, q4]
        · rw [bf (decide_eq_false q5), if_neg (fun z => q5 z.2), gd_h isb_1]
          exact ⟨_, rfl, F1.tr (F2.I (Or.inr (Or.inl rfl))), by rw [sI_s, up_o (by omega)]; exact k3, by rw [sI_s, up_s]; rfl, fun z => by cases z⟩
      · rw [if_neg (fun z => q4 z.1)]
        rw [Bool.not_eq_true] at q4
        rw [q4, bf (by decide)]
        exact ⟨_, rfl, F1, k3, by rw [k4, q4]; rfl, fun z => by cases z⟩
    · rw [if_neg q3]
      exact bad d (by omega) p μ wt hp h h24 q1 q2 (fun z => q3 z.1)
/-- goes, nothing worked out -/
theorem s_goes0 (h : TM c n μ) (hT : MT μ) : ∃ μ', m_Mo_goes (nI 0) μ = some (none, μ') ∧ (Fr (fun k => k = 306) μ μ' ∧ ∀ j, (j < 24 ∨ 28 < j) → μ'.1 306 j = μ.1 306 j) ∧ (okW c n → μ'.1 306 25 = nI 0 ∧ μ'.1 306 26 = oc (W0 c).2.2.1 ∧ ∀ b, (W0 c).2.2.1 = some b → b < 1000) ∧ (¬ okW c n → μ'.1 306 25 = nI 1 ∧ μ'.1 306 24 = nI (W0 c).1) := by
  have hn := h.1.1
  have hT0 := h.1
  have G0 : Fr (fun k => k = 306) μ (sI (sI (sI (sI (sI μ 306 24 (nI 0)) 306 25 (nI 0)) 306 26 (-1 : Int32)) 306 27 (-1 : Int32)) 306 28 (nI 0)) := ((((Fr.sI (S := fun k => k = 306) rfl).t2 (Fr.sI rfl)).t2 (Fr.sI rfl)).t2 (Fr.sI rfl)).t2 (Fr.sI rfl)
  have G1 : ∀ j, (j < 24 ∨ 28 < j) → (sI (sI (sI (sI (sI μ 306 24 (nI 0)) 306 25 (nI 0)) 306 26 (-1 : Int32)) 306 27 (-1 : Int32)) 306 28 (nI 0)).1 306 j = μ.1 306 j := fun j hj => by
    rw [sI_s, up_o (by omega), sI_s, up_o (by omega), sI_s, up_o (by omega), sI_s, up_o (by omega), sI_s, up_o (by omega)]
  have h0 : TM c n (sI (sI (sI (sI (sI μ 306 24 (nI 0)) 306 25 (nI 0)) 306 26 (-1 : Int32)) 306 27 (-1 : Int32)) 306 28 (nI 0)) := by
    unfold TM
    rw [G1 23 (by omega), (G0 322 (by omega)).1]
    exact h
  obtain ⟨μ1, k1, k2, k3, k4, k5⟩ := m0_sm hT0 (show 0 < 3 by omega) (go_on hT0 2) (m0_on hT0 2 0 rfl) 0 _ none (by omega) h0 (hT.fr G0 (by omega) (by omega) (by omega)) (fun b hb => by cases hb) (by rw [sI_s, up_o (by omega), sI_s, up_o (by omega), sI_s, up_o (by omega), sI_s, up_o (by omega), sI_s, up_s]) (by rw [sI_s, up_o (by omega), sI_s, up_o (by omega), sI_s, up_o (by omega), sI_s, up_s]) (by rw [sI_s, up_o (by omega), sI_s, up_o (by omega), sI_s, up_s]; rfl) (by rw [sI_s, up_s])
  have hle := w0_le hT0
  have k3 : μ1.1 306 24 = nI (W0 c).1 := k3
  have k4 : μ1.1 306 25 = nI (b2i (!(W0 c).2.1)) := k4
  have k5 : (W0 c).2.1 = true → μ1.1 306 26 = oc ((none : Option Nat).or (W0 c).2.2.1) ∧ ∀ b, (none : Option Nat).or (W0 c).2.2.1 = some b → b < 1000 := k5
  have hM := h0.f2 k2
  have FF : ∀ v : Int32, Fr (fun k => k = 306) μ (sI μ1 306 25 v) ∧ ∀ j, (j < 24 ∨ 28 < j) → (sI μ1 306 25 v).1 306 j = μ.1 306 j := fun v => ⟨(G0.t2 k2.1).t2 (Fr.sI rfl), fun j hj => by rw [sI_s, up_o (by omega), k2.2 j (by omega) (by omega) (by omega), G1 j hj]⟩
  have go : m_Mo_goes (nI 0) μ = bif decide (μ1.1 306 25 = nI 0) then (bif decide (μ1.1 306 24 < μ1.1 306 23) then (some (none, sI μ1 306 25 (nI 1))) else (some (none, sI μ1 306 25 (nI 0)))) else (some (none, sI μ1 306 25 (nI 1))) := by
    rw [e_Mo_goes, gd_h isb_0, gd_h isb_0, gd_h gk9, k1, cV_s, gd_h isb_1, gd_h isb_0]
  rw [go, k4, k3, hM.2.1]
  by_cases q : (W0 c).2.1 = true
  · obtain ⟨b1, b2⟩ := k5 q
    rw [q, bt (by decide)]
    by_cases q2 : (W0 c).1 = n
    · rw [bLf (by omega) (by omega)]
      refine ⟨_, rfl, FF _, fun _ => ⟨by rw [sI_s, up_s], ?_, b2⟩, fun z => absurd ⟨q, q2⟩ z⟩
      rw [sI_s, up_o (by omega), b1]
      rfl
    · rw [bLt (by omega) (by omega)]
      exact ⟨_, rfl, FF _, fun z => absurd z.2 q2, fun _ => ⟨by rw [sI_s, up_s], by rw [sI_s, up_o (by omega)]; exact k3⟩⟩
  · rw [Bool.not_eq_true] at q
    rw [q, bf (by decide)]
    exact ⟨_, rfl, FF _, fun z => (by rw [z.1] at q; cases q), fun _ => ⟨by rw [sI_s, up_s], by rw [sI_s, up_o (by omega)]; exact k3⟩⟩
end FRM
