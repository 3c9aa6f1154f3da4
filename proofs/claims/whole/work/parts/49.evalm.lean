/-! sums worked out: the reference's side -/
abbrev fEv (k : Nat) : Prop := fMb k ∨ k = 323 ∨ k = 324 ∨ k = 325
/-- what is worked out on deeper levels changes: sums from level a on, factors from level b on -/
def FE (a b : Nat) (μ μ' : Mm) : Prop := (Fr fEv μ μ' ∧ ∀ j, j ≠ 11 → j ≠ 24 → j ≠ 27 → μ'.1 306 j = μ.1 306 j) ∧ (∀ j, j < a * 589 → μ'.2 323 j = μ.2 323 j) ∧ ∀ j, j < b * 589 → μ'.2 324 j = μ.2 324 j
theorem FE.rf {a b : Nat} {μ : Mm} : FE a b μ μ := ⟨⟨Fr.rf, fun _ _ _ _ => rfl⟩, fun _ _ => rfl, fun _ _ => rfl⟩
theorem FE.tr {a b : Nat} {x y z : Mm} (h : FE a b x y) (k : FE a b y z) : FE a b x z := ⟨⟨h.1.1.t2 k.1.1, fun j h1 h2 h3 => (k.1.2 j h1 h2 h3).trans (h.1.2 j h1 h2 h3)⟩, fun j hj => (k.2.1 j hj).trans (h.2.1 j hj), fun j hj => (k.2.2 j hj).trans (h.2.2 j hj)⟩
theorem FE.mono {a b a' b' : Nat} {x y : Mm} (h : FE a b x y) (ha : a' ≤ a) (hb : b' ≤ b) : FE a' b' x y := ⟨h.1, fun j hj => h.2.1 j (Nat.lt_of_lt_of_le hj (Nat.mul_le_mul_right 589 ha)), fun j hj => h.2.2 j (Nat.lt_of_lt_of_le hj (Nat.mul_le_mul_right 589 hb))⟩
theorem FE.at {a b : Nat} {μ : Mm} {v : Int32} : FE a b μ (sI μ 306 24 v) := ⟨⟨Fr.sI (Or.inl (Or.inr (Or.inr (Or.inl rfl)))), fun j _ h2 _ => by rw [sI_s, up_o h2]⟩, fun _ _ => rfl, fun _ _ => rfl⟩
theorem FE.one {a b : Nat} {μ : Mm} {f : Nat → Int64} : FE a b μ (wL μ 325 f) := ⟨⟨Fr.wL (Or.inr (Or.inr (Or.inr rfl))), fun _ _ _ _ => rfl⟩, fun j _ => by rw [wL_o (by omega)], fun j _ => by rw [wL_o (by omega)]⟩
theorem F24.fe {a b : Nat} {x y : Mm} (h : F24 x y) : FE a b x y := ⟨⟨h.1.w (fun k hk => Or.inl (Or.inr (Or.inr (Or.inl hk)))), fun j _ h2 _ => h.2 j h2⟩, fun j _ => by rw [(h.1 323 (by omega)).2], fun j _ => by rw [(h.1 324 (by omega)).2]⟩
section EVM
variable {c : Nat → Nat} {n : Nat}
def MI (c : Nat → Nat) (n : Nat) (μ : Mm) : Prop := (TM c n μ ∧ MT μ ∧ CT μ ∧ HP μ) ∧ μ.1 306 25 = nI 0 ∧ μ.1 306 28 = nI 1
theorem TM.fe {a b : Nat} {μ μ' : Mm} (h : TM c n μ) (F : FE a b μ μ') : TM c n μ' := by
  unfold TM
  rw [F.1.2 23 (by omega) (by omega) (by omega), (F.1.1 322 (by omega)).1]
  exact h
theorem MI.fe {a b : Nat} {μ μ' : Mm} (h : MI c n μ) (F : FE a b μ μ') (hP : HP μ') : MI c n μ' :=
  ⟨⟨h.1.1.fe F, h.1.2.1.fr F.1.1 (by omega) (by omega) (by omega), h.1.2.2.1.fr F.1.1 (fun k x y => by omega) (by omega), hP⟩, by rw [F.1.2 25 (by omega) (by omega) (by omega)]; exact h.2.1, by rw [F.1.2 28 (by omega) (by omega) (by omega)]; exact h.2.2⟩
theorem HP.at {μ : Mm} {v : Int32} (h : HP μ) : HP (sI μ 306 24 v) := by
  unfold HP
  rw [sI_s, up_o (by omega)]
  exact h
theorem HP.L {μ : Mm} {k : Nat} {f : Nat → Int64} (h : HP μ) (h1 : k ≠ 313) (h2 : k ≠ 306) : HP (wL μ k f) := h.fr (Fr.wL (S := fun c => c = k) rfl) (fun z => h1 z.symm) (fun z => h2 z.symm)
theorem or_nn0 {α : Type} {a b : Option α} (h : a.or b = none) : a = none ∧ b = none := by
  cases a with
  | none => exact ⟨rfl, h⟩
  | some x => cases h
/-- one is a type, so many times -/
theorem s_isNow {t : Nat} (ht : t < 19) (x : Int64) {μ : Mm} (h : μ.1 306 28 = nI 1) : ∃ F, m_Mo_isNow (nI t) x μ = some (none, wL μ 325 F) ∧ ME 325 0 (sgl t x) (wL μ 325 F) := by
  have z0 : m_Mo_isNow_3 (nI t) x (nI 0) μ = some (none, sL (wL μ 325 (rowL 0 589 (fun _ _ => lN 0) (μ.2 325))) 325 (t * 31) x) :=
    lp_L (L := fun i m => m_Mo_isNow_3 (nI t) x (nI i) m) (K := fun m => some (none, sL m 325 (t * 31) x)) 325 0 589 (fun _ _ => lN 0) (fun i F hi hF => by
      show m_Mo_isNow_3 _ _ _ _ = m_Mo_isNow_3 _ _ _ _
      rw [e_Mo_isNow_3, bLt hi (by omega), show (wL μ 325 F).1 306 28 = nI 1 from h, bf (by decide), gi hi (by omega), kl (by omega), nI_p1, wL_u, Nat.zero_add]) (fun F => by
      show m_Mo_isNow_3 _ _ _ _ = _
      rw [e_Mo_isNow_3, bLf (by omega) (by omega), show (wL μ 325 F).1 306 28 = nI 1 from h, bf (by decide), nI_mul, gi (by omega) (by omega), kl (by omega)])
  refine ⟨vp_updL (rowL 0 589 (fun _ _ => lN 0) (μ.2 325)) (t * 31) x, by rw [e_Mo_isNow, z0, wL_u], fun u hu j hj => ?_⟩
  rw [wL_s, Nat.zero_add]
  unfold sgl
  by_cases q : u = t ∧ j = 0
  · rw [if_pos q, q.1, q.2, Nat.add_zero, uL_s]
  · rw [if_neg q, uL_o (by omega), rowL0 (by omega)]
theorem prL_bt {O : Nat → Wt} : ∀ {f : Nat} {w : Wt}, (prL c O f w).2.2.1 = none → (prL c O f w).2.1 = true → w.2.2.1 = none
  | 0, w, _, h => by cases h
  | f + 1, w, hb, hk => by
    by_cases q : w.2.1 = true ∧ c w.1 = 42
    · rw [prL_s q.1 q.2] at hb hk
      have := prL_bt hb hk
      exact (or_nn0 (show w.2.2.1.or (O (w.1 + 1)).2.2.1 = none from this)).1
    · rw [prL_n q] at hb
      exact hb
theorem smL_bt {P : Nat → Wt} : ∀ {f : Nat} {w : Wt}, (smL c P f w).2.2.1 = none → (smL c P f w).2.1 = true → w.2.2.1 = none
  | 0, w, _, h => by cases h
  | f + 1, w, hb, hk => by
    by_cases q : w.2.1 = true ∧ (c w.1 = 43 ∨ c w.1 = 45)
    · rw [smL_s q.1 q.2] at hb hk
      have := smL_bt hb hk
      exact (or_nn0 (show w.2.2.1.or (P (w.1 + 1)).2.2.1 = none from this)).1
    · rw [smL_n q] at hb
      exact hb
/-- how a reader of the reference's answers, where all is worked out -/
def SB (c : Nat → Nat) (n : Nat) (F : Mm → Option Rs) (O : Nat → Wt) (a b : Nat) (R : Vt → Mm → Prop) : Prop := ∀ (p : Nat) (μ : Mm) (ws : Option Nat), p ≤ n → MI c n μ → (∀ b, ws = some b → b < 1000) → μ.1 306 24 = nI p → μ.1 306 27 = oc ws → (O p).2.1 = true → (O p).2.2.1 = none →
  ∃ μ', F μ = some (none, μ') ∧ FE a b μ μ' ∧ MI c n μ' ∧ μ'.1 306 24 = nI (O p).1 ∧ μ'.1 306 27 = oc (ws.or (O p).2.2.2.1) ∧ (∀ b, ws.or (O p).2.2.2.1 = some b → b < 1000) ∧ (ws = none → (O p).2.2.2.1 = none → R (O p).2.2.2.2 μ')
theorem or_nn {α : Type} {a b : Option α} (h : a.or b = none) : a = none ∧ b = none := by
  cases a with
  | none => exact ⟨rfl, h⟩
  | some x => cases h
theorem FC.fe {d : Nat} {μ μ' : Mm} (h : FC (d * 589) μ μ') : FE (d + 1) d μ μ' := ⟨⟨h.1.1.w (fun k hk => hk.elim (fun z => Or.inl z) (fun z => Or.inr (Or.inr (Or.inl z)))), fun j h1 _ h3 => h.1.2 j h1 h3⟩, fun j _ => by rw [(h.1.1 323 (by omega)).2], fun j hj => h.2 j hj⟩
theorem b_prL {O : Nat → Wt} {d : Nat} (hd : d < 3) (hG : GO n O) (hO : SB c n (m_Mo_oneAt (nI d)) O (d + 1) (d + 1) (fun v μ => ME 325 0 v μ)) : ∀ (f : Nat) (w : Wt) (μ : Mm) (ws : Option Nat), w.1 ≤ n → 42 ≤ w.1 + f → MI c n μ → (∀ b, ws.or w.2.2.2.1 = some b → b < 1000) → μ.1 306 24 = nI w.1 → μ.1 306 27 = oc (ws.or w.2.2.2.1) → (ws = none → w.2.2.2.1 = none → ME 324 (d * 589) w.2.2.2.2 μ) → (prL c O f w).2.1 = true → (prL c O f w).2.2.1 = none →
    ∃ μ', m_Mo_productAt_49 (pK 222 [.ref 306, .int (nI d)]) (nI d) (nI (d * 589)) μ = some (none, μ') ∧ FE (d + 1) d μ μ' ∧ MI c n μ' ∧ μ'.1 306 24 = nI (prL c O f w).1 ∧ μ'.1 306 27 = oc (ws.or (prL c O f w).2.2.2.1) ∧ (∀ b, ws.or (prL c O f w).2.2.2.1 = some b → b < 1000) ∧ (ws = none → (prL c O f w).2.2.2.1 = none → ME 324 (d * 589) (prL c O f w).2.2.2.2 μ')
  | 0, w, μ, ws, h1, h2, hI, hw, h24, h27, hv, hk, hb => by cases hk
  | f + 1, w, μ, ws, h1, h2, hI, hw, h24, h27, hv, hk, hb => by
    have hM := hI.1.1
    have hn := hM.1.1
    have q1 : w.2.1 = true := prL_ok hk
    by_cases q2 : c w.1 = 42
    · have hl := hM.1.lt (i := w.1) (by omega)
      rw [prL_s q1 q2] at hk hb ⊢
      have zk : (combP w (O (w.1 + 1))).2.1 = true := prL_ok hk
      have zk : (O (w.1 + 1)).2.1 = true := zk
      have zb : (combP w (O (w.1 + 1))).2.2.1 = none := prL_bt hb hk
      have zb2 := (or_nn (show w.2.2.1.or (O (w.1 + 1)).2.2.1 = none from zb)).2
      obtain ⟨⟨g1, g2⟩, g3⟩ := hG (w.1 + 1) (by omega)
      have F0 : FE (d + 1) (d + 1) μ (sI μ 306 24 (nI (w.1 + 1))) := FE.at
      obtain ⟨μ1, k1, k2, k3, k4, k5, k6, k7⟩ := hO (w.1 + 1) (sI μ 306 24 (nI (w.1 + 1))) (ws.or w.2.2.2.1) (by omega) (hI.fe F0 hI.1.2.2.2.at) hw (by rw [sI_s, up_s]) (by rw [sI_s, up_o (by omega)]; exact h27) zk zb2
      have F1 := F0.tr k2
      have ho : d * 589 + 589 ≤ 1767 := by omega
      -- the product, by what the memory holds
      have step : ∀ (F G : Vt), ME 324 (d * 589) F μ1 → ME 325 0 G μ1 → ∃ μ2, m_Mo_multipliesBy (nI (d * 589)) (nI w.1) μ1 = some (none, μ2) ∧ FE (d + 1) d μ1 μ2 ∧ MI c n μ2 ∧ μ2.1 306 24 = nI (O (w.1 + 1)).1 ∧ (PVo F G = none → μ2.1 306 27 = oc (((ws.or w.2.2.2.1).or (O (w.1 + 1)).2.2.2.1).or (some w.1))) ∧ ∀ b, PVo F G = some b → ME 324 (d * 589) b μ2 ∧ μ2.1 306 27 = oc ((ws.or w.2.2.2.1).or (O (w.1 + 1)).2.2.2.1) := by
        intro F G hF hGm
        obtain ⟨μ2, a1, a2, a3, a4, a5⟩ := s_multipliesBy ho (show w.1 < 1000 by omega) k6 k3.1.2.2.1 k3.1.2.1 k3.1.2.2.2 hF hGm k5
        exact ⟨μ2, a1, a2.fe, k3.fe a2.fe a3, by rw [a2.1.2 24 (by omega) (by omega)]; exact k4, a4, a5⟩
      have pre : ∀ μ2, m_Mo_multipliesBy (nI (d * 589)) (nI w.1) μ1 = some (none, μ2) → m_Mo_productAt_49 (pK 222 [.ref 306, .int (nI d)]) (nI d) (nI (d * 589)) μ = m_Mo_productAt_49 (pK 222 [.ref 306, .int (nI d)]) (nI d) (nI (d * 589)) μ2 := fun μ2 hm => by
        rw [e_Mo_productAt_49, hI.2.1, bEt rfl, gd_h (gk4 d hd), s_here hM h24 (by omega), cI_s, sv_e (hM.1.c _) (by omega), bt (decide_eq_true q2), gd_h (gk3 d hd), h24, nI_p1, k1, cV_s, k3.2.2, bf (by decide), k3.2.1, bEt rfl, gd_h (gk8 d hd), hm, cV_s]
      by_cases hA : (ws = none ∧ w.2.2.2.1 = none) ∧ (O (w.1 + 1)).2.2.2.1 = none
      · obtain ⟨⟨A1, A2⟩, A3⟩ := hA
        have hF : ME 324 (d * 589) w.2.2.2.2 μ1 := fun t ht j hj => by
          rw [F1.2.2 _ (by omega)]
          exact hv A1 A2 t ht j hj
        obtain ⟨μ2, a1, a2, a3, a4, a5, a6⟩ := step w.2.2.2.2 (O (w.1 + 1)).2.2.2.2 hF (k7 (by rw [A1, A2]; rfl) A3)
        have F2 : FE (d + 1) d μ μ2 := (F1.mono (Nat.le_refl _) (by omega)).tr a2
        have cm : (combP w (O (w.1 + 1))).2.2.2 = (match PVo w.2.2.2.2 (O (w.1 + 1)).2.2.2.2 with
          | none => (some w.1, w.2.2.2.2)
          | some h => (none, h)) := by
          show ((cmB w (O (w.1 + 1))).1, (cmB w (O (w.1 + 1))).2) = _
          unfold cmB
          rw [A2, A3]
          cases PVo w.2.2.2.2 (O (w.1 + 1)).2.2.2.2 <;> rfl
        have r27 : μ2.1 306 27 = oc (ws.or (combP w (O (w.1 + 1))).2.2.2.1) ∧ (∀ b, ws.or (combP w (O (w.1 + 1))).2.2.2.1 = some b → b < 1000) ∧ ((combP w (O (w.1 + 1))).2.2.2.1 = none → ME 324 (d * 589) (combP w (O (w.1 + 1))).2.2.2.2 μ2) := by
          rw [cm]
          rw [A1, A2, A3] at a5 a6
          cases hp : PVo w.2.2.2.2 (O (w.1 + 1)).2.2.2.2 with
          | none =>
            rw [A1]
            refine ⟨a5 hp, ?_, fun z => by cases z⟩
            rintro b ⟨⟩
            omega
          | some h =>
            rw [A1]
            exact ⟨(a6 h hp).2, fun b z => (by cases z), fun _ => (a6 h hp).1⟩
        obtain ⟨μ3, b1, b2, b3, b4, b5, b6, b7⟩ := b_prL hd hG hO f (combP w (O (w.1 + 1))) μ2 ws g2 (by show 42 ≤ (O (w.1 + 1)).1 + f; omega) a3 r27.2.1 a4 r27.1 (fun _ z => r27.2.2 z) hk hb
        exact ⟨μ3, by rw [pre μ2 a1, b1], F2.tr b2, b3, b4, b5, b6, b7⟩
      · obtain ⟨x, hx⟩ : ∃ x, (ws.or w.2.2.2.1).or (O (w.1 + 1)).2.2.2.1 = some x := by
          cases hz : (ws.or w.2.2.2.1).or (O (w.1 + 1)).2.2.2.1 with
          | some x => exact ⟨x, rfl⟩
          | none =>
            obtain ⟨y1, y2⟩ := or_nn hz
            exact absurd ⟨or_nn y1, y2⟩ hA
        obtain ⟨μ2, a1, a2, a3, a4, a5, a6⟩ := step (fun t j => μ1.2 324 (d * 589 + (t * 31 + j))) (fun t j => μ1.2 325 (0 + (t * 31 + j))) (fun t ht j hj => rfl) (fun t ht j hj => rfl)
        have F2 : FE (d + 1) d μ μ2 := (F1.mono (Nat.le_refl _) (by omega)).tr a2
        have e27 : μ2.1 306 27 = oc (some x) := by
          rw [hx] at a5 a6
          cases hp : PVo (fun t j => μ1.2 324 (d * 589 + (t * 31 + j))) (fun t j => μ1.2 325 (0 + (t * 31 + j))) with
          | none => exact a5 hp
          | some h => exact (a6 h hp).2
        have cm : ws.or (combP w (O (w.1 + 1))).2.2.2.1 = some x := by
          show ws.or (cmB w (O (w.1 + 1))).1 = some x
          unfold cmB
          cases ws with
          | some y => exact hx
          | none =>
            cases hy : w.2.2.2.1 with
            | some y => rw [hy] at hx; exact hx
            | none =>
              rw [hy] at hx
              have hx : (O (w.1 + 1)).2.2.2.1 = some x := hx
              rw [hx]
              rfl
        obtain ⟨μ3, b1, b2, b3, b4, b5, b6, b7⟩ := b_prL hd hG hO f (combP w (O (w.1 + 1))) μ2 ws g2 (by show 42 ≤ (O (w.1 + 1)).1 + f; omega) a3 (fun b z => by
          rw [cm] at z
          cases z
          exact k6 x hx) a4 (by rw [cm]; exact e27) (fun y1 y2 => by
          rw [y1, y2] at cm
          cases cm) hk hb
        exact ⟨μ3, by rw [pre μ2 a1, b1], F2.tr b2, b3, b4, b5, b6, b7⟩
    · rw [prL_n (fun z => q2 z.2)]
      refine ⟨μ, ?_, FE.rf, hI, h24, h27, hw, hv⟩
      rw [e_Mo_productAt_49, hI.2.1, bEt rfl, gd_h (gk4 d hd), s_here hM h24 (by omega), cI_s, sv_e (hM.1.c _) (by omega), bf (decide_eq_false q2)]
theorem b_pr {O : Nat → Wt} {d : Nat} (hd : d < 3) (hG : GO n O) (hO : SB c n (m_Mo_oneAt (nI d)) O (d + 1) (d + 1) (fun v μ => ME 325 0 v μ)) : SB c n (m_Mo_productAt (nI d)) (prW c O) (d + 1) d (fun v μ => ME 324 (d * 589) v μ) := fun p μ ws hp hI hw h24 h27 hk hb => by
  have ho : d * 589 + 589 ≤ 1767 := by omega
  obtain ⟨μ1, k1, k2, k3, k4, k5, k6, k7⟩ := hO p μ ws hp hI hw h24 h27 (prL_ok (f := 42) hk) (prL_bt (f := 42) hb hk)
  have cp : m_Mo_productAt_15 (pK 222 [.ref 306, .int (nI d)]) (nI d) (nI (d * 589)) (nI 0) μ1 = m_Mo_productAt_49 (pK 222 [.ref 306, .int (nI d)]) (nI d) (nI (d * 589)) (wL μ1 324 (rowL (d * 589) 589 (fun i _ => μ1.2 325 i) (μ1.2 324))) :=
    lp_L (L := fun i m => m_Mo_productAt_15 (pK 222 [.ref 306, .int (nI d)]) (nI d) (nI (d * 589)) (nI i) m) (K := fun m => m_Mo_productAt_49 (pK 222 [.ref 306, .int (nI d)]) (nI d) (nI (d * 589)) m) 324 (d * 589) 589 (fun i _ => μ1.2 325 i) (fun i F hi hF => by
      show m_Mo_productAt_15 _ _ _ _ _ = m_Mo_productAt_15 _ _ _ _ _
      rw [e_Mo_productAt_15, bLt hi (by omega), show (wL μ1 324 F).1 306 28 = nI 1 from k3.2.2, bf (by decide), gi hi (by omega), nI_add, gi (by omega) (by omega), kl (by omega), kl (by omega), nI_p1, wL_u, wL_o (by omega)]) (fun F => by
      show m_Mo_productAt_15 _ _ _ _ _ = _
      rw [e_Mo_productAt_15, bLf (by omega) (by omega)])
  have F1 : FE (d + 1) d μ1 (wL μ1 324 (rowL (d * 589) 589 (fun i _ => μ1.2 325 i) (μ1.2 324))) := ⟨⟨Fr.wL (Or.inr (Or.inr (Or.inl rfl))), fun _ _ _ _ => rfl⟩, fun j _ => by rw [wL_o (by omega)], fun j hj => by rw [wL_s, rowL_out (by omega)]⟩
  obtain ⟨μ2, b1, b2, b3, b4, b5, b6, b7⟩ := b_prL hd hG hO 42 (O p) _ ws (hG p hp).1.2 (by omega) (k3.fe F1 (k3.1.2.2.2.L (by omega) (by omega))) k6 k4 k5 (fun y1 y2 t ht j hj => by
    have := k7 y1 y2 t ht j hj
    rw [Nat.zero_add] at this
    rw [wL_s, rowL_in (by omega), this]) hk hb
  refine ⟨μ2, ?_, ((k2.mono (Nat.le_refl _) (by omega)).tr F1).tr b2, b3, b4, b5, b6, b7⟩
  rw [e_Mo_productAt, gd_h (gk3 d hd), k1, cV_s, nI_mul, nI_mul, show d * 19 * 31 = d * 589 by omega, cp, b1]
/-- the product comes to the sum -/
theorem s_adds_I {d : Nat} (hd : d < 3) (x y : Int64) {μ : Mm} (h : μ.1 306 28 = nI 1) : m_Mo_adds_IJJ (nI d) x y μ = some (none, wL μ 323 (rowL (d * 589) 589 (fun i v => x * v + y * μ.2 324 (d * 589 + i)) (μ.2 323))) := by
  have cp : m_Mo_adds_IJJ_20 x y (nI (d * 589)) (nI 0) μ = some (none, wL μ 323 (rowL (d * 589) 589 (fun i v => x * v + y * μ.2 324 (d * 589 + i)) (μ.2 323))) :=
    lp_L (L := fun i m => m_Mo_adds_IJJ_20 x y (nI (d * 589)) (nI i) m) (K := fun m => some (none, m)) 323 (d * 589) 589 (fun i v => x * v + y * μ.2 324 (d * 589 + i)) (fun i F hi hF => by
      show m_Mo_adds_IJJ_20 _ _ _ _ _ = m_Mo_adds_IJJ_20 _ _ _ _ _
      rw [e_Mo_adds_IJJ_20, bLt hi (by omega), nI_add, gi (by omega) (by omega), gi (by omega) (by omega), gi (by omega) (by omega), kl (by omega), nI_p1, wL_u, wL_s, wL_o (by omega), hF]) (fun F => by
      show m_Mo_adds_IJJ_20 _ _ _ _ _ = _
      rw [e_Mo_adds_IJJ_20, bLf (by omega) (by omega)])
  rw [e_Mo_adds_IJJ, h, bf (by decide), nI_mul, nI_mul, show d * 19 * 31 = d * 589 by omega, cp]
theorem F_adds {d : Nat} {μ : Mm} {G : Nat → Int64 → Int64} : FE d d μ (wL μ 323 (rowL (d * 589) 589 G (μ.2 323))) := ⟨⟨Fr.wL (Or.inr (Or.inl rfl)), fun _ _ _ _ => rfl⟩, fun j hj => by rw [wL_s, rowL_out (by omega)], fun j _ => by rw [wL_o (by omega)]⟩
theorem b_smL {P : Nat → Wt} {d : Nat} (hd : d < 3) (hG : GO n P) (hP : SB c n (m_Mo_productAt (nI d)) P (d + 1) d (fun v μ => ME 324 (d * 589) v μ)) : ∀ (f : Nat) (w : Wt) (μ : Mm) (ws : Option Nat), w.1 ≤ n → 42 ≤ w.1 + f → MI c n μ → (∀ b, ws.or w.2.2.2.1 = some b → b < 1000) → μ.1 306 24 = nI w.1 → μ.1 306 27 = oc (ws.or w.2.2.2.1) → (ws = none → w.2.2.2.1 = none → ME 323 (d * 589) w.2.2.2.2 μ) → (smL c P f w).2.1 = true → (smL c P f w).2.2.1 = none →
    ∃ μ', m_Mo_sumAt_12 (pK 221 [.ref 306, .int (nI d)]) (nI d) μ = some (none, μ') ∧ FE d d μ μ' ∧ MI c n μ' ∧ μ'.1 306 24 = nI (smL c P f w).1 ∧ μ'.1 306 27 = oc (ws.or (smL c P f w).2.2.2.1) ∧ (∀ b, ws.or (smL c P f w).2.2.2.1 = some b → b < 1000) ∧ (ws = none → (smL c P f w).2.2.2.1 = none → ME 323 (d * 589) (smL c P f w).2.2.2.2 μ')
  | 0, w, μ, ws, h1, h2, hI, hw, h24, h27, hv, hk, hb => by cases hk
  | f + 1, w, μ, ws, h1, h2, hI, hw, h24, h27, hv, hk, hb => by
    have hM := hI.1.1
    have hn := hM.1.1
    have q1 : w.2.1 = true := smL_ok hk
    by_cases q2 : c w.1 = 43 ∨ c w.1 = 45
    · have hl := hM.1.lt (i := w.1) (by omega)
      rw [smL_s q1 q2] at hk hb ⊢
      have zk : (combS (c w.1) w (P (w.1 + 1))).2.1 = true := smL_ok hk
      have zk : (P (w.1 + 1)).2.1 = true := zk
      have zb : (combS (c w.1) w (P (w.1 + 1))).2.2.1 = none := smL_bt hb hk
      have zb2 := (or_nn (show w.2.2.1.or (P (w.1 + 1)).2.2.1 = none from zb)).2
      obtain ⟨⟨g1, g2⟩, g3⟩ := hG (w.1 + 1) (by omega)
      have F0 : FE (d + 1) d μ (sI μ 306 24 (nI (w.1 + 1))) := FE.at
      obtain ⟨μ1, k1, k2, k3, k4, k5, k6, k7⟩ := hP (w.1 + 1) (sI μ 306 24 (nI (w.1 + 1))) (ws.or w.2.2.2.1) (by omega) (hI.fe F0 hI.1.2.2.2.at) hw (by rw [sI_s, up_s]) (by rw [sI_s, up_o (by omega)]; exact h27) zk zb2
      have F1 := F0.tr k2
      have F2 : FE d d μ1 (wL μ1 323 (rowL (d * 589) 589 (fun i v => lN 1 * v + sgn (c w.1) * μ1.2 324 (d * 589 + i)) (μ1.2 323))) := F_adds
      have I2 := k3.fe F2 (k3.1.2.2.2.L (by omega) (by omega))
      have so : ws.or (combS (c w.1) w (P (w.1 + 1))).2.2.2.1 = (ws.or w.2.2.2.1).or (P (w.1 + 1)).2.2.2.1 := by
        show ws.or (cmS (c w.1) w (P (w.1 + 1))).1 = _
        rw [Option.or_assoc]
        congr 1
        unfold cmS
        cases w.2.2.2.1 with
        | some y => rfl
        | none => cases (P (w.1 + 1)).2.2.2.1 <;> rfl
      obtain ⟨μ3, b1, b2, b3, b4, b5, b6, b7⟩ := b_smL hd hG hP f (combS (c w.1) w (P (w.1 + 1))) _ ws g2 (by show 42 ≤ (P (w.1 + 1)).1 + f; omega) I2 (fun b z => by
        rw [so] at z
        exact k6 b z) k4 (by rw [so]; exact k5) (fun y1 y2 t ht j hj => by
        have y3 : (ws.or w.2.2.2.1).or (P (w.1 + 1)).2.2.2.1 = none := by rw [← so, y1, y2]; rfl
        obtain ⟨y4, y5⟩ := or_nn y3
        have y6 := (or_nn y4).2
        have e1 := k7 y4 y5 t ht j hj
        have e2 := hv y1 y6 t ht j hj
        have e3 : (combS (c w.1) w (P (w.1 + 1))).2.2.2.2 t j = w.2.2.2.2 t j + (P (w.1 + 1)).2.2.2.2 t j * sgn (c w.1) := by
          show (cmS (c w.1) w (P (w.1 + 1))).2 t j = _
          unfold cmS
          rw [y6, y5]
        rw [wL_s, rowL_in (by omega), e1, F1.2.1 _ (by omega), e2, e3, show (lN 1 : Int64) = 1 from rfl, Int64.one_mul, Int64.mul_comm]) hk hb
      refine ⟨μ3, ?_, ((F1.mono (by omega) (Nat.le_refl _)).tr F2).tr b2, b3, b4, b5, b6, b7⟩
      rw [e_Mo_sumAt_12, hI.2.1, bEt rfl, gd_h (gk2 d hd), s_here hM h24 (by omega), cI_s, sv_e (hM.1.c _) (by omega)]
      by_cases q3 : c w.1 = 43
      · have sg : sgn (c w.1) = lN 1 := if_pos q3
        rw [sg] at b1
        rw [bt (decide_eq_true q3), gd_h (gk2 d hd), s_here hM h24 (by omega), cI_s, sv_e (hM.1.c _) (by omega), bt (decide_eq_true q3), gd_h (gk1 d hd), h24, nI_p1, k1, cV_s, gd_h (gk2 d hd), s_adds_I hd _ _ k3.2.2, cV_s, b1]
      · have q4 : c w.1 = 45 := q2.resolve_left q3
        have sg : sgn (c w.1) = (-1 : Int64) := if_neg q3
        rw [sg] at b1
        rw [bf (decide_eq_false q3), gd_h (gk2 d hd), s_here hM h24 (by omega), cI_s, sv_e (hM.1.c _) (by omega), bt (decide_eq_true q4), gd_h (gk2 d hd), s_here hM h24 (by omega), cI_s, sv_e (hM.1.c _) (by omega), bf (decide_eq_false q3), gd_h (gk1 d hd), h24, nI_p1, k1, cV_s, gd_h (gk2 d hd), s_adds_I hd _ _ k3.2.2, cV_s, b1]
    · rw [smL_n (fun z => q2 z.2)]
      refine ⟨μ, ?_, FE.rf, hI, h24, h27, hw, hv⟩
      rw [e_Mo_sumAt_12, hI.2.1, bEt rfl, gd_h (gk2 d hd), s_here hM h24 (by omega), cI_s, sv_e (hM.1.c _) (by omega), bf (decide_eq_false (fun z => q2 (Or.inl z))), gd_h (gk2 d hd), s_here hM h24 (by omega), cI_s, sv_e (hM.1.c _) (by omega), bf (decide_eq_false (fun z => q2 (Or.inr z)))]
theorem b_sm (hT0 : TT c n) {O : Nat → Wt} {d : Nat} (hd : d < 3) (hG : GO n O) (hO : SB c n (m_Mo_oneAt (nI d)) O (d + 1) (d + 1) (fun v μ => ME 325 0 v μ)) : SB c n (m_Mo_sumAt (nI d)) (smW c O) d d (fun v μ => ME 323 (d * 589) v μ) := fun p μ ws hp hI hw h24 h27 hk hb => by
  have hPG := go_pr hT0 hG
  have hP := b_pr hd hG hO
  obtain ⟨μ1, k1, k2, k3, k4, k5, k6, k7⟩ := hP p μ ws hp hI hw h24 h27 (smL_ok (f := 42) hk) (smL_bt (f := 42) hb hk)
  have F2 : FE d d μ1 (wL μ1 323 (rowL (d * 589) 589 (fun i v => lN 0 * v + lN 1 * μ1.2 324 (d * 589 + i)) (μ1.2 323))) := F_adds
  obtain ⟨μ2, b1, b2, b3, b4, b5, b6, b7⟩ := b_smL hd hPG hP 42 (prW c O p) _ ws (hPG p hp).1.2 (by omega) (k3.fe F2 (k3.1.2.2.2.L (by omega) (by omega))) k6 k4 k5 (fun y1 y2 t ht j hj => by
    have e1 := k7 y1 y2 t ht j hj
    rw [wL_s, rowL_in (by omega), e1, l0_mul, l_0a, show (lN 1 : Int64) = 1 from rfl, Int64.one_mul]) hk hb
  refine ⟨μ2, ?_, ((k2.mono (by omega) (Nat.le_refl _)).tr F2).tr b2, b3, b4, b5, b6, b7⟩
  rw [e_Mo_sumAt, gd_h (gk1 d hd), k1, cV_s, gd_h (gk2 d hd), s_adds_I hd _ _ k3.2.2, cV_s, b1]
theorem b_fig {d p : Nat} (hd : d < 3) (e : figB (c p) = true) {μ : Mm} (hI : MI c n μ) {ws : Option Nat} (hw : ∀ b, ws = some b → b < 1000) (h24 : μ.1 306 24 = nI p) (h27 : μ.1 306 27 = oc ws) : ∃ μ', m_Mo_oneAt (nI d) μ = some (none, μ') ∧ FE (d + 1) (d + 1) μ μ' ∧ MI c n μ' ∧ μ'.1 306 24 = nI (p + 1) ∧ μ'.1 306 27 = oc (ws.or none) ∧ (∀ b, ws.or (none : Option Nat) = some b → b < 1000) ∧ ME 325 0 (sgl 0 (lN (c p - 48))) μ' := by
  have hM := hI.1.1
  have hn := hM.1.1
  obtain ⟨hl, a1, a2⟩ := fig_lt hM.1 e
  obtain ⟨F, f1, f2⟩ := s_isNow (show 0 < 19 by omega) (lN (c p - 48)) hI.2.2
  have F1 : FE (d + 1) (d + 1) μ (sI (wL μ 325 F) 306 24 (nI (p + 1))) := FE.one.tr FE.at
  refine ⟨sI (wL μ 325 F) 306 24 (nI (p + 1)), ?_, F1, hI.fe F1 ((hI.1.2.2.2.L (by omega) (by omega)).at), by rw [sI_s, up_s], ?_, ?_, f2⟩
  · rw [e_Mo_oneAt, gd_h (gk5 d hd), s_here hM h24 (by omega), cI_s, gd_h (gk5 d hd), s_inS (hM.1.c p) (by omega) (by omega) (by omega), cI_s, decide_eq_true a1, decide_eq_true a2]
    show gd _ _ = _
    rw [gd_h (gk5 d hd), sv_n (by omega), nI_sub a1, nI_l (by omega), f1, cV_s, show (wL μ 325 F).1 306 24 = nI p from h24, nI_p1]
  · rw [Option.or_none, sI_s, up_o (by omega)]
    exact h27
  · rw [Option.or_none]
    exact hw
theorem b_br {p : Nat} (e : c p = 91) {d : Nat} {μ : Mm} (hI : MI c n μ) {ws : Option Nat} (hw : ∀ b, ws = some b → b < 1000) (h24 : μ.1 306 24 = nI p) (h27 : μ.1 306 27 = oc ws) (hk : (brW c p).2.1 = true) (hb : (brW c p).2.2.1 = none) : ∃ μ', m_Mo_typeHere μ = some (none, μ') ∧ FE (d + 1) (d + 1) μ μ' ∧ MI c n μ' ∧ μ'.1 306 24 = nI (brW c p).1 ∧ μ'.1 306 27 = oc (ws.or (brW c p).2.2.2.1) ∧ (∀ b, ws.or (brW c p).2.2.2.1 = some b → b < 1000) ∧ ME 325 0 (brW c p).2.2.2.2 μ' := by
  have hM := hI.1.1
  have hn := hM.1.1
  have hl := hM.1.lt (i := p) (by omega)
  obtain ⟨b1, b2⟩ := br_le hM.1 e
  obtain ⟨μ1, k1, k2, k3⟩ := s_typeHere hM hl h24
  have F0 : FE (d + 1) (d + 1) μ μ1 := k2.fe
  have hP1 : HP μ1 := by
    have h := hI.1.2.2.2
    unfold HP PR at h ⊢
    rw [k2.2 11 (by omega), (k2.1 313 (by omega)).2]
    exact h
  have I1 := hI.fe F0 hP1
  unfold brW at hk hb ⊢
  by_cases q : c (brE c p) = 93
  · rw [if_pos q] at hb ⊢
    cases ht : brT c p with
    | none =>
      rw [ht] at hb
      cases hb
    | some t =>
      have ht19 := tyO_lt ht
      have F1 : FE (d + 1) (d + 1) μ1 (sI μ1 306 24 (nI (brE c p + 1))) := FE.at
      have I2 := I1.fe F1 I1.1.2.2.2.at
      obtain ⟨F, f1, f2⟩ := s_isNow ht19 (lN 1) I2.2.2
      have F2 : FE (d + 1) (d + 1) (sI μ1 306 24 (nI (brE c p + 1))) (wL (sI μ1 306 24 (nI (brE c p + 1))) 325 F) := FE.one
      refine ⟨_, ?_, (F0.tr F1).tr F2, I2.fe F2 (I2.1.2.2.2.L (by omega) (by omega)), ?_, ?_, ?_, f2⟩
      · rw [k1]
        unfold thT
        rw [s_here I1.1.1 k3 (by omega), cI_s, sv_e (hM.1.c _) (by omega), bt (decide_eq_true q), k3, nI_p1, s_number_O (br_num hM.1 p) I2.1.2.1, cI_s, show tyO (nvF c 5 (p + 1) 0) = brT c p from rfl, ht, oc_s, bf (d_e1 (by omega)), f1, cV_s]
      · show (sI μ1 306 24 (nI (brE c p + 1))).1 306 24 = _
        rw [sI_s, up_s]
      · show (sI μ1 306 24 (nI (brE c p + 1))).1 306 27 = oc (ws.or none)
        rw [Option.or_none, sI_s, up_o (by omega), k2.2 27 (by omega)]
        exact h27
      · show ∀ b, ws.or (none : Option Nat) = some b → b < 1000
        rw [Option.or_none]
        exact hw
  · rw [if_neg q] at hk
    cases hk
theorem b_on (hT0 : TT c n) : ∀ (k d : Nat), k + d = 2 → SB c n (m_Mo_oneAt (nI d)) (onW c k) (d + 1) (d + 1) (fun v μ => ME 325 0 v μ) := by
  have brk : ∀ (d : Nat), d < 3 → ∀ (p : Nat) (μ : Mm) (ws : Option Nat), p ≤ n → MI c n μ → (∀ b, ws = some b → b < 1000) → μ.1 306 24 = nI p → μ.1 306 27 = oc ws → ¬ figB (c p) = true → c p = 91 → (brW c p).2.1 = true → (brW c p).2.2.1 = none → ∃ μ', m_Mo_oneAt (nI d) μ = some (none, μ') ∧ FE (d + 1) (d + 1) μ μ' ∧ MI c n μ' ∧ μ'.1 306 24 = nI (brW c p).1 ∧ μ'.1 306 27 = oc (ws.or (brW c p).2.2.2.1) ∧ (∀ b, ws.or (brW c p).2.2.2.1 = some b → b < 1000) ∧ (ws = none → (brW c p).2.2.2.1 = none → ME 325 0 (brW c p).2.2.2.2 μ') := by
    intro d hd p μ ws hp hI hw h24 h27 q1 q2 hk hb
    have hn := hI.1.1.1.1
    obtain ⟨μ', k1, k2, k3, k4, k5, k6, k7⟩ := b_br (d := d) q2 hI hw h24 h27 hk hb
    refine ⟨μ', ?_, k2, k3, k4, k5, k6, fun _ _ => k7⟩
    rw [e_Mo_oneAt, gd_h (gk5 d hd), s_here hI.1.1 h24 (by omega), cI_s, gd_h (gk5 d hd), s_inS (hI.1.1.1.c p) (by omega) (by omega) (by omega), cI_s, fig_in q1, cond_true, sv_e (hI.1.1.1.c p) (by omega), bt (decide_eq_true q2), gd_h (gk6 d hd), k1, cV_s]
  intro k
  induction k with
  | zero =>
    intro d hk0 p μ ws hp hI hw h24 h27 hk hb
    unfold onW at hk hb ⊢
    by_cases q1 : figB (c p) = true
    · rw [if_pos q1]
      obtain ⟨μ', k1, k2, k3, k4, k5, k6, k7⟩ := b_fig (d := d) (by omega) q1 hI hw h24 h27
      exact ⟨μ', k1, k2, k3, k4, k5, k6, fun _ _ => k7⟩
    · rw [if_neg q1] at hk hb ⊢
      by_cases q2 : c p = 91
      · rw [if_pos q2] at hk hb ⊢
        exact brk d (by omega) p μ ws hp hI hw h24 h27 q1 q2 hk hb
      · rw [if_neg q2] at hk
        cases hk
  | succ k ih =>
    intro d hk0 p μ ws hp hI hw h24 h27 hk hb
    have hd : d < 3 := by omega
    unfold onW at hk hb ⊢
    by_cases q1 : figB (c p) = true
    · rw [if_pos q1]
      obtain ⟨μ', k1, k2, k3, k4, k5, k6, k7⟩ := b_fig (d := d) (by omega) q1 hI hw h24 h27
      exact ⟨μ', k1, k2, k3, k4, k5, k6, fun _ _ => k7⟩
    · rw [if_neg q1] at hk hb ⊢
      by_cases q2 : c p = 91
      · rw [if_pos q2] at hk hb ⊢
        exact brk d (by omega) p μ ws hp hI hw h24 h27 q1 q2 hk hb
      · rw [if_neg q2] at hk hb ⊢
        by_cases q3 : c p = 40
        · rw [if_pos q3] at hk hb ⊢
          have hM := hI.1.1
          have hn := hM.1.1
          have hl := hM.1.lt (i := p) (by omega)
          unfold cloW at hk hb ⊢
          by_cases q4 : (smW c (onW c k) (p + 1)).2.1 = true ∧ c (smW c (onW c k) (p + 1)).1 = 41
          · rw [if_pos q4] at hb ⊢
            have F0 : FE (d + 1) (d + 1) μ (sI μ 306 24 (nI (p + 1))) := FE.at
            have hS := b_sm hT0 (show d + 1 < 3 by omega) (go_on hT0 k) (ih (d + 1) (by omega))
            obtain ⟨μ1, k1, k2, k3, k4, k5, k6, k7⟩ := hS (p + 1) (sI μ 306 24 (nI (p + 1))) ws (by omega) (hI.fe F0 hI.1.2.2.2.at) hw (by rw [sI_s, up_s]) (by rw [sI_s, up_o (by omega)]; exact h27) q4.1 hb
            obtain ⟨⟨g1, g2⟩, -⟩ := go_sm hT0 (go_on hT0 k) (p + 1) (show p + 1 ≤ n by omega)
            have F1 : FE (d + 1) (d + 1) μ1 (sI μ1 306 24 (nI ((smW c (onW c k) (p + 1)).1 + 1))) := FE.at
            have I1 := k3.fe F1 k3.1.2.2.2.at
            have cp : m_Mo_oneAt_129 (pK 226 [.ref 306, .int (nI d)]) (nI ((d + 1) * 589)) (nI 0) (sI μ1 306 24 (nI ((smW c (onW c k) (p + 1)).1 + 1))) = some (none, wL (sI μ1 306 24 (nI ((smW c (onW c k) (p + 1)).1 + 1))) 325 (rowL 0 589 (fun i _ => μ1.2 323 ((d + 1) * 589 + i)) (μ1.2 325))) :=
              lp_L (L := fun i m => m_Mo_oneAt_129 (pK 226 [.ref 306, .int (nI d)]) (nI ((d + 1) * 589)) (nI i) m) (K := fun m => some (none, m)) (μ := sI μ1 306 24 (nI ((smW c (onW c k) (p + 1)).1 + 1))) 325 0 589 (fun i _ => μ1.2 323 ((d + 1) * 589 + i)) (fun i F hi hF => by
                show m_Mo_oneAt_129 _ _ _ _ = m_Mo_oneAt_129 _ _ _ _
                rw [e_Mo_oneAt_129, bLt hi (by omega), show (wL (sI μ1 306 24 (nI ((smW c (onW c k) (p + 1)).1 + 1))) 325 F).1 306 28 = nI 1 from I1.2.2, bf (by decide), nI_add, gi (by omega) (by omega), gi (by omega) (by omega), kl (by omega), kl (by omega), nI_p1, wL_u, wL_o (by omega), Nat.zero_add]
                rfl) (fun F => by
                show m_Mo_oneAt_129 _ _ _ _ = _
                rw [e_Mo_oneAt_129, bLf (by omega) (by omega)])
            have F2 : FE (d + 1) (d + 1) (sI μ1 306 24 (nI ((smW c (onW c k) (p + 1)).1 + 1))) (wL (sI μ1 306 24 (nI ((smW c (onW c k) (p + 1)).1 + 1))) 325 (rowL 0 589 (fun i _ => μ1.2 323 ((d + 1) * 589 + i)) (μ1.2 325))) := FE.one
            refine ⟨_, ?_, ((F0.tr k2).tr F1).tr F2, I1.fe F2 (I1.1.2.2.2.L (by omega) (by omega)), ?_, ?_, k6, fun y1 y2 t ht j hj => ?_⟩
            · rw [e_Mo_oneAt, gd_h (gk5 d hd), s_here hM h24 (by omega), cI_s, gd_h (gk5 d hd), s_inS (hM.1.c p) (by omega) (by omega) (by omega), cI_s, fig_in q1, cond_true, sv_e (hM.1.c p) (by omega), bf (decide_eq_false q2), sv_e (hM.1.c p) (by omega), bt (decide_eq_true q3), bLt (show d < 2 by omega) (by omega), h24, nI_p1, nI_p1, gd_h (gk7 d (by omega)), k1, cV_s, k3.2.1, bEt rfl, gd_h (gk5 d hd), s_here k3.1.1 k4 (by omega), cI_s, sv_e (hM.1.c _) (by omega), bt (decide_eq_true q4.2), k4, nI_p1, nI_mul, nI_mul, show (d + 1) * 19 * 31 = (d + 1) * 589 by omega, cp]
            · show (sI μ1 306 24 (nI ((smW c (onW c k) (p + 1)).1 + 1))).1 306 24 = _
              rw [sI_s, up_s]
            · show (sI μ1 306 24 (nI ((smW c (onW c k) (p + 1)).1 + 1))).1 306 27 = _
              rw [sI_s, up_o (by omega), k5]
            · have := k7 y1 y2 t ht j hj
              rw [wL_s, Nat.zero_add, rowL0 (by omega), this]
          · rw [if_neg q4] at hk
            cases hk
        · rw [if_neg q3] at hk
          cases hk
/-- goes, all worked out -/
theorem s_goes1 {μ : Mm} (h : TM c n μ) (hT : MT μ) (hC : CT μ) (hP : HP μ) (hk : okW c n) (hb : (W0 c).2.2.1 = none) : ∃ μ', m_Mo_goes (nI 1) μ = some (none, μ') ∧ (Fr fEv μ μ' ∧ ∀ j, j ≠ 11 → (j < 24 ∨ 28 < j) → μ'.1 306 j = μ.1 306 j) ∧ HP μ' ∧ μ'.1 306 27 = oc (W0 c).2.2.2.1 ∧ (∀ b, (W0 c).2.2.2.1 = some b → b < 1000) ∧ ((W0 c).2.2.2.1 = none → ME 323 0 (W0 c).2.2.2.2 μ') := by
  have hn := h.1.1
  have hT0 := h.1
  have G0 : Fr (fun k => k = 306) μ (sI (sI (sI (sI (sI μ 306 24 (nI 0)) 306 25 (nI 0)) 306 26 (-1 : Int32)) 306 27 (-1 : Int32)) 306 28 (nI 1)) := ((((Fr.sI (S := fun k => k = 306) rfl).t2 (Fr.sI rfl)).t2 (Fr.sI rfl)).t2 (Fr.sI rfl)).t2 (Fr.sI rfl)
  have G1 : ∀ j, (j < 24 ∨ 28 < j) → (sI (sI (sI (sI (sI μ 306 24 (nI 0)) 306 25 (nI 0)) 306 26 (-1 : Int32)) 306 27 (-1 : Int32)) 306 28 (nI 1)).1 306 j = μ.1 306 j := fun j hj => by
    rw [sI_s, up_o (by omega), sI_s, up_o (by omega), sI_s, up_o (by omega), sI_s, up_o (by omega), sI_s, up_o (by omega)]
  have h0 : TM c n (sI (sI (sI (sI (sI μ 306 24 (nI 0)) 306 25 (nI 0)) 306 26 (-1 : Int32)) 306 27 (-1 : Int32)) 306 28 (nI 1)) := by
    unfold TM
    rw [G1 23 (by omega), (G0 322 (by omega)).1]
    exact h
  have P0 : HP (sI (sI (sI (sI (sI μ 306 24 (nI 0)) 306 25 (nI 0)) 306 26 (-1 : Int32)) 306 27 (-1 : Int32)) 306 28 (nI 1)) := by
    unfold HP PR at hP ⊢
    rw [G1 11 (by omega), (G0 313 (by omega)).2]
    exact hP
  have I0 : MI c n (sI (sI (sI (sI (sI μ 306 24 (nI 0)) 306 25 (nI 0)) 306 26 (-1 : Int32)) 306 27 (-1 : Int32)) 306 28 (nI 1)) := ⟨⟨h0, hT.fr G0 (by omega) (by omega) (by omega), hC.fr G0 (fun k x y => by omega) (by omega), P0⟩, by rw [sI_s, up_o (by omega), sI_s, up_o (by omega), sI_s, up_o (by omega), sI_s, up_s], by rw [sI_s, up_s]⟩
  obtain ⟨μ1, k1, k2, k3, k4, k5, k6, k7⟩ := b_sm hT0 (show 0 < 3 by omega) (go_on hT0 2) (b_on hT0 2 0 rfl) 0 _ none (by omega) I0 (fun b z => by cases z) (by rw [sI_s, up_o (by omega), sI_s, up_o (by omega), sI_s, up_o (by omega), sI_s, up_o (by omega), sI_s, up_s]) (by rw [sI_s, up_o (by omega), sI_s, up_s]; rfl) hk.1 hb
  have k4 : μ1.1 306 24 = nI (W0 c).1 := k4
  have k5 : μ1.1 306 27 = oc ((none : Option Nat).or (W0 c).2.2.2.1) := k5
  refine ⟨sI μ1 306 25 (nI 0), ?_, ⟨((G0.w (fun k z => Or.inl (Or.inr (Or.inr (Or.inl z))))).t2 k2.1.1).t2 (Fr.sI (Or.inl (Or.inr (Or.inr (Or.inl rfl))))), fun j j1 j2 => ?_⟩, ?_, ?_, fun b z => k6 b z, fun z => ?_⟩
  · rw [e_Mo_goes, gd_h isb_0, gd_h isb_1, gd_h gk9, k1, cV_s, k3.2.1, bEt rfl, k4, hk.2, k3.1.1.2.1, bLf (by omega) (by omega), gd_h isb_0]
  · rw [sI_s, up_o (by omega), k2.1.2 j j1 (by omega) (by omega), G1 j j2]
  · have := k3.1.2.2.2
    unfold HP at this ⊢
    rw [sI_s, up_o (by omega)]
    exact this
  · rw [sI_s, up_o (by omega), k5]
    rfl
  · have := k7 rfl z
    rw [Nat.zero_mul] at this
    exact this
end EVM
