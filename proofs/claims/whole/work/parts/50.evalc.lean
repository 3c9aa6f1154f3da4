/-! sums worked out: the class's side -/
abbrev fLv (t p k : Nat) : Prop := k = 59 ∨ k = 60 ∨ (72 + 21 * t ≤ k ∧ k < 135) ∨ (136 + 21 * p ≤ k ∧ k < 199) ∨ (199 ≤ k ∧ k < 244)
/-- what is worked out on deeper levels changes: totals from level t on, products from p on, signs from m on, stars from s on -/
def FL (t p m s : Nat) (μ μ' : Mm) : Prop := Fr (fLv t p) μ μ' ∧ (∀ i, i < m → μ'.1 199 i = μ.1 199 i) ∧ ∀ i, i < s → μ'.1 200 i = μ.1 200 i
theorem FL.rf {t p m s : Nat} {μ : Mm} : FL t p m s μ μ := ⟨Fr.rf, fun _ _ => rfl, fun _ _ => rfl⟩
theorem FL.tr {t p m s : Nat} {x y z : Mm} (h : FL t p m s x y) (k : FL t p m s y z) : FL t p m s x z := ⟨h.1.t2 k.1, fun i hi => (k.2.1 i hi).trans (h.2.1 i hi), fun i hi => (k.2.2 i hi).trans (h.2.2 i hi)⟩
theorem FL.mono {t p m s t' p' m' s' : Nat} {x y : Mm} (h : FL t p m s x y) (ht : t' ≤ t) (hp : p' ≤ p) (hm : m' ≤ m) (hs : s' ≤ s) : FL t' p' m' s' x y := ⟨h.1.w (fun k hk => by omega), fun i hi => h.2.1 i (by omega), fun i hi => h.2.2 i (by omega)⟩
theorem FL.star {t p m s i : Nat} {μ : Mm} {v : Int32} (h : s ≤ i) : FL t p m s μ (sI μ 200 i v) := ⟨Fr.sI (by omega), fun j _ => by rw [sI_o (by omega)], fun j hj => by rw [sI_s, up_o (by omega)]⟩
theorem FL.min {t p m s i : Nat} {μ : Mm} {v : Int32} (h : m ≤ i) : FL t p m s μ (sI μ 199 i v) := ⟨Fr.sI (by omega), fun j hj => by rw [sI_s, up_o (by omega)], fun j _ => by rw [sI_o (by omega)]⟩
section EVC0
variable {c : Nat → Nat} {n : Nat}
def CI (c : Nat → Nat) (n : Nat) (μ : Mm) : Prop := TC c n μ ∧ CT μ
theorem CI.fl {t p m s : Nat} {μ μ' : Mm} (h : CI c n μ) (F : FL t p m s μ μ') : CI c n μ' := by
  refine ⟨?_, h.2.fr F.1 (fun k x y => by omega) (by omega)⟩
  unfold TC
  rw [(F.1 69 (by omega)).1, (F.1 70 (by omega)).1]
  exact h.1
end EVC0
noncomputable def FIN (d q : Nat) (μ : Mm) : Option Rs := cI (m_Su_isTooGreat (nI d) μ) fun v10 μ9 => bif decide (v10 = nI 0) then (cV (m_Su_takeOne (nI d) μ9) fun μ11 => m_Su_wrongProduct_9 (nI d) (nI q) μ11) else (gd (inb (nI d) 3) (some (some (.int (μ9.1 200 (nI d).toNatClampNeg)), μ9)))
def sgm (m : Bool) : Int64 := if m then (-1 : Int64) else lN 1
theorem tC_b {d : Nat} (hd : d < 3) : 72 ≤ tC d ∧ tC d + 21 ≤ 135 := by unfold tC; omega
section EVC
variable {c : Nat → Nat} {n : Nat} {μ : Mm}
theorem s_start {d : Nat} (hd : d < 3) (μ : Mm) : ∃ μ', m_Su_startLevel (nI d) μ = some (none, μ') ∧ FL d d d d μ μ' ∧ MX (tC d) (fun _ _ => lN 0) μ' ∧ μ'.1 199 d = nI 0 ∧ μ'.1 200 d = (-1 : Int32) := by
  obtain ⟨⟨p1, p2⟩, p3, p4⟩ := pt_ok d hd
  obtain ⟨μ1, a1, a2, a3⟩ := s_Mi_writeZero p2 μ
  have F1 : FL d d d d μ μ1 := ⟨a2.w (fun k hk => Or.inr (Or.inr (Or.inl (by unfold tC at hk; omega)))), fun i _ => by rw [(a2 199 (by unfold tC; omega)).1], fun i _ => by rw [(a2 200 (by unfold tC; omega)).1]⟩
  have F2 : FL d d d d μ1 (sI (sI μ1 199 d (nI 0)) 200 d (-1 : Int32)) := (FL.min (Nat.le_refl d)).tr (FL.star (Nat.le_refl d))
  refine ⟨_, ?_, F1.tr F2, ?_, ?_, ?_⟩
  · rw [e_Su_startLevel, gi hd (by omega), kl (by omega), p3, gd_h (mxT p2), a1, cV_s, inb_n hd (by omega), show isb (nI 0) = true from isb_0]
    rfl
  · exact fun t ht j hj => a3 t ht j hj
  · rw [sI_o (by omega), sI_s, up_s]
  · rw [sI_s, up_s]
theorem s_endP {d : Nat} (hd : d < 3) {T P : Vt} {m : Bool} (hT : MX (tC d) T μ) (hP : MX (prC d) P μ) (hm : μ.1 199 d = nI (b2i m)) : ∃ μ', m_Su_endProduct (nI d) μ = some (none, μ') ∧ FL d (d + 1) (d + 1) d μ μ' ∧ MX (tC d) (fun t j => T t j + P t j * sgm m) μ' ∧ μ'.1 200 d = (-1 : Int32) := by
  obtain ⟨⟨p1, p2⟩, p3, p4⟩ := pt_ok d hd
  have hpb := prC_b hd
  have htb := tC_b hd
  obtain ⟨μ1, a1, a2, a3⟩ := s_Mi_add p2 p1 (by omega) (sgm m) μ
  have F1 : FL d (d + 1) (d + 1) d μ μ1 := ⟨a2.w (fun k hk => Or.inr (Or.inr (Or.inl (by unfold tC at hk; omega)))), fun i _ => by rw [(a2 199 (by omega)).1], fun i _ => by rw [(a2 200 (by omega)).1]⟩
  refine ⟨sI μ1 200 d (-1 : Int32), ?_, F1.tr (FL.star (Nat.le_refl d)), ?_, by rw [sI_s, up_s]⟩
  · rw [e_Su_endProduct, gi hd (by omega), gi hd (by omega), gi hd (by omega), kl (by omega), hm, p3, p4]
    cases m
    · rw [show nI (b2i false) = nI 0 from rfl, bEt rfl, gd_h (mxT p2)]
      rw [show sgm false = lN 1 from rfl] at a1
      rw [a1, cV_s, gi hd (by omega)]
    · rw [show nI (b2i true) = nI 1 from rfl, bEf (by decide) (by decide) (by decide), gd_h (mxT p2)]
      rw [show sgm true = (-1 : Int64) from rfl] at a1
      rw [a1, cV_s, gi hd (by omega)]
  · refine MX.ext (f := fun t j => μ.2 (tC d + 2 + t) j + μ.2 (prC d + 2 + t) j * sgm m) (fun t ht j hj => a3 t ht j hj) (fun t ht j hj => ?_)
    show _ + _ * _ = _ + _ * _
    rw [hT t ht j hj, hP t ht j hj]
theorem w9_pre (h : TC c n μ) {p : Nat} (hp : p < n) (x : Int32) (h1 : c p ≠ 40) (h2 : c p ≠ 43) (h3 : c p ≠ 45) (h4 : c p ≠ 42) : m_Su_wrongProduct_9 x (nI p) μ = cI (m_Su_endsOne (nI p) μ) fun v6 μ5 => bif decide (v6 = nI 0) then (m_Su_wrongProduct_9 x (nI p + (nI 1)) μ5) else (cI (m_Su_writeOne (nI p) x μ5) fun v8 μ7 => cI (m_Su_isTooGreat v8 μ7) fun v10 μ9 => bif decide (v10 = nI 0) then (cV (m_Su_takeOne v8 μ9) fun μ11 => m_Su_wrongProduct_9 v8 (nI p + (nI 1)) μ11) else (gd (inb v8 3) (some (some (.int (μ9.1 200 v8.toNatClampNeg)), μ9)))) := by
  have hn := h.1.1
  have hc := h.1.c p
  rw [e_Su_wrongProduct_9, h.2.1, bLt hp (by omega), s_signAt h (by omega), cI_s, sv_e hc (by omega), bf (decide_eq_false h1), sv_e hc (by omega), bf (decide_eq_false h2), sv_e hc (by omega), bf (decide_eq_false h3), sv_e hc (by omega), bf (decide_eq_false h4)]
theorem w9_star (h : TC c n μ) {p d : Nat} (hp : p < n) (hd : d < 3) (e : c p = 42) : m_Su_wrongProduct_9 (nI d) (nI p) μ = m_Su_wrongProduct_9 (nI d) (nI (p + 1)) (sI μ 200 d (nI p)) := by
  have hn := h.1.1
  have hc := h.1.c p
  rw [e_Su_wrongProduct_9, h.2.1, bLt hp (by omega), s_signAt h (by omega), cI_s, sv_e hc (by omega), bf (decide_eq_false (by omega)), sv_e hc (by omega), bf (decide_eq_false (by omega)), sv_e hc (by omega), bf (decide_eq_false (by omega)), sv_e hc (by omega), bt (decide_eq_true e), gi hd (by omega), kl (by omega), nI_p1]
theorem w9_par (h : TC c n μ) {p d : Nat} (hp : p < n) (hd : d < 2) (e : c p = 40) : m_Su_wrongProduct_9 (nI d) (nI p) μ = cV (m_Su_startLevel (nI (d + 1)) μ) fun μ15 => m_Su_wrongProduct_9 (nI (d + 1)) (nI (p + 1)) μ15 := by
  have hn := h.1.1
  have hc := h.1.c p
  rw [e_Su_wrongProduct_9, h.2.1, bLt hp (by omega), s_signAt h (by omega), cI_s, sv_e hc (by omega), bt (decide_eq_true e), nI_p1, e_jM_min, bLf (show d + 1 ≤ 2 by omega) (by omega), cI_s, nI_p1]
theorem w9_sgn (h : TC c n μ) {p d : Nat} (hp : p < n) (hd : d < 3) (e : c p = 43 ∨ c p = 45) : m_Su_wrongProduct_9 (nI d) (nI p) μ = cV (m_Su_endProduct (nI d) μ) fun μ4 => m_Su_wrongProduct_9 (nI d) (nI (p + 1)) (sI μ4 199 d (nI (b2i (decide (c p = 45))))) := by
  have hn := h.1.1
  have hc := h.1.c p
  have i1 : (inb (nI d) 3 && isb (nI 1)) = true := by rw [inb_n hd (by omega), isb_1]; rfl
  have i0 : (inb (nI d) 3 && isb (nI 0)) = true := by rw [inb_n hd (by omega), isb_0]; rfl
  rw [e_Su_wrongProduct_9, h.2.1, bLt hp (by omega), s_signAt h (by omega), cI_s, sv_e hc (by omega), bf (decide_eq_false (by omega)), sv_e hc (by omega), sv_e hc (by omega)]
  rcases e with e | e
  · rw [bt (decide_eq_true e)]
    congr 1
    funext μ4
    rw [bf (decide_eq_false (by omega)), gd_h i0, kl (by omega), nI_p1, decide_eq_false (show ¬ c p = 45 by omega)]
    rfl
  · rw [bf (decide_eq_false (by omega)), bt (decide_eq_true e)]
    congr 1
    funext μ4
    rw [bt (decide_eq_true e), gd_h i1, kl (by omega), nI_p1, decide_eq_true e]
    rfl
theorem w9_end (h : TC c n μ) (x : Int32) : m_Su_wrongProduct_9 x (nI n) μ = cV (m_Su_endProduct (nI 0) μ) fun μ1 => some (some (.int (-1 : Int32)), μ1) := by
  have hn := h.1.1
  rw [e_Su_wrongProduct_9, h.2.1, bLf (by omega) (by omega)]
/-- back over figures to what stands ahead of them -/
theorem s_inBr (h : TC c n μ) {p : Nat} (hp : p < 1000) (hc : ¬ figB (c p) = true) : ∀ (f i k : Nat), i + f = 5 → k ≤ f → (∀ j, j < k → figB (c (p + 1 + j)) = true) → m_Su_inBrackets_6 (nI (p + k)) (nI i) μ = some (some (.int (nI (b2i (decide (c p = 91))))), μ)
  | 0, i, k, e, hk, hj => by
    obtain rfl : k = 0 := by omega
    obtain rfl : i = 5 := by omega
    rw [e_Su_inBrackets_6, bLf (by omega) (by omega), Nat.add_zero, s_signAt h (by omega), cI_s, sv_e (h.1.c p) (by omega)]
    cases decide (c p = 91)
    · exact gd_h isb_0
    · exact gd_h isb_1
  | f + 1, i, 0, e, hk, hj => by
    rw [e_Su_inBrackets_6, bLt (by omega) (by omega), Nat.add_zero, s_signAt h (by omega), cI_s, s_isFig (h.1.c p), cI_s]
    rw [Bool.not_eq_true] at hc
    rw [hc, b2i_n, Bool.not_false, cond_true, s_signAt h (by omega), cI_s, sv_e (h.1.c p) (by omega)]
    cases decide (c p = 91)
    · exact gd_h isb_0
    · exact gd_h isb_1
  | f + 1, i, k + 1, e, hk, hj => by
    have hf := hj k (by omega)
    rw [e_Su_inBrackets_6, bLt (by omega) (by omega), s_signAt h (by omega), cI_s, s_isFig (h.1.c _), cI_s, show p + (k + 1) = p + 1 + k by omega, hf, b2i_n, Bool.not_true, cond_false, show p + 1 + k = (p + k) + 1 by omega, nI_m1, nI_p1]
    exact s_inBr h hp hc f (i + 1) k (by omega) (by omega) (fun j hj2 => hj j (by omega))
theorem s_ends0 (h : TC c n μ) {p : Nat} (hp : p < 1000) (h1 : c p ≠ 41) (h2 : c p ≠ 91) (h3 : ¬ figB (c p) = true) : m_Su_endsOne (nI p) μ = some (some (.int (nI 0)), μ) := by
  rw [Bool.not_eq_true] at h3
  rw [e_Su_endsOne, s_signAt h (by omega), cI_s, sv_e (h.1.c p) (by omega), bf (decide_eq_false h1), sv_e (h.1.c p) (by omega), bf (decide_eq_false h2), s_isFig (h.1.c p), cI_s, h3, b2i_n, Bool.not_false, cond_true, gd_h isb_0]
theorem s_endsF (h : TC c n μ) {q k : Nat} (hq : q < 1000) (hk : k < 5) (hc : ¬ figB (c q) = true) (hj : ∀ j, j < k + 1 → figB (c (q + 1 + j)) = true) : m_Su_endsOne (nI (q + 1 + k)) μ = some (some (.int (nI (b2i (!decide (c q = 91))))), μ) := by
  have hf := hj k (by omega)
  obtain ⟨-, f1, f2⟩ := fig_lt h.1 hf
  rw [e_Su_endsOne, s_signAt h (by omega), cI_s, sv_e (h.1.c _) (by omega), bf (decide_eq_false (by omega)), sv_e (h.1.c _) (by omega), bf (decide_eq_false (by omega)), s_isFig (h.1.c _), cI_s, hf, b2i_n, Bool.not_true, cond_false, e_Su_inBrackets, show q + 1 + k = q + k + 1 by omega, show nI (q + k + 1) - nI 1 = nI (q + k) by rw [nI_sub (by omega)]; rfl, s_inBr h hq hc 5 0 k rfl (by omega) (fun j hj2 => hj j (by omega)), cI_s, b2i_n]
  cases decide (c q = 91)
  · exact gd_h isb_1
  · exact gd_h isb_0
/-- the first place of all -/
theorem s_ends00 (h : TC c n μ) (hf : figB (c 0) = true) : m_Su_endsOne (nI 0) μ = some (some (.int (nI 1)), μ) := by
  obtain ⟨-, f1, f2⟩ := fig_lt h.1 hf
  have z : nI 0 - nI 1 = (-1 : Int32) := by decide
  have sm : m_Su_signAt (-1 : Int32) μ = some (some (.int (-1 : Int32)), μ) := by rw [e_Su_signAt, bt d_neg]
  rw [e_Su_endsOne, s_signAt h (by omega), cI_s, sv_e (h.1.c _) (by omega), bf (decide_eq_false (by omega)), sv_e (h.1.c _) (by omega), bf (decide_eq_false (by omega)), s_isFig (h.1.c _), cI_s, hf, b2i_n, Bool.not_true, cond_false, e_Su_inBrackets, z, e_Su_inBrackets_6, bLt (by omega) (by omega), sm, cI_s]
  have hx : m_Su_isFigure (-1 : Int32) μ = some (some (.int (nI 0)), μ) := by rw [e_Su_isFigure, bt (by decide), gd_h isb_0]
  rw [hx, cI_s, bEt rfl, sm, cI_s, bf (by decide), gd_h isb_0, cI_s, bEt rfl, gd_h isb_1]
/-- what stands ahead of a one -/
def pv (c : Nat → Nat) (p : Nat) : Prop := p = 0 ∨ (¬ figB (c (p - 1)) = true ∧ c (p - 1) ≠ 91)
theorem s_ends1 (h : TC c n μ) {p : Nat} (hp : p < 1000) (hv : pv c p) (hf : figB (c p) = true) : m_Su_endsOne (nI p) μ = some (some (.int (nI 1)), μ) := by
  rcases hv with rfl | ⟨h1, h2⟩
  · exact s_ends00 h hf
  · by_cases q : p = 0
    · subst q
      exact s_ends00 h hf
    · have := s_endsF h (q := p - 1) (k := 0) (by omega) (by omega) h1 (fun j hj => by
        obtain rfl : j = 0 := by omega
        rw [show p - 1 + 1 + 0 = p by omega]
        exact hf)
      rw [show p - 1 + 1 + 0 = p by omega, decide_eq_false h2] at this
      exact this
theorem fig_n {x : Nat} (h : x = 41 ∨ x = 91 ∨ x = 93 ∨ x = 40 ∨ x = 42 ∨ x = 43 ∨ x = 45) : ¬ figB x = true := by
  rcases h with rfl | rfl | rfl | rfl | rfl | rfl | rfl <;> decide
/-- what stands in brackets does nothing -/
theorem w9_skip (h : TC c n μ) {p : Nat} (hp : p < n) (e : c p = 91) (hb : c (brE c p) = 93) (x : Int32) : m_Su_wrongProduct_9 x (nI (p + 1)) μ = m_Su_wrongProduct_9 x (nI (brE c p + 1)) μ := by
  have hn := h.1.1
  have hle : dgF c 5 (p + 1) ≤ 5 := by
    have K : ∀ f q, dgF c f q ≤ f := by
      intro f
      induction f with
      | zero => exact fun q => Nat.le_refl 0
      | succ f ih =>
        intro q
        unfold dgF
        split
        · have := ih (q + 1)
          omega
        · omega
    exact K 5 _
  have hlt := h.1.lt (i := brE c p) (by omega)
  have eb : brE c p = p + 1 + dgF c 5 (p + 1) := rfl
  have dig : ∀ i, i < dgF c 5 (p + 1) → figB (c (p + 1 + i)) = true := fun i hi => by
    have := dg_s 5 (p + 1) i hi
    unfold figB
    rw [decide_eq_true (show 48 ≤ c (p + 1 + i) by omega), decide_eq_true this.2]
    rfl
  have step : ∀ i, i ≤ dgF c 5 (p + 1) → m_Su_wrongProduct_9 x (nI (p + 1)) μ = m_Su_wrongProduct_9 x (nI (p + 1 + i)) μ := by
    intro i
    induction i with
    | zero => exact fun _ => rfl
    | succ i ih =>
      intro hi
      have hf := dig i (by omega)
      obtain ⟨-, f1, f2⟩ := fig_lt h.1 hf
      rw [ih (by omega), w9_pre h (by omega) x (by omega) (by omega) (by omega) (by omega), s_endsF h (q := p) (k := i) (by omega) (by omega) (fig_n (by omega)) (fun j hj => dig j (by omega)), cI_s, decide_eq_true e, show nI (b2i (!true)) = nI 0 from rfl, bEt rfl, nI_p1]
      rfl
  rw [step _ (Nat.le_refl _), ← eb, w9_pre h hlt x (by omega) (by omega) (by omega) (by omega), s_ends0 h (by omega) (by omega) (by omega) (fig_n (by omega)), cI_s, bEt rfl, nI_p1]
/-- a one has been read: it is taken, or it is too great -/
theorem fin0 {d q : Nat} (hd : d < 3) {g : Vt} (hg : MX 201 g μ) (h : μ.1 200 d = (-1 : Int32)) : ∃ μ', FIN d q μ = m_Su_wrongProduct_9 (nI d) (nI q) μ' ∧ FL (d + 1) d (d + 1) (d + 1) μ μ' ∧ MX (prC d) g μ' := by
  have hpb := prC_b hd
  obtain ⟨μ', k1, k2, k3⟩ := s_take0 hd hg h
  refine ⟨μ', ?_, ⟨k2.w (fun k hk => by unfold prC at hk; omega), fun i _ => by rw [(k2 199 (by unfold prC; omega)).1], fun i _ => by rw [(k2 200 (by unfold prC; omega)).1]⟩, k3⟩
  unfold FIN
  rw [s_tooGreat0 hd h, cI_s, bEt rfl, k1, cV_s]
theorem fin1 {d q s : Nat} (hd : d < 3) (hC : CT μ) {f g : Vt} (hf : MX (prC d) f μ) (hg : MX 201 g μ) (hs : s < 1000) (h : μ.1 200 d = nI s) : (PVo f g = none → FIN d q μ = some (some (.int (nI s)), μ)) ∧ ∀ b, PVo f g = some b → ∃ μ', FIN d q μ = m_Su_wrongProduct_9 (nI d) (nI q) μ' ∧ FL (d + 1) d (d + 1) (d + 1) μ μ' ∧ MX (prC d) b μ' := by
  have hpb := prC_b hd
  refine ⟨fun e => ?_, fun b e => ?_⟩
  · unfold FIN
    rw [s_tooGreat hd hf hg hs h, cI_s, e, show nI (b2i (none : Option Vt).isNone) = nI 1 from rfl, bEf (by decide) (by decide) (by decide), gi hd (by omega), kl (by omega), h]
  · obtain ⟨μ', k1, k2, k3⟩ := s_take hd hC hf hg hs h e
    refine ⟨μ', ?_, ⟨k2.w (fun k hk => by unfold prC at hk; omega), fun i _ => by rw [(k2 199 (by unfold prC; omega)).1], fun i _ => by rw [(k2 200 (by unfold prC; omega)).1]⟩, k3⟩
    unfold FIN
    rw [s_tooGreat hd hf hg hs h, cI_s, e, show nI (b2i (some b).isNone) = nI 0 from rfl, bEt rfl, k1, cV_s]
/-- how the class works out what a reader of ones reads -/
def SO (c : Nat → Nat) (n : Nat) (O : Nat → Wt) (d : Nat) : Prop := ∀ (p : Nat) (μ : Mm), p ≤ n → pv c p → CI c n μ → (O p).2.1 = true → (O p).2.2.1 = none →
  (∀ x, (O p).2.2.2.1 = some x → x < 1000 ∧ ∃ μ', m_Su_wrongProduct_9 (nI d) (nI p) μ = some (some (.int (nI x)), μ') ∧ FL (d + 1) (d + 1) (d + 1) (d + 1) μ μ') ∧
  ((O p).2.2.2.1 = none → ∃ μ1 q, m_Su_wrongProduct_9 (nI d) (nI p) μ = FIN d q μ1 ∧ (∀ μ2, CI c n μ2 → m_Su_wrongProduct_9 (nI d) (nI q) μ2 = m_Su_wrongProduct_9 (nI d) (nI (O p).1) μ2) ∧ FL (d + 1) (d + 1) (d + 1) (d + 1) μ μ1 ∧ MX 201 (O p).2.2.2.2 μ1)
theorem prL_w {O : Nat → Wt} {x : Nat} : ∀ {f : Nat} {w : Wt}, w.2.2.2.1 = some x → (prL c O f w).2.1 = true → (prL c O f w).2.2.2.1 = some x
  | 0, w, _, h => by cases h
  | f + 1, w, hw, hk => by
    by_cases q : w.2.1 = true ∧ c w.1 = 42
    · rw [prL_s q.1 q.2] at hk ⊢
      refine prL_w ?_ hk
      show (cmB w (O (w.1 + 1))).1 = some x
      unfold cmB
      rw [hw]
    · rw [prL_n q]
      exact hw
theorem smL_w {P : Nat → Wt} {x : Nat} : ∀ {f : Nat} {w : Wt}, w.2.2.2.1 = some x → (smL c P f w).2.1 = true → (smL c P f w).2.2.2.1 = some x
  | 0, w, _, h => by cases h
  | f + 1, w, hw, hk => by
    by_cases q : w.2.1 = true ∧ (c w.1 = 43 ∨ c w.1 = 45)
    · rw [smL_s q.1 q.2] at hk ⊢
      refine smL_w ?_ hk
      show (cmS (c w.1) w (P (w.1 + 1))).1 = some x
      unfold cmS
      rw [hw]
    · rw [smL_n q]
      exact hw
theorem o_prL {O : Nat → Wt} {d : Nat} (hd : d < 3) (hG : GO n O) (hO : SO c n O d) : ∀ (f : Nat) (w : Wt) (μ : Mm), w.1 ≤ n → 42 ≤ w.1 + f → CI c n μ → w.2.2.2.1 = none → MX (prC d) w.2.2.2.2 μ → (prL c O f w).2.1 = true → (prL c O f w).2.2.1 = none →
    (∀ x, (prL c O f w).2.2.2.1 = some x → x < 1000 ∧ ∃ μ', m_Su_wrongProduct_9 (nI d) (nI w.1) μ = some (some (.int (nI x)), μ') ∧ FL (d + 1) d (d + 1) d μ μ') ∧
    ((prL c O f w).2.2.2.1 = none → ∃ μ', m_Su_wrongProduct_9 (nI d) (nI w.1) μ = m_Su_wrongProduct_9 (nI d) (nI (prL c O f w).1) μ' ∧ FL (d + 1) d (d + 1) d μ μ' ∧ MX (prC d) (prL c O f w).2.2.2.2 μ')
  | 0, w, μ, h1, h2, hI, hw, hv, hk, hb => by cases hk
  | f + 1, w, μ, h1, h2, hI, hw, hv, hk, hb => by
    have hn := hI.1.1.1
    have q1 : w.2.1 = true := prL_ok hk
    by_cases q2 : c w.1 = 42
    · have hl := hI.1.1.lt (i := w.1) (by omega)
      rw [prL_s q1 q2] at hk hb ⊢
      have zk : (combP w (O (w.1 + 1))).2.1 = true := prL_ok hk
      have zk : (O (w.1 + 1)).2.1 = true := zk
      have zb : (combP w (O (w.1 + 1))).2.2.1 = none := prL_bt hb hk
      have zb2 := (or_nn (show w.2.2.1.or (O (w.1 + 1)).2.2.1 = none from zb)).2
      obtain ⟨⟨g1, g2⟩, g3⟩ := hG (w.1 + 1) (by omega)
      have F0 : FL (d + 1) d (d + 1) d μ (sI μ 200 d (nI w.1)) := FL.star (Nat.le_refl d)
      have I0 := hI.fl F0
      have s0 : (sI μ 200 d (nI w.1)).1 200 d = nI w.1 := by rw [sI_s, up_s]
      obtain ⟨oA, oB⟩ := hO (w.1 + 1) (sI μ 200 d (nI w.1)) (by omega) (Or.inr (by rw [Nat.add_sub_cancel, q2]; exact ⟨by decide, by decide⟩)) I0 zk zb2
      rw [w9_star hI.1 hl hd q2]
      cases hz : (O (w.1 + 1)).2.2.2.1 with
      | some y =>
        obtain ⟨yl, μ1, k1, k2⟩ := oA y hz
        have cw : (combP w (O (w.1 + 1))).2.2.2.1 = some y := by
          show (cmB w (O (w.1 + 1))).1 = some y
          unfold cmB
          rw [hw, hz]
        have fw := prL_w cw hk
        refine ⟨fun x hx => ?_, fun z => ?_⟩
        · rw [fw] at hx
          cases hx
          exact ⟨yl, μ1, k1, F0.tr (k2.mono (Nat.le_refl _) (by omega) (Nat.le_refl _) (by omega))⟩
        · rw [fw] at z
          cases z
      | none =>
        obtain ⟨μ1, q, k1, k2, k3, k4⟩ := oB hz
        have I1 := I0.fl k3
        have s1 : μ1.1 200 d = nI w.1 := by rw [k3.2.2 d (by omega)]; exact s0
        have hf1 : MX (prC d) w.2.2.2.2 μ1 := fun t ht j hj => by
          rw [(k3.1 (prC d + 2 + t) (by unfold prC; omega)).2]
          exact hv t ht j hj
        obtain ⟨fa, fb⟩ := fin1 (q := q) hd I1.2 hf1 k4 (show w.1 < 1000 by omega) s1
        cases hp : PVo w.2.2.2.2 (O (w.1 + 1)).2.2.2.2 with
        | none =>
          have cw : (combP w (O (w.1 + 1))).2.2.2.1 = some w.1 := by
            show (cmB w (O (w.1 + 1))).1 = some w.1
            unfold cmB
            rw [hw, hz, hp]
          have fw := prL_w cw hk
          refine ⟨fun x hx => ?_, fun z => ?_⟩
          · rw [fw] at hx
            cases hx
            exact ⟨by omega, μ1, by rw [k1, fa hp], F0.tr (k3.mono (Nat.le_refl _) (by omega) (Nat.le_refl _) (by omega))⟩
          · rw [fw] at z
            cases z
        | some b =>
          obtain ⟨μ2, m1, m2, m3⟩ := fb b hp
          have I2 := I1.fl m2
          have cw : (combP w (O (w.1 + 1))).2.2.2 = (none, b) := by
            show ((cmB w (O (w.1 + 1))).1, (cmB w (O (w.1 + 1))).2) = _
            unfold cmB
            rw [hw, hz, hp]
          have F2 : FL (d + 1) d (d + 1) d μ μ2 := (F0.tr (k3.mono (Nat.le_refl _) (by omega) (Nat.le_refl _) (by omega))).tr (m2.mono (Nat.le_refl _) (Nat.le_refl _) (Nat.le_refl _) (by omega))
          obtain ⟨rA, rB⟩ := o_prL hd hG hO f (combP w (O (w.1 + 1))) μ2 g2 (by show 42 ≤ (O (w.1 + 1)).1 + f; omega) I2 (by rw [cw]) (by rw [cw]; exact m3) hk hb
          have pre : m_Su_wrongProduct_9 (nI d) (nI (w.1 + 1)) (sI μ 200 d (nI w.1)) = m_Su_wrongProduct_9 (nI d) (nI (combP w (O (w.1 + 1))).1) μ2 := by
            rw [k1, m1, k2 μ2 I2]
            rfl
          rw [pre]
          refine ⟨fun x hx => ?_, fun z => ?_⟩
          · obtain ⟨x1, μ', y1, y2⟩ := rA x hx
            exact ⟨x1, μ', y1, F2.tr y2⟩
          · obtain ⟨μ', y1, y2, y3⟩ := rB z
            exact ⟨μ', y1, F2.tr y2, y3⟩
    · rw [prL_n (fun z => q2 z.2)]
      refine ⟨fun x hx => ?_, fun _ => ⟨μ, rfl, FL.rf, hv⟩⟩
      rw [hw] at hx
      cases hx
/-- .. of products: with no star yet -/
def SP (c : Nat → Nat) (n : Nat) (P : Nat → Wt) (d : Nat) : Prop := ∀ (p : Nat) (μ : Mm), p ≤ n → pv c p → CI c n μ → μ.1 200 d = (-1 : Int32) → (P p).2.1 = true → (P p).2.2.1 = none →
  (∀ x, (P p).2.2.2.1 = some x → x < 1000 ∧ ∃ μ', m_Su_wrongProduct_9 (nI d) (nI p) μ = some (some (.int (nI x)), μ') ∧ FL (d + 1) d (d + 1) d μ μ') ∧
  ((P p).2.2.2.1 = none → ∃ μ', m_Su_wrongProduct_9 (nI d) (nI p) μ = m_Su_wrongProduct_9 (nI d) (nI (P p).1) μ' ∧ FL (d + 1) d (d + 1) d μ μ' ∧ MX (prC d) (P p).2.2.2.2 μ')
theorem o_pr {O : Nat → Wt} {d : Nat} (hd : d < 3) (hG : GO n O) (hO : SO c n O d) : SP c n (prW c O) d := fun p μ hp hv hI h200 hk hb => by
  obtain ⟨oA, oB⟩ := hO p μ hp hv hI (prL_ok (f := 42) hk) (prL_bt (f := 42) hb hk)
  have hk : (prL c O 42 (O p)).2.1 = true := hk
  cases hz : (O p).2.2.2.1 with
  | some y =>
    obtain ⟨yl, μ1, k1, k2⟩ := oA y hz
    have fw : (prW c O p).2.2.2.1 = some y := prL_w hz hk
    refine ⟨fun x hx => ?_, fun z => ?_⟩
    · rw [fw] at hx
      cases hx
      exact ⟨yl, μ1, k1, k2.mono (Nat.le_refl _) (by omega) (Nat.le_refl _) (by omega)⟩
    · rw [fw] at z
      cases z
  | none =>
    obtain ⟨μ1, q, k1, k2, k3, k4⟩ := oB hz
    have I1 := hI.fl k3
    obtain ⟨μ2, m1, m2, m3⟩ := fin0 (q := q) hd k4 (by rw [k3.2.2 d (by omega)]; exact h200)
    have I2 := I1.fl m2
    have F2 : FL (d + 1) d (d + 1) d μ μ2 := (k3.mono (Nat.le_refl _) (by omega) (Nat.le_refl _) (by omega)).tr (m2.mono (Nat.le_refl _) (Nat.le_refl _) (Nat.le_refl _) (by omega))
    obtain ⟨rA, rB⟩ := o_prL hd hG hO 42 (O p) μ2 (hG p hp).1.2 (by omega) I2 hz m3 hk hb
    have pre : m_Su_wrongProduct_9 (nI d) (nI p) μ = m_Su_wrongProduct_9 (nI d) (nI (O p).1) μ2 := by rw [k1, m1, k2 μ2 I2]
    rw [pre]
    refine ⟨fun x hx => ?_, fun z => ?_⟩
    · obtain ⟨x1, μ', y1, y2⟩ := rA x hx
      exact ⟨x1, μ', y1, F2.tr y2⟩
    · obtain ⟨μ', y1, y2, y3⟩ := rB z
      exact ⟨μ', y1, F2.tr y2, y3⟩
/-- a sum so far: the total, and the last product with its sign -/
def ST (d : Nat) (v : Vt) (μ : Mm) : Prop := ∃ (T P : Vt) (m : Bool), MX (tC d) T μ ∧ MX (prC d) P μ ∧ μ.1 199 d = nI (b2i m) ∧ ∀ t, t < 19 → ∀ j, j < 31 → v t j = T t j + P t j * sgm m
theorem o_smL {P : Nat → Wt} {d : Nat} (hd : d < 3) (hG : GO n P) (hP : SP c n P d) : ∀ (f : Nat) (w : Wt) (μ : Mm), w.1 ≤ n → 42 ≤ w.1 + f → CI c n μ → w.2.2.2.1 = none → ST d w.2.2.2.2 μ → (smL c P f w).2.1 = true → (smL c P f w).2.2.1 = none →
    (∀ x, (smL c P f w).2.2.2.1 = some x → x < 1000 ∧ ∃ μ', m_Su_wrongProduct_9 (nI d) (nI w.1) μ = some (some (.int (nI x)), μ') ∧ FL d d d d μ μ') ∧
    ((smL c P f w).2.2.2.1 = none → ∃ μ', m_Su_wrongProduct_9 (nI d) (nI w.1) μ = m_Su_wrongProduct_9 (nI d) (nI (smL c P f w).1) μ' ∧ FL d d d d μ μ' ∧ ST d (smL c P f w).2.2.2.2 μ')
  | 0, w, μ, h1, h2, hI, hw, hv, hk, hb => by cases hk
  | f + 1, w, μ, h1, h2, hI, hw, hv, hk, hb => by
    have hn := hI.1.1.1
    have q1 : w.2.1 = true := smL_ok hk
    by_cases q2 : c w.1 = 43 ∨ c w.1 = 45
    · have hl := hI.1.1.lt (i := w.1) (by omega)
      rw [smL_s q1 q2] at hk hb ⊢
      have zk : (combS (c w.1) w (P (w.1 + 1))).2.1 = true := smL_ok hk
      have zk : (P (w.1 + 1)).2.1 = true := zk
      have zb : (combS (c w.1) w (P (w.1 + 1))).2.2.1 = none := smL_bt hb hk
      have zb2 := (or_nn (show w.2.2.1.or (P (w.1 + 1)).2.2.1 = none from zb)).2
      obtain ⟨⟨g1, g2⟩, g3⟩ := hG (w.1 + 1) (by omega)
      obtain ⟨T, R, m, t1, t2, t3, t4⟩ := hv
      obtain ⟨μ0, a1, a2, a3, a4⟩ := s_endP hd t1 t2 t3
      have F0 : FL d d d d μ (sI μ0 199 d (nI (b2i (decide (c w.1 = 45))))) := (a2.mono (Nat.le_refl _) (by omega) (by omega) (Nat.le_refl _)).tr (FL.min (Nat.le_refl d))
      have I0 := hI.fl F0
      have tot : MX (tC d) w.2.2.2.2 (sI μ0 199 d (nI (b2i (decide (c w.1 = 45))))) := fun t ht j hj => (a3 t ht j hj).trans (t4 t ht j hj).symm
      have s2 : (sI μ0 199 d (nI (b2i (decide (c w.1 = 45))))).1 200 d = (-1 : Int32) := by rw [sI_o (by omega)]; exact a4
      have m2 : (sI μ0 199 d (nI (b2i (decide (c w.1 = 45))))).1 199 d = nI (b2i (decide (c w.1 = 45))) := by rw [sI_s, up_s]
      have sg : sgm (decide (c w.1 = 45)) = sgn (c w.1) := by
        unfold sgm sgn
        rcases q2 with q | q
        · rw [q]; rfl
        · rw [q]; rfl
      obtain ⟨pA, pB⟩ := hP (w.1 + 1) _ (by omega) (Or.inr (by rw [Nat.add_sub_cancel]; exact ⟨fig_n (by omega), by omega⟩)) I0 s2 zk zb2
      rw [w9_sgn hI.1 hl hd q2, a1, cV_s]
      cases hz : (P (w.1 + 1)).2.2.2.1 with
      | some y =>
        obtain ⟨yl, μ1, k1, k2⟩ := pA y hz
        have cw : (combS (c w.1) w (P (w.1 + 1))).2.2.2.1 = some y := by
          show (cmS (c w.1) w (P (w.1 + 1))).1 = some y
          unfold cmS
          rw [hw, hz]
        have fw := smL_w cw hk
        refine ⟨fun x hx => ?_, fun z => ?_⟩
        · rw [fw] at hx
          cases hx
          exact ⟨yl, μ1, k1, F0.tr (k2.mono (by omega) (Nat.le_refl _) (by omega) (Nat.le_refl _))⟩
        · rw [fw] at z
          cases z
      | none =>
        obtain ⟨μ1, k1, k2, k3⟩ := pB hz
        have I1 := I0.fl k2
        have F1 : FL d d d d μ μ1 := F0.tr (k2.mono (by omega) (Nat.le_refl _) (by omega) (Nat.le_refl _))
        have cw : (combS (c w.1) w (P (w.1 + 1))).2.2.2 = (none, fun t j => w.2.2.2.2 t j + (P (w.1 + 1)).2.2.2.2 t j * sgn (c w.1)) := by
          show ((cmS (c w.1) w (P (w.1 + 1))).1, (cmS (c w.1) w (P (w.1 + 1))).2) = _
          unfold cmS
          rw [hw, hz]
        have tot1 : MX (tC d) w.2.2.2.2 μ1 := fun t ht j hj => by
          rw [(k2.1 (tC d + 2 + t) (by unfold tC; omega)).2]
          exact tot t ht j hj
        obtain ⟨rA, rB⟩ := o_smL hd hG hP f (combS (c w.1) w (P (w.1 + 1))) μ1 g2 (by show 42 ≤ (P (w.1 + 1)).1 + f; omega) I1 (by rw [cw]) (by
          rw [cw]
          exact ⟨_, _, decide (c w.1 = 45), tot1, k3, by rw [k2.2.1 d (by omega)]; exact m2, fun t ht j hj => by rw [sg]⟩) hk hb
        have pre : m_Su_wrongProduct_9 (nI d) (nI (w.1 + 1)) (sI μ0 199 d (nI (b2i (decide (c w.1 = 45))))) = m_Su_wrongProduct_9 (nI d) (nI (combS (c w.1) w (P (w.1 + 1))).1) μ1 := by
          rw [k1]
          rfl
        rw [pre]
        refine ⟨fun x hx => ?_, fun z => ?_⟩
        · obtain ⟨x1, μ', y1, y2⟩ := rA x hx
          exact ⟨x1, μ', y1, F1.tr y2⟩
        · obtain ⟨μ', y1, y2, y3⟩ := rB z
          exact ⟨μ', y1, F1.tr y2, y3⟩
    · rw [smL_n (fun z => q2 z.2)]
      refine ⟨fun x hx => ?_, fun _ => ⟨μ, rfl, FL.rf, hv⟩⟩
      rw [hw] at hx
      cases hx
/-- .. of sums: on a level that has just been started -/
def SS (c : Nat → Nat) (n : Nat) (S : Nat → Wt) (d : Nat) : Prop := ∀ (p : Nat) (μ : Mm), p ≤ n → pv c p → CI c n μ → MX (tC d) (fun _ _ => lN 0) μ → μ.1 199 d = nI 0 → μ.1 200 d = (-1 : Int32) → (S p).2.1 = true → (S p).2.2.1 = none →
  (∀ x, (S p).2.2.2.1 = some x → x < 1000 ∧ ∃ μ', m_Su_wrongProduct_9 (nI d) (nI p) μ = some (some (.int (nI x)), μ') ∧ FL d d d d μ μ') ∧
  ((S p).2.2.2.1 = none → ∃ μ', m_Su_wrongProduct_9 (nI d) (nI p) μ = m_Su_wrongProduct_9 (nI d) (nI (S p).1) μ' ∧ FL d d d d μ μ' ∧ ST d (S p).2.2.2.2 μ')
theorem o_sm (hT : TT c n) {O : Nat → Wt} {d : Nat} (hd : d < 3) (hG : GO n O) (hO : SO c n O d) : SS c n (smW c O) d := fun p μ hp hv hI h0 h199 h200 hk hb => by
  have hPG := go_pr hT hG
  have hP := o_pr hd hG hO
  have hk : (smL c (prW c O) 42 (prW c O p)).2.1 = true := hk
  obtain ⟨pA, pB⟩ := hP p μ hp hv hI h200 (smL_ok (f := 42) hk) (smL_bt (f := 42) hb hk)
  cases hz : (prW c O p).2.2.2.1 with
  | some y =>
    obtain ⟨yl, μ1, k1, k2⟩ := pA y hz
    have fw : (smW c O p).2.2.2.1 = some y := smL_w hz hk
    refine ⟨fun x hx => ?_, fun z => ?_⟩
    · rw [fw] at hx
      cases hx
      exact ⟨yl, μ1, k1, k2.mono (by omega) (Nat.le_refl _) (by omega) (Nat.le_refl _)⟩
    · rw [fw] at z
      cases z
  | none =>
    obtain ⟨μ1, k1, k2, k3⟩ := pB hz
    have I1 := hI.fl k2
    have F1 : FL d d d d μ μ1 := k2.mono (by omega) (Nat.le_refl _) (by omega) (Nat.le_refl _)
    have tot1 : MX (tC d) (fun _ _ => lN 0) μ1 := fun t ht j hj => by
      rw [(k2.1 (tC d + 2 + t) (by unfold tC; omega)).2]
      exact h0 t ht j hj
    obtain ⟨rA, rB⟩ := o_smL hd hPG hP 42 (prW c O p) μ1 (hPG p hp).1.2 (by omega) I1 hz ⟨_, _, false, tot1, k3, by rw [k2.2.1 d (by omega)]; exact h199, fun t ht j hj => by
      show _ = lN 0 + _ * lN 1
      rw [l_0a, show (lN 1 : Int64) = 1 from rfl, Int64.mul_one]⟩ hk hb
    rw [k1]
    refine ⟨fun x hx => ?_, fun z => ?_⟩
    · obtain ⟨x1, μ', y1, y2⟩ := rA x hx
      exact ⟨x1, μ', y1, F1.tr y2⟩
    · obtain ⟨μ', y1, y2, y3⟩ := rB z
      exact ⟨μ', y1, F1.tr y2, y3⟩
theorem o_fig {d p : Nat} (hd : d < 3) (e : figB (c p) = true) (hv : pv c p) (hI : CI c n μ) : ∃ μ1, m_Su_wrongProduct_9 (nI d) (nI p) μ = FIN d (p + 1) μ1 ∧ FL (d + 1) (d + 1) (d + 1) (d + 1) μ μ1 ∧ MX 201 (sgl 0 (lN (c p - 48))) μ1 := by
  have h := hI.1
  have hn := h.1.1
  obtain ⟨hl, f1, f2⟩ := fig_lt h.1 e
  obtain ⟨μ1, a1, a2, a3⟩ := s_Mi_writeSingle mx201 (show 0 < 19 by omega) (lN (c p - 48)) μ
  refine ⟨μ1, ?_, ⟨a2.w (fun k hk => by omega), fun i _ => by rw [(a2 199 (by omega)).1], fun i _ => by rw [(a2 200 (by omega)).1]⟩, a3⟩
  rw [w9_pre h hl _ (by omega) (by omega) (by omega) (by omega), s_ends1 h (by omega) hv e, cI_s, bEf (by omega) (by omega) (by omega), e_Su_writeOne, s_signAt h (by omega), cI_s, sv_e (h.1.c p) (by omega), bf (decide_eq_false (by omega)), sv_e (h.1.c p) (by omega), bf (decide_eq_false (by omega)), sv_n (by omega), nI_sub f1, nI_l (by omega), a1, cV_s, cI_s, nI_p1]
  rfl
theorem o_br {d p : Nat} (hd : d < 3) (e : c p = 91) (hp : p ≤ n) (hI : CI c n μ) (hk : (brW c p).2.1 = true) (hb : (brW c p).2.2.1 = none) : (brW c p).2.2.2.1 = none ∧ ∃ μ1, m_Su_wrongProduct_9 (nI d) (nI p) μ = FIN d (p + 1) μ1 ∧ (∀ μ2, CI c n μ2 → m_Su_wrongProduct_9 (nI d) (nI (p + 1)) μ2 = m_Su_wrongProduct_9 (nI d) (nI (brW c p).1) μ2) ∧ FL (d + 1) (d + 1) (d + 1) (d + 1) μ μ1 ∧ MX 201 (brW c p).2.2.2.2 μ1 := by
  have h := hI.1
  have hn := h.1.1
  have hl := h.1.lt (i := p) (by omega)
  unfold brW at hk hb ⊢
  by_cases q : c (brE c p) = 93
  · rw [if_pos q] at hb ⊢
    cases ht : brT c p with
    | none =>
      rw [ht] at hb
      cases hb
    | some t =>
      have ht19 := tyO_lt ht
      obtain ⟨μ1, a1, a2, a3⟩ := s_Mi_writeSingle mx201 ht19 (lN 1) μ
      have e1 : m_Su_endsOne (nI p) μ = some (some (.int (nI 1)), μ) := by
        rw [e_Su_endsOne, s_signAt h (by omega), cI_s, sv_e (h.1.c p) (by omega), bf (decide_eq_false (by omega)), sv_e (h.1.c p) (by omega), bt (decide_eq_true e), gd_h isb_1]
      refine ⟨rfl, μ1, ?_, fun μ2 h2 => w9_skip h2.1 hl e q _, ⟨a2.w (fun k hk => by omega), fun i _ => by rw [(a2 199 (by omega)).1], fun i _ => by rw [(a2 200 (by omega)).1]⟩, a3⟩
      rw [w9_pre h hl _ (by omega) (by omega) (by omega) (by omega), e1, cI_s, bEf (by omega) (by omega) (by omega), e_Su_writeOne, s_signAt h (by omega), cI_s, sv_e (h.1.c p) (by omega), bf (decide_eq_false (by omega)), sv_e (h.1.c p) (by omega), bt (decide_eq_true e), s_typeBehind h (by omega) q, cI_s, ht, oc_s, a1, cV_s, cI_s, nI_p1]
      rfl
  · rw [if_neg q] at hk
    cases hk
theorem o_on (hT : TT c n) : ∀ (k d : Nat), k + d = 2 → SO c n (onW c k) d := by
  have lf : ∀ (d : Nat), d < 3 → ∀ (W : Wt) (p : Nat) (μ : Mm), p ≤ n → pv c p → CI c n μ → (figB (c p) = true → W = (p + 1, true, none, none, sgl 0 (lN (c p - 48)))) → (¬ figB (c p) = true → c p = 91 ∧ W = brW c p) → W.2.1 = true → W.2.2.1 = none →
      (∀ x, W.2.2.2.1 = some x → x < 1000 ∧ ∃ μ', m_Su_wrongProduct_9 (nI d) (nI p) μ = some (some (.int (nI x)), μ') ∧ FL (d + 1) (d + 1) (d + 1) (d + 1) μ μ') ∧
      (W.2.2.2.1 = none → ∃ μ1 q, m_Su_wrongProduct_9 (nI d) (nI p) μ = FIN d q μ1 ∧ (∀ μ2, CI c n μ2 → m_Su_wrongProduct_9 (nI d) (nI q) μ2 = m_Su_wrongProduct_9 (nI d) (nI W.1) μ2) ∧ FL (d + 1) (d + 1) (d + 1) (d + 1) μ μ1 ∧ MX 201 W.2.2.2.2 μ1) := by
    intro d hd W p μ hp hv hI h1 h2 hk hb
    by_cases q1 : figB (c p) = true
    · have eW := h1 q1
      subst eW
      obtain ⟨μ1, a1, a2, a3⟩ := o_fig hd q1 hv hI
      exact ⟨fun x hx => (by cases hx), fun _ => ⟨μ1, p + 1, a1, fun _ _ => rfl, a2, a3⟩⟩
    · obtain ⟨q2, eW⟩ := h2 q1
      subst eW
      obtain ⟨b0, μ1, a1, a2, a3, a4⟩ := o_br hd q2 hp hI hk hb
      exact ⟨fun x hx => (by rw [b0] at hx; cases hx), fun _ => ⟨μ1, p + 1, a1, a2, a3, a4⟩⟩
  intro k
  induction k with
  | zero =>
    intro d hk0 p μ hp hv hI hk hb
    unfold onW at hk hb ⊢
    by_cases q1 : figB (c p) = true
    · rw [if_pos q1] at hk hb ⊢
      exact lf d (by omega) _ p μ hp hv hI (fun _ => rfl) (fun z => absurd q1 z) hk hb
    · rw [if_neg q1] at hk hb ⊢
      by_cases q2 : c p = 91
      · rw [if_pos q2] at hk hb ⊢
        exact lf d (by omega) _ p μ hp hv hI (fun z => absurd z q1) (fun _ => ⟨q2, rfl⟩) hk hb
      · rw [if_neg q2] at hk
        cases hk
  | succ k ih =>
    intro d hk0 p μ hp hv hI hk hb
    have hd : d < 3 := by omega
    unfold onW at hk hb ⊢
    by_cases q1 : figB (c p) = true
    · rw [if_pos q1] at hk hb ⊢
      exact lf d (by omega) _ p μ hp hv hI (fun _ => rfl) (fun z => absurd q1 z) hk hb
    · rw [if_neg q1] at hk hb ⊢
      by_cases q2 : c p = 91
      · rw [if_pos q2] at hk hb ⊢
        exact lf d (by omega) _ p μ hp hv hI (fun z => absurd z q1) (fun _ => ⟨q2, rfl⟩) hk hb
      · rw [if_neg q2] at hk hb ⊢
        by_cases q3 : c p = 40
        · rw [if_pos q3] at hk hb ⊢
          have hn := hI.1.1.1
          have hl := hI.1.1.lt (i := p) (by omega)
          by_cases q4 : (smW c (onW c k) (p + 1)).2.1 = true ∧ c (smW c (onW c k) (p + 1)).1 = 41
          · have ec : cloW c (smW c (onW c k) (p + 1)) = ((smW c (onW c k) (p + 1)).1 + 1, (smW c (onW c k) (p + 1)).2) := if_pos q4
            rw [ec] at hb ⊢
            obtain ⟨μ0, a1, a2, a3, a4, a5⟩ := s_start (show d + 1 < 3 by omega) μ
            have I0 := hI.fl a2
            obtain ⟨sA, sB⟩ := o_sm hT (show d + 1 < 3 by omega) (go_on hT k) (ih (d + 1) (by omega)) (p + 1) μ0 (by omega) (Or.inr (by rw [Nat.add_sub_cancel, q3]; exact ⟨by decide, by decide⟩)) I0 a3 a4 a5 q4.1 hb
            rw [w9_par hI.1 hl (by omega) q3, a1, cV_s]
            refine ⟨fun x hx => ?_, fun z => ?_⟩
            · obtain ⟨x1, μ', y1, y2⟩ := sA x hx
              exact ⟨x1, μ', y1, a2.tr y2⟩
            · obtain ⟨μ1, y1, y2, T, R, m, t1, t2, t3, t4⟩ := sB z
              have I1 := I0.fl y2
              have hl2 := hI.1.1.lt (i := (smW c (onW c k) (p + 1)).1) (by omega)
              obtain ⟨⟨p1, p2⟩, p3, p4⟩ := pt_ok (d + 1) (by omega)
              have htb := tC_b (show d + 1 < 3 by omega)
              obtain ⟨μ2, b1, b2, b3, b4⟩ := s_endP (show d + 1 < 3 by omega) t1 t2 t3
              obtain ⟨μ3, c1, c2, c3⟩ := s_Mi_copyFrom mx201 p2 (by omega) μ2
              have F2 : FL (d + 1) (d + 1) (d + 1) (d + 1) μ1 μ2 := b2.mono (Nat.le_refl _) (by omega) (by omega) (Nat.le_refl _)
              have F3 : FL (d + 1) (d + 1) (d + 1) (d + 1) μ2 μ3 := ⟨c2.w (fun k hk => by omega), fun i _ => by rw [(c2 199 (by omega)).1], fun i _ => by rw [(c2 200 (by omega)).1]⟩
              have e1 : m_Su_endsOne (nI (smW c (onW c k) (p + 1)).1) μ1 = some (some (.int (nI 1)), μ1) := by
                rw [e_Su_endsOne, s_signAt I1.1 (by omega), cI_s, sv_e (I1.1.1.c _) (by omega), bt (decide_eq_true q4.2), gd_h isb_1]
              refine ⟨μ3, (smW c (onW c k) (p + 1)).1 + 1, ?_, fun _ _ => rfl, ((a2.tr y2).tr F2).tr F3, ?_⟩
              · rw [y1, w9_pre I1.1 hl2 _ (by omega) (by omega) (by omega) (by omega), e1, cI_s, bEf (by omega) (by omega) (by omega), e_Su_writeOne, s_signAt I1.1 (by omega), cI_s, sv_e (I1.1.1.c _) (by omega), bt (decide_eq_true q4.2), b1, cV_s, gi (by omega) (by omega), kl (by omega), p3, c1, cV_s, nI_sub (by omega), Nat.add_sub_cancel, e_jM_max, bLf (by omega) (by omega), cI_s, cI_s, nI_p1]
                rfl
              · refine MX.ext (f := fun t j => μ2.2 (tC (d + 1) + 2 + t) j) c3 (fun t ht j hj => ?_)
                show μ2.2 (tC (d + 1) + 2 + t) j = _
                rw [b3 t ht j hj]
                exact (t4 t ht j hj).symm
          · have ec : cloW c (smW c (onW c k) (p + 1)) = failW (smW c (onW c k) (p + 1)).1 := if_neg q4
            rw [ec] at hk
            cases hk
        · rw [if_neg q3] at hk
          cases hk
/-- the class works all out -/
theorem s_wrongProduct (hI : CI c n μ) (hk : okW c n) (hb : (W0 c).2.2.1 = none) : (∀ x, (W0 c).2.2.2.1 = some x → x < 1000 ∧ ∃ μ', m_Su_wrongProduct μ = some (some (.int (nI x)), μ') ∧ FL 0 0 0 0 μ μ') ∧ ((W0 c).2.2.2.1 = none → ∃ μ', m_Su_wrongProduct μ = some (some (.int (-1 : Int32)), μ') ∧ FL 0 0 0 0 μ μ' ∧ MX 72 (W0 c).2.2.2.2 μ') := by
  have hT := hI.1.1
  obtain ⟨μ0, a1, a2, a3, a4, a5⟩ := s_start (show 0 < 3 by omega) μ
  have I0 := hI.fl a2
  obtain ⟨sA, sB⟩ := o_sm hT (show 0 < 3 by omega) (go_on hT 2) (o_on hT 2 0 rfl) 0 μ0 (by omega) (Or.inl rfl) I0 a3 a4 a5 hk.1 hb
  rw [e_Su_wrongProduct, a1, cV_s]
  refine ⟨fun x hx => ?_, fun z => ?_⟩
  · obtain ⟨x1, μ', y1, y2⟩ := sA x hx
    exact ⟨x1, μ', y1, a2.tr y2⟩
  · obtain ⟨μ1, y1, y2, T, R, m, t1, t2, t3, t4⟩ := sB z
    have I1 := I0.fl y2
    obtain ⟨μ2, b1, b2, b3, b4⟩ := s_endP (show 0 < 3 by omega) t1 t2 t3
    refine ⟨μ2, ?_, (a2.tr y2).tr (b2.mono (Nat.le_refl _) (by omega) (by omega) (Nat.le_refl _)), fun t ht j hj => (b3 t ht j hj).trans (t4 t ht j hj).symm⟩
    rw [y1, show (smW c (onW c 2) 0).1 = n from hk.2, w9_end I1.1, b1, cV_s]
end EVC
