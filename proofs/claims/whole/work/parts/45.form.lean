/-! sums: the form, the class's side; the types that are none -/
section FRM
variable {c : Nat → Nat} {n : Nat} {μ : Mm}
/-- one sign more -/
theorem st9 (h : TC c n μ) {p : Nat} (hp : p < n) {x1 x2 x3 v : Int32} (hs : m_Su_stateBehind x1 (svI (c p)) x2 x3 μ = some (some (.int v), μ)) : m_Su_wrongSign_9 x1 x2 x3 (nI p) μ = bif decide (v < nI 0) then (some (some (.int (nI p)), μ)) else (bif decide (v = nI 1) then (bif decide (x1 = nI 1) then (bif decide (svI (c p) = nI 40) then (m_Su_wrongSign_9 v (x2 + (nI 1)) (x3 + (nI 1)) (nI (p + 1)) μ) else (bif decide (svI (c p) = nI 41) then (m_Su_wrongSign_9 v (x2 + (-1 : Int32)) (x3 + (nI 1)) (nI (p + 1)) μ) else (m_Su_wrongSign_9 v x2 (x3 + (nI 1)) (nI (p + 1)) μ))) else (bif decide (svI (c p) = nI 40) then (m_Su_wrongSign_9 v (x2 + (nI 1)) (nI 0) (nI (p + 1)) μ) else (bif decide (svI (c p) = nI 41) then (m_Su_wrongSign_9 v (x2 + (-1 : Int32)) (nI 0) (nI (p + 1)) μ) else (m_Su_wrongSign_9 v x2 (nI 0) (nI (p + 1)) μ)))) else (bif decide (svI (c p) = nI 40) then (m_Su_wrongSign_9 v (x2 + (nI 1)) (nI 0) (nI (p + 1)) μ) else (bif decide (svI (c p) = nI 41) then (m_Su_wrongSign_9 v (x2 + (-1 : Int32)) (nI 0) (nI (p + 1)) μ) else (m_Su_wrongSign_9 v x2 (nI 0) (nI (p + 1)) μ)))) := by
  have h1 := h.1.1
  rw [e_Su_wrongSign_9, h.2.1, bLt hp (by omega), s_signAt h (by omega), cI_s, hs, cI_s, nI_p1]
theorem end9 (h : TC c n μ) (x1 x2 x3 : Int32) : m_Su_wrongSign_9 x1 x2 x3 (nI n) μ = bif decide (x1 = nI 2) then (bif decide (x2 = nI 0) then (some (some (.int (-1 : Int32)), μ)) else (some (some (.int (nI n)), μ))) else (some (some (.int (nI n)), μ)) := by
  have h1 := h.1.1
  rw [e_Su_wrongSign_9, h.2.1, bLf (by omega) (by omega)]
/-- what stands behind a sign, in the state of one wanted -/
theorem sb0 (h : TT c n) (p : Nat) {d : Nat} (hd : d < 3) (x3 : Int32) (μ : Mm) : m_Su_stateBehind (nI 0) (svI (c p)) (nI d) x3 μ = some (some (.int (if c p = 40 ∧ d < 2 then nI 0 else if c p = 91 then nI 1 else if figB (c p) = true then nI 2 else (-1 : Int32))), μ) := by
  have hc := h.c p
  have tail : (bif decide (c p = 91) then (some (some (Value.int (nI 1)), μ)) else (cI (m_Su_isFigure (svI (c p)) μ) fun v4 μ3 => bif decide (v4 = nI 0) then (some (some (.int (-1 : Int32)), μ3)) else (some (some (.int (nI 2)), μ3)))) = some (some (.int (if c p = 91 then nI 1 else if figB (c p) = true then nI 2 else (-1 : Int32))), μ) := by
    by_cases q : c p = 91
    · rw [bt (decide_eq_true q), if_pos q]
    · rw [bf (decide_eq_false q), if_neg q, s_isFig hc, cI_s, b2i_n]
      cases figB (c p) <;> rfl
  rw [e_Su_stateBehind, bEt rfl, sv_e hc (by omega), sv_e hc (by omega)]
  by_cases q : c p = 40
  · rw [bt (decide_eq_true q)]
    by_cases q2 : d < 2
    · rw [bLt q2 (by omega), if_pos ⟨q, q2⟩]
    · rw [bLf (by omega) (by omega), if_neg (fun z => q2 z.2)]
      exact tail
  · rw [bf (decide_eq_false q), if_neg (fun z => q z.1)]
    exact tail
theorem sb1 (h : TT c n) (p : Nat) {j : Nat} (hj : j < 10) (x2 : Int32) (μ : Mm) : m_Su_stateBehind (nI 1) (svI (c p)) x2 (nI j) μ = some (some (.int (if c p = 93 then nI 2 else if (49 ≤ c p ∧ c p ≤ 57) ∧ j < 5 then nI 1 else (-1 : Int32))), μ) := by
  have hc := h.c p
  rw [e_Su_stateBehind, bf (by decide), bEt rfl, sv_e hc (by omega), sv_e hc (by omega)]
  by_cases q : c p = 93
  · rw [bt (decide_eq_true q), if_pos q]
  · rw [bf (decide_eq_false q), if_neg q, s_isFig hc, cI_s, b2i_n]
    by_cases q2 : figB (c p) = true
    · obtain ⟨h1, h2⟩ := Bool.and_eq_true_iff.mp q2
      have h1 := of_decide_eq_true h1
      have h2 := of_decide_eq_true h2
      rw [q2, Bool.not_true, cond_false]
      by_cases q3 : c p = 48
      · rw [bt (decide_eq_true q3), if_neg (by omega)]
      · rw [bf (decide_eq_false q3)]
        by_cases q4 : j < 5
        · rw [bLt q4 (by omega), if_pos (by omega)]
        · rw [bLf (by omega) (by omega), if_neg (by omega)]
    · have q3 : ¬ (49 ≤ c p ∧ c p ≤ 57) := fun z => q2 (Bool.and_eq_true_iff.mpr ⟨decide_eq_true (by omega), decide_eq_true z.2⟩)
      rw [Bool.not_eq_true] at q2
      rw [q2, Bool.not_false, cond_true, if_neg (fun z => q3 z.1)]
theorem sb2 (h : TT c n) (p : Nat) {d : Nat} (hd : d < 3) (x3 : Int32) (μ : Mm) : m_Su_stateBehind (nI 2) (svI (c p)) (nI d) x3 μ = some (some (.int (if c p = 41 ∧ 0 < d then nI 2 else if c p = 43 ∨ c p = 45 ∨ c p = 42 then nI 0 else (-1 : Int32))), μ) := by
  have hc := h.c p
  have tail : (bif decide (c p = 43) then (some (some (Value.int (nI 0)), μ)) else (bif decide (c p = 45) then (some (some (.int (nI 0)), μ)) else (bif decide (c p = 42) then (some (some (.int (nI 0)), μ)) else (some (some (.int (-1 : Int32)), μ))))) = some (some (.int (if c p = 43 ∨ c p = 45 ∨ c p = 42 then nI 0 else (-1 : Int32))), μ) := by
    by_cases q : c p = 43
    · rw [bt (decide_eq_true q), if_pos (Or.inl q)]
    · rw [bf (decide_eq_false q)]
      by_cases q2 : c p = 45
      · rw [bt (decide_eq_true q2), if_pos (Or.inr (Or.inl q2))]
      · rw [bf (decide_eq_false q2)]
        by_cases q3 : c p = 42
        · rw [bt (decide_eq_true q3), if_pos (Or.inr (Or.inr q3))]
        · rw [bf (decide_eq_false q3), if_neg (by omega)]
  rw [e_Su_stateBehind, bf (by decide), bf (by decide), sv_e hc (by omega), sv_e hc (by omega), sv_e hc (by omega), sv_e hc (by omega)]
  by_cases q : c p = 41
  · rw [bt (decide_eq_true q)]
    by_cases q2 : 0 < d
    · rw [bLt q2 (by omega), if_pos ⟨q, q2⟩]
    · rw [bLf (by omega) (by omega), if_neg (fun z => q2 z.2)]
      exact tail
  · rw [bf (decide_eq_false q), if_neg (fun z => q z.1)]
    exact tail
theorem fail0 (h : TC c n μ) {p d : Nat} (hd : d < 3) (hp : p ≤ n) (x3 : Int32) (h1 : ¬ (c p = 40 ∧ d < 2)) (h2 : c p ≠ 91) (h3 : ¬ figB (c p) = true) : m_Su_wrongSign_9 (nI 0) (nI d) x3 (nI p) μ = some (some (.int (nI p)), μ) := by
  rcases Nat.lt_or_ge p n with q | q
  · have hs := sb0 h.1 p hd x3 μ
    rw [if_neg h1, if_neg h2, if_neg h3] at hs
    rw [st9 h q hs]
    exact bt (by decide)
  · obtain rfl : p = n := by omega
    rw [end9 h]
    exact bf (by decide)
theorem fail1 (h : TC c n μ) {p j : Nat} (hj : j < 10) (hp : p ≤ n) (x2 : Int32) (h1 : c p ≠ 93) (h2 : ¬ ((49 ≤ c p ∧ c p ≤ 57) ∧ j < 5)) : m_Su_wrongSign_9 (nI 1) x2 (nI j) (nI p) μ = some (some (.int (nI p)), μ) := by
  rcases Nat.lt_or_ge p n with q | q
  · have hs := sb1 h.1 p hj x2 μ
    rw [if_neg h1, if_neg h2] at hs
    rw [st9 h q hs]
    exact bt (by decide)
  · obtain rfl : p = n := by omega
    rw [end9 h]
    exact bf (by decide)
theorem fail2 (h : TC c n μ) {p d : Nat} (hd : d < 3) (h0 : 0 < d) (hp : p ≤ n) (x3 : Int32) (h1 : c p ≠ 41) (h2 : c p ≠ 42) (h3 : ¬ (c p = 43 ∨ c p = 45)) : m_Su_wrongSign_9 (nI 2) (nI d) x3 (nI p) μ = some (some (.int (nI p)), μ) := by
  rcases Nat.lt_or_ge p n with q | q
  · have hs := sb2 h.1 p hd x3 μ
    rw [if_neg (fun z => h1 z.1), if_neg (by omega)] at hs
    rw [st9 h q hs]
    exact bt (by decide)
  · obtain rfl : p = n := by omega
    rw [end9 h, bt (by decide)]
    exact bEf (by omega) (by omega) (by omega)
/-- the class's look at the form follows a reader -/
def SA (c : Nat → Nat) (n : Nat) (O : Nat → Wt) (d : Nat) : Prop := ∀ (p : Nat) (μ : Mm) (x3 : Int32), p ≤ n → TC c n μ → m_Su_wrongSign_9 (nI 0) (nI d) x3 (nI p) μ = if (O p).2.1 = true then m_Su_wrongSign_9 (nI 2) (nI d) (nI 0) (nI (O p).1) μ else some (some (.int (nI (O p).1)), μ)
theorem sa_on0 (h : TC c n μ) {q d : Nat} (hd : d < 3) (hq : q < n) (x3 : Int32) (hc : c q = 42 ∨ (c q = 43 ∨ c q = 45)) : m_Su_wrongSign_9 (nI 2) (nI d) x3 (nI q) μ = m_Su_wrongSign_9 (nI 0) (nI d) (nI 0) (nI (q + 1)) μ := by
  have hs := sb2 h.1 q hd x3 μ
  rw [if_neg (by omega), if_pos (by omega)] at hs
  rw [st9 h hq hs, bf (by decide), bf (by decide), sv_e (h.1.c q) (by omega), bf (decide_eq_false (by omega)), sv_e (h.1.c q) (by omega), bf (decide_eq_false (by omega))]
theorem sa_prL {O : Nat → Wt} {d : Nat} (hd : d < 3) (hG : GO n O) (hO : SA c n O d) (h : TC c n μ) : ∀ (f : Nat) (w : Wt), w.1 ≤ n → 42 ≤ w.1 + f → (if w.2.1 = true then m_Su_wrongSign_9 (nI 2) (nI d) (nI 0) (nI w.1) μ else some (some (.int (nI w.1)), μ)) = if (prL c O f w).2.1 = true then m_Su_wrongSign_9 (nI 2) (nI d) (nI 0) (nI (prL c O f w).1) μ else some (some (.int (nI (prL c O f w).1)), μ)
  | 0, w, h1, h2 => by
    have := h.1.1
    omega
  | f + 1, w, h1, h2 => by
    by_cases q : w.2.1 = true ∧ c w.1 = 42
    · have hl := h.1.lt (i := w.1) (by omega)
      obtain ⟨⟨g1, g2⟩, g3⟩ := hG (w.1 + 1) (by omega)
      rw [prL_s q.1 q.2, if_pos q.1, sa_on0 h hd hl _ (Or.inl q.2), hO (w.1 + 1) μ (nI 0) (by omega) h]
      exact sa_prL hd hG hO h f (combP w (O (w.1 + 1))) g2 (by show 42 ≤ (O (w.1 + 1)).1 + f; omega)
    · rw [prL_n q]
theorem sa_pr {O : Nat → Wt} {d : Nat} (hd : d < 3) (hG : GO n O) (hO : SA c n O d) : SA c n (prW c O) d := fun p μ x3 hp h => by
  rw [hO p μ x3 hp h]
  exact sa_prL hd hG hO h 42 (O p) (hG p hp).1.2 (by omega)
theorem sa_smL {P : Nat → Wt} {d : Nat} (hd : d < 3) (hG : GO n P) (hP : SA c n P d) (h : TC c n μ) : ∀ (f : Nat) (w : Wt), w.1 ≤ n → 42 ≤ w.1 + f → (if w.2.1 = true then m_Su_wrongSign_9 (nI 2) (nI d) (nI 0) (nI w.1) μ else some (some (.int (nI w.1)), μ)) = if (smL c P f w).2.1 = true then m_Su_wrongSign_9 (nI 2) (nI d) (nI 0) (nI (smL c P f w).1) μ else some (some (.int (nI (smL c P f w).1)), μ)
  | 0, w, h1, h2 => by
    have := h.1.1
    omega
  | f + 1, w, h1, h2 => by
    by_cases q : w.2.1 = true ∧ (c w.1 = 43 ∨ c w.1 = 45)
    · have hl := h.1.lt (i := w.1) (by omega)
      obtain ⟨⟨g1, g2⟩, g3⟩ := hG (w.1 + 1) (by omega)
      rw [smL_s q.1 q.2, if_pos q.1, sa_on0 h hd hl _ (Or.inr q.2), hP (w.1 + 1) μ (nI 0) (by omega) h]
      exact sa_smL hd hG hP h f (combS (c w.1) w (P (w.1 + 1))) g2 (by show 42 ≤ (P (w.1 + 1)).1 + f; omega)
    · rw [smL_n q]
theorem sa_sm (hT : TT c n) {O : Nat → Wt} {d : Nat} (hd : d < 3) (hG : GO n O) (hO : SA c n O d) : SA c n (smW c O) d := fun p μ x3 hp h => by
  rw [sa_pr hd hG hO p μ x3 hp h]
  exact sa_smL hd (go_pr hT hG) (sa_pr hd hG hO) h 42 (prW c O p) (go_pr hT hG p hp).1.2 (by omega)
/-- behind the loops no sign of theirs stands -/
theorem prL_e {O : Nat → Wt} : ∀ (f : Nat) (w : Wt), (prL c O f w).2.1 = true → c (prL c O f w).1 ≠ 42
  | 0, w, h => by cases h
  | f + 1, w, h => by
    by_cases q : w.2.1 = true ∧ c w.1 = 42
    · rw [prL_s q.1 q.2] at h ⊢
      exact prL_e f _ h
    · rw [prL_n q] at h ⊢
      exact fun z => q ⟨h, z⟩
theorem smL_e {P : Nat → Wt} (hP : ∀ p, (P p).2.1 = true → c (P p).1 ≠ 42) : ∀ (f : Nat) (w : Wt), (w.2.1 = true → c w.1 ≠ 42) → (smL c P f w).2.1 = true → c (smL c P f w).1 ≠ 42 ∧ ¬ (c (smL c P f w).1 = 43 ∨ c (smL c P f w).1 = 45)
  | 0, w, _, h => by cases h
  | f + 1, w, hw, h => by
    by_cases q : w.2.1 = true ∧ (c w.1 = 43 ∨ c w.1 = 45)
    · rw [smL_s q.1 q.2] at h ⊢
      exact smL_e hP f _ (fun z => hP _ z) h
    · rw [smL_n q] at h ⊢
      exact ⟨hw h, fun z => q ⟨h, z⟩⟩
theorem sm_e {O : Nat → Wt} (p : Nat) (h : (smW c O p).2.1 = true) : c (smW c O p).1 ≠ 42 ∧ ¬ (c (smW c O p).1 = 43 ∨ c (smW c O p).1 = 45) :=
  smL_e (fun q z => prL_e 42 (O q) z) 42 _ (fun z => prL_e 42 (O p) z) h
theorem br9 (h : TC c n μ) (x2 : Int32) : ∀ (f j q : Nat), j + f = 5 → q ≤ n → m_Su_wrongSign_9 (nI 1) x2 (nI j) (nI q) μ = if c (q + dgF c f q) = 93 then m_Su_wrongSign_9 (nI 2) x2 (nI 0) (nI (q + dgF c f q + 1)) μ else some (some (.int (nI (q + dgF c f q))), μ) := by
  have key : ∀ (j q : Nat), j < 10 → q ≤ n → ¬ ((49 ≤ c q ∧ c q ≤ 57) ∧ j < 5) → m_Su_wrongSign_9 (nI 1) x2 (nI j) (nI q) μ = if c q = 93 then m_Su_wrongSign_9 (nI 2) x2 (nI 0) (nI (q + 1)) μ else some (some (.int (nI q)), μ) := fun j q hj hq hn => by
    by_cases e : c q = 93
    · have hl := h.1.lt (i := q) (by omega)
      have hs := sb1 h.1 q hj x2 μ
      rw [if_pos e] at hs
      rw [if_pos e, st9 h hl hs, bf (by decide), bf (by decide), sv_e (h.1.c q) (by omega), bf (decide_eq_false (by omega)), sv_e (h.1.c q) (by omega), bf (decide_eq_false (by omega))]
    · rw [if_neg e]
      exact fail1 h hj hq x2 e hn
  intro f
  induction f with
  | zero => exact fun j q e hq => key j q (by omega) hq (by omega)
  | succ f ih =>
    intro j q e hq
    unfold dgF
    by_cases z : 49 ≤ c q ∧ c q ≤ 57
    · have hl := h.1.lt (i := q) (by omega)
      have hs := sb1 h.1 q (show j < 10 by omega) x2 μ
      rw [if_neg (by omega), if_pos (by omega)] at hs
      rw [if_pos z, st9 h hl hs, bf (by decide), bEt rfl, bEt rfl, sv_e (h.1.c q) (by omega), bf (decide_eq_false (by omega)), sv_e (h.1.c q) (by omega), bf (decide_eq_false (by omega)), nI_p1, ih (j + 1) (q + 1) (by omega) (by omega), show q + 1 + dgF c f (q + 1) = q + (dgF c f (q + 1) + 1) by omega]
    · rw [if_neg z]
      exact key j q (by omega) hq (fun y => z y.1)
theorem sa_br (h : TC c n μ) {p d : Nat} (hd : d < 3) (hp : p ≤ n) (x3 : Int32) (e : c p = 91) : m_Su_wrongSign_9 (nI 0) (nI d) x3 (nI p) μ = if (brW c p).2.1 = true then m_Su_wrongSign_9 (nI 2) (nI d) (nI 0) (nI (brW c p).1) μ else some (some (.int (nI (brW c p).1)), μ) := by
  have hl := h.1.lt (i := p) (by omega)
  have hs := sb0 h.1 p hd x3 μ
  rw [if_neg (by omega), if_pos e] at hs
  rw [st9 h hl hs, bf (by decide), bEt rfl, bf (by decide), sv_e (h.1.c p) (by omega), bf (decide_eq_false (by omega)), sv_e (h.1.c p) (by omega), bf (decide_eq_false (by omega)), br9 h _ 5 0 (p + 1) rfl (by omega)]
  unfold brW
  by_cases q : c (brE c p) = 93
  · rw [if_pos q]
    exact if_pos q
  · rw [if_neg q]
    exact if_neg q
theorem sa_fig (h : TC c n μ) {p d : Nat} (hd : d < 3) (x3 : Int32) (e : figB (c p) = true) : m_Su_wrongSign_9 (nI 0) (nI d) x3 (nI p) μ = m_Su_wrongSign_9 (nI 2) (nI d) (nI 0) (nI (p + 1)) μ := by
  obtain ⟨hl, h1, h2⟩ := fig_lt h.1 e
  have hs := sb0 h.1 p hd x3 μ
  rw [if_neg (by omega), if_neg (by omega), if_pos e] at hs
  rw [st9 h hl hs, bf (by decide), bf (by decide), sv_e (h.1.c p) (by omega), bf (decide_eq_false (by omega)), sv_e (h.1.c p) (by omega), bf (decide_eq_false (by omega))]
theorem sa_on (hT : TT c n) : ∀ (k d : Nat), k + d = 2 → SA c n (onW c k) d
  | 0, d, hk => fun p μ x3 hp h => by
    unfold onW
    by_cases q1 : figB (c p) = true
    · rw [if_pos q1, sa_fig h (by omega) x3 q1]
      exact (if_pos rfl).symm
    · rw [if_neg q1]
      by_cases q2 : c p = 91
      · rw [if_pos q2, sa_br h (by omega) hp x3 q2]
      · rw [if_neg q2, fail0 h (show d < 3 by omega) hp x3 (by omega) q2 q1]
        exact (if_neg Bool.false_ne_true).symm
  | k + 1, d, hk => fun p μ x3 hp h => by
    unfold onW
    by_cases q1 : figB (c p) = true
    · rw [if_pos q1, sa_fig h (by omega) x3 q1]
      exact (if_pos rfl).symm
    · rw [if_neg q1]
      by_cases q2 : c p = 91
      · rw [if_pos q2, sa_br h (by omega) hp x3 q2]
      · rw [if_neg q2]
        by_cases q3 : c p = 40
        · have hl := h.1.lt (i := p) (by omega)
          have hs := sb0 h.1 p (show d < 3 by omega) x3 μ
          rw [if_pos ⟨q3, by omega⟩] at hs
          have hg := go_on hT k
          obtain ⟨⟨g1, g2⟩, g3⟩ := go_sm hT hg (p + 1) (by omega)
          rw [if_pos q3, st9 h hl hs, bf (by decide), bf (by decide), sv_e (h.1.c p) (by omega), bt (decide_eq_true q3), nI_p1, sa_sm hT (show d + 1 < 3 by omega) hg (sa_on hT k (d + 1) (by omega)) (p + 1) μ (nI 0) (by omega) h]
          by_cases q4 : (smW c (onW c k) (p + 1)).2.1 = true
          · obtain ⟨e1, e2⟩ := sm_e (p + 1) q4
            by_cases q5 : c (smW c (onW c k) (p + 1)).1 = 41
            · have hl2 := h.1.lt (i := (smW c (onW c k) (p + 1)).1) (by omega)
              have hs2 := sb2 h.1 (smW c (onW c k) (p + 1)).1 (show d + 1 < 3 by omega) (nI 0) μ
              rw [if_pos ⟨q5, by omega⟩] at hs2
              have ec : cloW c (smW c (onW c k) (p + 1)) = ((smW c (onW c k) (p + 1)).1 + 1, (smW c (onW c k) (p + 1)).2) := if_pos ⟨q4, q5⟩
              rw [ec, if_pos q4, st9 h hl2 hs2, bf (by decide), bf (by decide), sv_e (h.1.c _) (by omega), bf (decide_eq_false (by omega)), sv_e (h.1.c _) (by omega), bt (decide_eq_true q5), nI_m1]
              exact (if_pos q4).symm
            · have ec : cloW c (smW c (onW c k) (p + 1)) = failW (smW c (onW c k) (p + 1)).1 := if_neg (fun z => q5 z.2)
              rw [ec, if_pos q4, fail2 h (show d + 1 < 3 by omega) (by omega) g2 _ q5 e1 e2]
              exact (if_neg Bool.false_ne_true).symm
          · have ec : cloW c (smW c (onW c k) (p + 1)) = failW (smW c (onW c k) (p + 1)).1 := if_neg (fun z => q4 z.1)
            rw [ec, if_neg q4]
            exact (if_neg Bool.false_ne_true).symm
        · rw [if_neg q3, fail0 h (show d < 3 by omega) hp x3 (fun z => q3 z.1) q2 q1]
          exact (if_neg Bool.false_ne_true).symm
/-- the whole sum -/
def W0 (c : Nat → Nat) : Wt := smW c (onW c 2) 0
def okW (c : Nat → Nat) (n : Nat) : Prop := (W0 c).2.1 = true ∧ (W0 c).1 = n
theorem w0_le (hT : TT c n) : (W0 c).1 ≤ n := (go_sm hT (go_on hT 2) 0 (by omega)).1.2
theorem s_wrongSign (h : TC c n μ) : (okW c n ∧ m_Su_wrongSign μ = some (some (.int (-1 : Int32)), μ)) ∨ (¬ okW c n ∧ m_Su_wrongSign μ = some (some (.int (nI (W0 c).1)), μ)) := by
  have hT := h.1
  have h1 := sa_sm hT (show 0 < 3 by omega) (go_on hT 2) (sa_on hT 2 0 rfl) 0 μ (nI 0) (by omega) h
  have hle := w0_le hT
  rw [e_Su_wrongSign, h1]
  show (okW c n ∧ (if (W0 c).2.1 = true then m_Su_wrongSign_9 (nI 2) (nI 0) (nI 0) (nI (W0 c).1) μ else some (some (.int (nI (W0 c).1)), μ)) = _) ∨ (¬ okW c n ∧ (if (W0 c).2.1 = true then m_Su_wrongSign_9 (nI 2) (nI 0) (nI 0) (nI (W0 c).1) μ else some (some (.int (nI (W0 c).1)), μ)) = _)
  by_cases q : (W0 c).2.1 = true
  · obtain ⟨e1, e2⟩ := sm_e (c := c) (O := onW c 2) 0 q
    rw [if_pos q]
    by_cases q2 : (W0 c).1 = n
    · refine Or.inl ⟨⟨q, q2⟩, ?_⟩
      rw [q2, end9 h, bt (by decide), bEt rfl]
    · refine Or.inr ⟨fun z => q2 z.2, ?_⟩
      have hs := sb2 h.1 (W0 c).1 (show 0 < 3 by omega) (nI 0) μ
      rw [if_neg (by omega), if_neg (show ¬ (c (W0 c).1 = 43 ∨ c (W0 c).1 = 45 ∨ c (W0 c).1 = 42) from fun z => by
        rcases z with z | z | z
        · exact e2 (Or.inl z)
        · exact e2 (Or.inr z)
        · exact e1 z)] at hs
      rw [st9 h (by omega) hs]
      exact bt (by decide)
  · rw [if_neg q]
    exact Or.inr ⟨fun z => q z.1, rfl⟩
/-! the types that are none -/
theorem w2_s (h : TC c n μ) {p : Nat} (hp : p < n) (e : c p ≠ 91) : m_Su_wrongType_2 (nI p) μ = m_Su_wrongType_2 (nI (p + 1)) μ := by
  have h1 := h.1.1
  rw [e_Su_wrongType_2, h.2.1, bLt hp (by omega), s_signAt h (by omega), cI_s, sv_e (h.1.c p) (by omega), bf (decide_eq_false e), nI_p1]
theorem w2_r (h : TC c n μ) : ∀ (d q : Nat), (∀ i, i < d → q + i < n ∧ c (q + i) ≠ 91) → m_Su_wrongType_2 (nI q) μ = m_Su_wrongType_2 (nI (q + d)) μ
  | 0, q, _ => rfl
  | d + 1, q, hq => by
    obtain ⟨t1, t2⟩ := hq 0 (by omega)
    rw [Nat.add_zero] at t1 t2
    rw [w2_s h t1 t2, w2_r h d (q + 1) (fun i hi => by
      have := hq (i + 1) (by omega)
      rw [show q + 1 + i = q + (i + 1) by omega]
      exact this), show q + 1 + d = q + (d + 1) by omega]
theorem tb4 (h : TC c n μ) {p : Nat} (hp : p < 1000) : ∀ (f k v : Nat), k + f = 6 → v < 10 ^ (k - 1) → 1 ≤ k → c (p + k + dgF c f (p + k)) = 93 → m_Su_typeBehind_4 (nI p) (nI v) (nI k) μ = some (some (.int (oc (tyO (nvF c f (p + k) v)))), μ)
  | 0, k, v, e, hv, h1, hc => by
    obtain rfl : k = 6 := by omega
    rw [e_Su_typeBehind_4, bLt (by omega) (by omega), s_find_O (by omega), cI_s]
    rfl
  | f + 1, k, v, e, hv, h1, hc => by
    have hv5 : v < 10 ^ 5 := Nat.lt_of_lt_of_le hv (Nat.pow_le_pow_right (by omega) (by omega))
    unfold dgF at hc
    unfold nvF
    rw [e_Su_typeBehind_4, bLf (by omega) (by omega), nI_add, s_signAt h (by omega), cI_s, s_isFig (h.1.c _), cI_s, b2i_n]
    by_cases q : 49 ≤ c (p + k) ∧ c (p + k) ≤ 57
    · rw [if_pos q] at hc
      have hf : figB (c (p + k)) = true := Bool.and_eq_true_iff.mpr ⟨decide_eq_true (by omega), decide_eq_true q.2⟩
      rw [if_pos q, hf, Bool.not_true, cond_false, s_signAt h (by omega), cI_s, sv_n (by omega), nI_mul, nI_add, nI_sub (by omega), nI_p1, Nat.mul_comm v 10]
      refine tb4 h hp f (k + 1) _ (by omega) ?_ (by omega) ?_
      · obtain ⟨m, rfl⟩ : ∃ m, k = m + 1 := ⟨k - 1, by omega⟩
        rw [Nat.add_sub_cancel, Nat.pow_succ]
        rw [Nat.add_sub_cancel] at hv
        omega
      · rw [show p + (k + 1) + dgF c f (p + (k + 1)) = p + k + (dgF c f (p + k + 1) + 1) by
          rw [show p + (k + 1) = p + k + 1 by omega]
          omega]
        exact hc
    · rw [if_neg q] at hc
      have hf : figB (c (p + k)) = false := by
        rw [show c (p + k) = 93 from hc]
        rfl
      rw [if_neg q, hf, Bool.not_false, cond_true, s_find_O (by omega), cI_s]
theorem s_typeBehind (h : TC c n μ) {p : Nat} (hp : p < 1000) (hc : c (brE c p) = 93) : m_Su_typeBehind (nI p) μ = some (some (.int (oc (brT c p))), μ) := by
  rw [e_Su_typeBehind]
  exact tb4 h hp 5 1 0 rfl (by decide) (by omega) hc
def ocR (o : Option Nat) (x : Option Rs) (μ : Mm) : Option Rs := match o with
  | some b => some (some (.int (nI b)), μ)
  | none => x
def S2 (c : Nat → Nat) (n : Nat) (O : Nat → Wt) : Prop := ∀ (p : Nat) (μ : Mm), p ≤ n → TC c n μ → (O p).2.1 = true → m_Su_wrongType_2 (nI p) μ = ocR (O p).2.2.1 (m_Su_wrongType_2 (nI (O p).1) μ) μ
theorem ocR_or (a b : Option Nat) (x : Option Rs) (μ : Mm) : ocR a (ocR b x μ) μ = ocR (a.or b) x μ := by
  cases a <;> rfl
theorem s2_prL {O : Nat → Wt} (hG : GO n O) (hO : S2 c n O) (h : TC c n μ) : ∀ (f : Nat) (w : Wt), w.1 ≤ n → (prL c O f w).2.1 = true → ocR w.2.2.1 (m_Su_wrongType_2 (nI w.1) μ) μ = ocR (prL c O f w).2.2.1 (m_Su_wrongType_2 (nI (prL c O f w).1) μ) μ
  | 0, w, _, hk => by cases hk
  | f + 1, w, h1, hk => by
    by_cases q : w.2.1 = true ∧ c w.1 = 42
    · have hl := h.1.lt (i := w.1) (by omega)
      rw [prL_s q.1 q.2] at hk ⊢
      have hz : (combP w (O (w.1 + 1))).2.1 = true := prL_ok hk
      have hz : (O (w.1 + 1)).2.1 = true := hz
      rw [w2_s h hl (by omega), hO (w.1 + 1) μ (by omega) h hz, ocR_or]
      exact s2_prL hG hO h f (combP w (O (w.1 + 1))) (hG (w.1 + 1) (by omega)).1.2 hk
    · rw [prL_n q]
theorem s2_pr {O : Nat → Wt} (hG : GO n O) (hO : S2 c n O) : S2 c n (prW c O) := fun p μ hp h hk => by
  rw [hO p μ hp h (prL_ok (f := 42) hk)]
  exact s2_prL hG hO h 42 (O p) (hG p hp).1.2 hk
theorem s2_smL {P : Nat → Wt} (hG : GO n P) (hP : S2 c n P) (h : TC c n μ) : ∀ (f : Nat) (w : Wt), w.1 ≤ n → (smL c P f w).2.1 = true → ocR w.2.2.1 (m_Su_wrongType_2 (nI w.1) μ) μ = ocR (smL c P f w).2.2.1 (m_Su_wrongType_2 (nI (smL c P f w).1) μ) μ
  | 0, w, _, hk => by cases hk
  | f + 1, w, h1, hk => by
    by_cases q : w.2.1 = true ∧ (c w.1 = 43 ∨ c w.1 = 45)
    · have hl := h.1.lt (i := w.1) (by omega)
      rw [smL_s q.1 q.2] at hk ⊢
      have hz : (combS (c w.1) w (P (w.1 + 1))).2.1 = true := smL_ok hk
      have hz : (P (w.1 + 1)).2.1 = true := hz
      rw [w2_s h hl (by omega), hP (w.1 + 1) μ (by omega) h hz, ocR_or]
      exact s2_smL hG hP h f (combS (c w.1) w (P (w.1 + 1))) (hG (w.1 + 1) (by omega)).1.2 hk
    · rw [smL_n q]
theorem s2_sm (hT : TT c n) {O : Nat → Wt} (hG : GO n O) (hO : S2 c n O) : S2 c n (smW c O) := fun p μ hp h hk => by
  rw [s2_pr hG hO p μ hp h (smL_ok (f := 42) hk)]
  exact s2_smL (go_pr hT hG) (s2_pr hG hO) h 42 (prW c O p) (go_pr hT hG p hp).1.2 hk
theorem s2_br (h : TC c n μ) {p : Nat} (hp : p ≤ n) (e : c p = 91) (hk : (brW c p).2.1 = true) : m_Su_wrongType_2 (nI p) μ = ocR (brW c p).2.2.1 (m_Su_wrongType_2 (nI (brW c p).1) μ) μ := by
  have h1 := h.1.1
  have hl := h.1.lt (i := p) (by omega)
  obtain ⟨b1, b2⟩ := br_le h.1 e
  unfold brW at hk ⊢
  by_cases q : c (brE c p) = 93
  · rw [if_pos q]
    rw [e_Su_wrongType_2, h.2.1, bLt hl (by omega), s_signAt h (by omega), cI_s, sv_e (h.1.c p) (by omega), bt (decide_eq_true e), s_typeBehind h (by omega) q, cI_s]
    cases hb : brT c p with
    | none =>
      rw [if_pos rfl, oc_n]
      exact bt d_neg
    | some t =>
      have ht := tyO_lt hb
      have hr := w2_r h (dgF c 5 (p + 1) + 1) (p + 1) (fun i hi => by
        by_cases z : i < dgF c 5 (p + 1)
        · have := dg_s 5 (p + 1) i z
          exact ⟨h.1.lt (by omega), by omega⟩
        · have hi2 : p + 1 + i = brE c p := by unfold brE; omega
          rw [hi2, q]
          exact ⟨h.1.lt (by omega), by omega⟩)
      rw [if_neg (fun z => by cases z), oc_s, bf (nI_lt0 (by omega)), nI_p1, hr]
      rfl
  · rw [if_neg q] at hk
    cases hk
theorem s2_on (hT : TT c n) : ∀ k, S2 c n (onW c k)
  | 0 => fun p μ hp h hk => by
    unfold onW at hk ⊢
    by_cases q1 : figB (c p) = true
    · obtain ⟨hl, a1, a2⟩ := fig_lt h.1 q1
      rw [if_pos q1, w2_s h hl (by omega)]
      rfl
    · rw [if_neg q1] at hk ⊢
      by_cases q2 : c p = 91
      · rw [if_pos q2] at hk ⊢
        exact s2_br h hp q2 hk
      · rw [if_neg q2] at hk
        cases hk
  | k + 1 => fun p μ hp h hk => by
    unfold onW at hk ⊢
    by_cases q1 : figB (c p) = true
    · obtain ⟨hl, a1, a2⟩ := fig_lt h.1 q1
      rw [if_pos q1, w2_s h hl (by omega)]
      rfl
    · rw [if_neg q1] at hk ⊢
      by_cases q2 : c p = 91
      · rw [if_pos q2] at hk ⊢
        exact s2_br h hp q2 hk
      · rw [if_neg q2] at hk ⊢
        by_cases q3 : c p = 40
        · rw [if_pos q3] at hk ⊢
          have hl := h.1.lt (i := p) (by omega)
          unfold cloW at hk ⊢
          by_cases q4 : (smW c (onW c k) (p + 1)).2.1 = true ∧ c (smW c (onW c k) (p + 1)).1 = 41
          · rw [if_pos q4]
            have hl2 := h.1.lt (i := (smW c (onW c k) (p + 1)).1) (by omega)
            rw [w2_s h hl (by omega), s2_sm hT (go_on hT k) (s2_on hT k) (p + 1) μ (by omega) h q4.1, w2_s h hl2 (by omega)]
          · rw [if_neg q4] at hk
            cases hk
        · rw [if_neg q3] at hk
          cases hk
theorem s_wrongType (h : TC c n μ) (hk : okW c n) : m_Su_wrongType μ = some (some (.int (oc (W0 c).2.2.1)), μ) := by
  have h1 := h.1.1
  have := s2_sm h.1 (go_on h.1 2) (s2_on h.1 2) 0 μ (by omega) h hk.1
  rw [e_Su_wrongType, this]
  show ocR (W0 c).2.2.1 (m_Su_wrongType_2 (nI (W0 c).1) μ) μ = _
  rw [hk.2]
  cases (W0 c).2.2.1 with
  | none =>
    show m_Su_wrongType_2 (nI n) μ = _
    rw [e_Su_wrongType_2, h.2.1, bLf (by omega) (by omega)]
    rfl
  | some b => rfl
end FRM
