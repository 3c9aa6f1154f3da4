/-! sums: how a tape is read (as a function); what is wrong with its form, and its types: both sides -/
abbrev Vt : Type := Nat → Nat → Int64
/-- where it stands, whether all is well, the first type that is none, the first star too great, what it comes to -/
abbrev Wt : Type := Nat × Bool × Option Nat × Option Nat × Vt
def figB (x : Nat) : Bool := decide (48 ≤ x) && decide (x ≤ 57)
def tyF (v : Nat) : Nat → Nat → Option Nat
  | 0, _ => none
  | f + 1, k => if numN k = v then some k else tyF v f (k + 1)
def tyO (v : Nat) : Option Nat := tyF v 19 0
def dgF (c : Nat → Nat) : Nat → Nat → Nat
  | 0, _ => 0
  | f + 1, p => if 49 ≤ c p ∧ c p ≤ 57 then dgF c f (p + 1) + 1 else 0
def nvF (c : Nat → Nat) : Nat → Nat → Nat → Nat
  | 0, _, v => v
  | f + 1, p, v => if 49 ≤ c p ∧ c p ≤ 57 then nvF c f (p + 1) (10 * v + c p - 48) else v
def sgl (t : Nat) (x : Int64) : Vt := fun u j => if u = t ∧ j = 0 then x else lN 0
/-- products -/
def pvX (f g : Vt) (m n l j : Nat) : Int64 := pmul (rp (hL m n l)) (pmul (f m) (g n)) j
def pvN (f g : Vt) (m : Nat) : Nat → Nat → Vt → Option Vt
  | 0, _, a => some a
  | k + 1, n, a => if hasB (g n) then (if 5 < sizN m + sizN n then none else pvN f g m k (n + 1) (fun l j => a l j + pvX f g m n l j)) else pvN f g m k (n + 1) a
def pvM (f g : Vt) : Nat → Nat → Vt → Option Vt
  | 0, _, a => some a
  | k + 1, m, a => if hasB (f m) then (match pvN f g m 19 0 a with
    | none => none
    | some b => pvM f g k (m + 1) b) else pvM f g k (m + 1) a
def PVo (f g : Vt) : Option Vt := pvM f g 19 0 (fun _ _ => lN 0)
def failW (q : Nat) : Wt := (q, false, none, none, fun _ _ => lN 0)
def brE (c : Nat → Nat) (p : Nat) : Nat := p + 1 + dgF c 5 (p + 1)
def brT (c : Nat → Nat) (p : Nat) : Option Nat := tyO (nvF c 5 (p + 1) 0)
def brW (c : Nat → Nat) (p : Nat) : Wt := if c (brE c p) = 93 then (brE c p + 1, true, (if brT c p = none then some p else none), none, sgl ((brT c p).getD 0) (lN 1)) else failW (brE c p)
def cmB (w z : Wt) : Option Nat × Vt := match w.2.2.2.1 with
  | some x => (some x, w.2.2.2.2)
  | none => match z.2.2.2.1 with
    | some y => (some y, w.2.2.2.2)
    | none => match PVo w.2.2.2.2 z.2.2.2.2 with
      | none => (some w.1, w.2.2.2.2)
      | some h => (none, h)
def combP (w z : Wt) : Wt := (z.1, z.2.1, w.2.2.1.or z.2.2.1, (cmB w z).1, (cmB w z).2)
def sgn (x : Nat) : Int64 := if x = 43 then lN 1 else (-1 : Int64)
def cmS (x : Nat) (w z : Wt) : Option Nat × Vt := match w.2.2.2.1 with
  | some x => (some x, w.2.2.2.2)
  | none => match z.2.2.2.1 with
    | some y => (some y, w.2.2.2.2)
    | none => (none, fun t j => w.2.2.2.2 t j + z.2.2.2.2 t j * sgn x)
def combS (x : Nat) (w z : Wt) : Wt := (z.1, z.2.1, w.2.2.1.or z.2.2.1, (cmS x w z).1, (cmS x w z).2)
def prL (c : Nat → Nat) (O : Nat → Wt) : Nat → Wt → Wt
  | 0, w => failW w.1
  | f + 1, w => if w.2.1 = true ∧ c w.1 = 42 then prL c O f (combP w (O (w.1 + 1))) else w
def smL (c : Nat → Nat) (P : Nat → Wt) : Nat → Wt → Wt
  | 0, w => failW w.1
  | f + 1, w => if w.2.1 = true ∧ (c w.1 = 43 ∨ c w.1 = 45) then smL c P f (combS (c w.1) w (P (w.1 + 1))) else w
def prW (c : Nat → Nat) (O : Nat → Wt) (p : Nat) : Wt := prL c O 42 (O p)
def smW (c : Nat → Nat) (O : Nat → Wt) (p : Nat) : Wt := smL c (prW c O) 42 (prW c O p)
def cloW (c : Nat → Nat) (w : Wt) : Wt := if w.2.1 = true ∧ c w.1 = 41 then (w.1 + 1, w.2) else failW w.1
def onW (c : Nat → Nat) : Nat → Nat → Wt
  | 0, p => if figB (c p) then (p + 1, true, none, none, sgl 0 (lN (c p - 48))) else if c p = 91 then brW c p else failW p
  | k + 1, p => if figB (c p) then (p + 1, true, none, none, sgl 0 (lN (c p - 48))) else if c p = 91 then brW c p else if c p = 40 then cloW c (smW c (onW c k) (p + 1)) else failW p
theorem prL_s {c : Nat → Nat} {O : Nat → Wt} {f : Nat} {w : Wt} (h1 : w.2.1 = true) (h2 : c w.1 = 42) : prL c O (f + 1) w = prL c O f (combP w (O (w.1 + 1))) := if_pos ⟨h1, h2⟩
theorem prL_n {c : Nat → Nat} {O : Nat → Wt} {f : Nat} {w : Wt} (h : ¬ (w.2.1 = true ∧ c w.1 = 42)) : prL c O (f + 1) w = w := if_neg h
theorem smL_s {c : Nat → Nat} {P : Nat → Wt} {f : Nat} {w : Wt} (h1 : w.2.1 = true) (h2 : c w.1 = 43 ∨ c w.1 = 45) : smL c P (f + 1) w = smL c P f (combS (c w.1) w (P (w.1 + 1))) := if_pos ⟨h1, h2⟩
theorem smL_n {c : Nat → Nat} {P : Nat → Wt} {f : Nat} {w : Wt} (h : ¬ (w.2.1 = true ∧ (c w.1 = 43 ∨ c w.1 = 45))) : smL c P (f + 1) w = w := if_neg h
theorem prL_ok {c : Nat → Nat} {O : Nat → Wt} : ∀ {f : Nat} {w : Wt}, (prL c O f w).2.1 = true → w.2.1 = true
  | 0, w, h => by cases h
  | f + 1, w, h => by
    by_cases q : w.2.1 = true
    · exact q
    · rw [prL_n (fun z => q z.1)] at h
      exact h
theorem smL_ok {c : Nat → Nat} {P : Nat → Wt} : ∀ {f : Nat} {w : Wt}, (smL c P f w).2.1 = true → w.2.1 = true
  | 0, w, h => by cases h
  | f + 1, w, h => by
    by_cases q : w.2.1 = true
    · exact q
    · rw [smL_n (fun z => q z.1)] at h
      exact h
/-- a tape of n signs -/
def TT (c : Nat → Nat) (n : Nat) : Prop := n ≤ 40 ∧ (∀ i, n ≤ i → c i = 999) ∧ ∀ i, i < n → c i < 128
theorem TT.lt {c : Nat → Nat} {n : Nat} (h : TT c n) {i : Nat} (hi : c i ≠ 999) : i < n := by
  rcases Nat.lt_or_ge i n with q | q
  · exact q
  · exact absurd (h.2.1 i q) hi
theorem TT.c {c : Nat → Nat} {n : Nat} (h : TT c n) (i : Nat) : c i < 128 ∨ c i = 999 := by
  rcases Nat.lt_or_ge i n with q | q
  · exact Or.inl (h.2.2 i q)
  · exact Or.inr (h.2.1 i q)
/-- a reader goes on, and no further than the tape -/
def GO (n : Nat) (O : Nat → Wt) : Prop := ∀ p, p ≤ n → (p ≤ (O p).1 ∧ (O p).1 ≤ n) ∧ ((O p).2.1 = true → p < (O p).1)
section GOS
variable {c : Nat → Nat} {n : Nat}
theorem go_prL (hT : TT c n) {O : Nat → Wt} (hO : GO n O) (p : Nat) : ∀ (f : Nat) (w : Wt), (p ≤ w.1 ∧ w.1 ≤ n) → (w.2.1 = true → p < w.1) → 42 ≤ w.1 + f → (p ≤ (prL c O f w).1 ∧ (prL c O f w).1 ≤ n) ∧ ((prL c O f w).2.1 = true → p < (prL c O f w).1)
  | 0, w, h1, h2, h3 => by
    have := hT.1
    omega
  | f + 1, w, h1, h2, h3 => by
    by_cases q : w.2.1 = true ∧ c w.1 = 42
    · rw [prL_s q.1 q.2]
      have hl := hT.lt (i := w.1) (by omega)
      obtain ⟨⟨g1, g2⟩, g3⟩ := hO (w.1 + 1) (by omega)
      exact go_prL hT hO p f _ ⟨by show p ≤ (O (w.1 + 1)).1; omega, g2⟩ (fun _ => by show p < (O (w.1 + 1)).1; omega) (by show 42 ≤ (O (w.1 + 1)).1 + f; omega)
    · rw [prL_n q]
      exact ⟨h1, h2⟩
theorem go_pr (hT : TT c n) {O : Nat → Wt} (hO : GO n O) : GO n (prW c O) := fun p hp => by
  obtain ⟨g1, g3⟩ := hO p hp
  exact go_prL hT hO p 42 (O p) g1 g3 (by omega)
theorem go_smL (hT : TT c n) {P : Nat → Wt} (hP : GO n P) (p : Nat) : ∀ (f : Nat) (w : Wt), (p ≤ w.1 ∧ w.1 ≤ n) → (w.2.1 = true → p < w.1) → 42 ≤ w.1 + f → (p ≤ (smL c P f w).1 ∧ (smL c P f w).1 ≤ n) ∧ ((smL c P f w).2.1 = true → p < (smL c P f w).1)
  | 0, w, h1, h2, h3 => by
    have := hT.1
    omega
  | f + 1, w, h1, h2, h3 => by
    by_cases q : w.2.1 = true ∧ (c w.1 = 43 ∨ c w.1 = 45)
    · rw [smL_s q.1 q.2]
      have hl := hT.lt (i := w.1) (by omega)
      obtain ⟨⟨g1, g2⟩, g3⟩ := hP (w.1 + 1) (by omega)
      exact go_smL hT hP p f _ ⟨by show p ≤ (P (w.1 + 1)).1; omega, g2⟩ (fun _ => by show p < (P (w.1 + 1)).1; omega) (by show 42 ≤ (P (w.1 + 1)).1 + f; omega)
    · rw [smL_n q]
      exact ⟨h1, h2⟩
theorem go_sm (hT : TT c n) {O : Nat → Wt} (hO : GO n O) : GO n (smW c O) := fun p hp => by
  obtain ⟨g1, g3⟩ := go_pr hT hO p hp
  exact go_smL hT (go_pr hT hO) p 42 (prW c O p) g1 g3 (by omega)
theorem dg_s : ∀ (f p i : Nat), i < dgF c f p → 49 ≤ c (p + i) ∧ c (p + i) ≤ 57
  | 0, p, i, h => absurd h (Nat.not_lt_zero i)
  | f + 1, p, i, h => by
    unfold dgF at h
    by_cases q : 49 ≤ c p ∧ c p ≤ 57
    · rw [if_pos q] at h
      cases i with
      | zero => exact q
      | succ i =>
        have := dg_s f (p + 1) i (by omega)
        rw [show p + (i + 1) = p + 1 + i by omega]
        exact this
    · rw [if_neg q] at h
      omega
theorem br_le (hT : TT c n) {p : Nat} (h : c p = 91) : p + 1 ≤ brE c p ∧ brE c p ≤ n := by
  have hl := hT.lt (i := p) (by omega)
  unfold brE
  refine ⟨by omega, ?_⟩
  by_cases q : dgF c 5 (p + 1) = 0
  · omega
  · have := dg_s (c := c) 5 (p + 1) (dgF c 5 (p + 1) - 1) (by omega)
    have := hT.lt (i := p + 1 + (dgF c 5 (p + 1) - 1)) (by omega)
    omega
theorem fig_lt (hT : TT c n) {p : Nat} (h : figB (c p) = true) : p < n ∧ 48 ≤ c p ∧ c p ≤ 57 := by
  obtain ⟨h1, h2⟩ := Bool.and_eq_true_iff.mp h
  have h1 := of_decide_eq_true h1
  have h2 := of_decide_eq_true h2
  exact ⟨hT.lt (by omega), h1, h2⟩
theorem go_br (hT : TT c n) {p : Nat} (h : c p = 91) : (p ≤ (brW c p).1 ∧ (brW c p).1 ≤ n) ∧ ((brW c p).2.1 = true → p < (brW c p).1) := by
  obtain ⟨b1, b2⟩ := br_le hT h
  unfold brW
  by_cases q : c (brE c p) = 93
  · rw [if_pos q]
    have := hT.lt (i := brE c p) (by omega)
    exact ⟨⟨by show p ≤ brE c p + 1; omega, this⟩, fun _ => by show p < brE c p + 1; omega⟩
  · rw [if_neg q]
    exact ⟨⟨by show p ≤ brE c p; omega, b2⟩, fun z => by cases z⟩
theorem go_on (hT : TT c n) : ∀ k, GO n (onW c k)
  | 0 => fun p hp => by
    unfold onW
    by_cases q1 : figB (c p) = true
    · rw [if_pos q1]
      have := (fig_lt hT q1).1
      exact ⟨⟨Nat.le_succ p, this⟩, fun _ => Nat.lt_succ_self p⟩
    · rw [if_neg q1]
      by_cases q2 : c p = 91
      · rw [if_pos q2]
        exact go_br hT q2
      · rw [if_neg q2]
        exact ⟨⟨Nat.le_refl p, hp⟩, fun z => by cases z⟩
  | k + 1 => fun p hp => by
    unfold onW
    by_cases q1 : figB (c p) = true
    · rw [if_pos q1]
      have := (fig_lt hT q1).1
      exact ⟨⟨Nat.le_succ p, this⟩, fun _ => Nat.lt_succ_self p⟩
    · rw [if_neg q1]
      by_cases q2 : c p = 91
      · rw [if_pos q2]
        exact go_br hT q2
      · rw [if_neg q2]
        by_cases q3 : c p = 40
        · rw [if_pos q3]
          have hl := hT.lt (i := p) (by omega)
          obtain ⟨⟨g1, g2⟩, g3⟩ := go_sm hT (go_on hT k) (p + 1) (by omega)
          unfold cloW
          by_cases q4 : (smW c (onW c k) (p + 1)).2.1 = true ∧ c (smW c (onW c k) (p + 1)).1 = 41
          · rw [if_pos q4]
            have := hT.lt (i := (smW c (onW c k) (p + 1)).1) (by omega)
            exact ⟨⟨by show p ≤ (smW c (onW c k) (p + 1)).1 + 1; omega, this⟩, fun _ => by show p < (smW c (onW c k) (p + 1)).1 + 1; omega⟩
          · rw [if_neg q4]
            exact ⟨⟨by show p ≤ (smW c (onW c k) (p + 1)).1; omega, g2⟩, fun z => by cases z⟩
        · rw [if_neg q3]
          exact ⟨⟨Nat.le_refl p, hp⟩, fun z => by cases z⟩
end GOS
/-! the signs of both -/
def svI (x : Nat) : Int32 := if x = 999 then (-1 : Int32) else nI x
theorem sv_n {x : Nat} (h : x ≠ 999) : svI x = nI x := if_neg h
theorem sv_e {x k : Nat} (hx : x < 128 ∨ x = 999) (hk : k < 128) : decide (svI x = nI k) = decide (x = k) := by
  rcases hx with h | h
  · rw [sv_n (by omega), d_eq (by omega) (by omega)]
  · rw [h, show svI 999 = (-1 : Int32) from rfl, decide_eq_false (show ¬ 999 = k by omega)]
    apply decide_eq_false
    intro q
    have := d_e1 (a := k) (by omega)
    rw [decide_eq_true q.symm] at this
    cases this
theorem sv_l {x k : Nat} (hx : x < 128 ∨ x = 999) (h0 : 0 < k) (hk : k < 128) : decide (svI x < nI k) = (decide (x < k) || decide (x = 999)) := by
  rcases hx with h | h
  · rw [sv_n (by omega), d_lt (by omega) (by omega), decide_eq_false (show ¬ x = 999 by omega), Bool.or_false]
  · rw [h, show svI 999 = (-1 : Int32) from rfl, decide_eq_true (rfl : (999 : Nat) = 999), Bool.or_true]
    apply decide_eq_true
    rw [Int32.lt_iff_toInt_lt, nI_toInt (by omega)]
    have : (-1 : Int32).toInt = -1 := by decide
    omega
theorem sv_g {x k : Nat} (hx : x < 128 ∨ x = 999) (hk : k < 128) : decide (nI k < svI x) = (decide (k < x) && decide (x ≠ 999)) := by
  rcases hx with h | h
  · rw [sv_n (by omega), d_lt (by omega) (by omega), decide_eq_true (show x ≠ 999 by omega), Bool.and_true]
  · rw [h, show svI 999 = (-1 : Int32) from rfl, decide_eq_false (show ¬ (999 : Nat) ≠ 999 by omega), Bool.and_false]
    exact d_m1 (by omega)
theorem s_isFig {x : Nat} (hx : x < 128 ∨ x = 999) (μ : Mm) : m_Su_isFigure (svI x) μ = some (some (.int (nI (b2i (figB x)))), μ) := by
  unfold figB
  rw [e_Su_isFigure, sv_l hx (by omega) (by omega), sv_g hx (by omega)]
  rcases hx with h | h
  · rw [decide_eq_false (show ¬ x = 999 by omega), decide_eq_true (show x ≠ 999 by omega), Bool.or_false, Bool.and_true]
    by_cases q : x < 48
    · rw [decide_eq_true q, decide_eq_false (show ¬ 48 ≤ x by omega)]
      exact gd_h isb_0
    · rw [decide_eq_false q, decide_eq_true (show 48 ≤ x by omega)]
      by_cases q2 : 57 < x
      · rw [decide_eq_true q2, decide_eq_false (show ¬ x ≤ 57 by omega)]
        exact gd_h isb_0
      · rw [decide_eq_false q2, decide_eq_true (show x ≤ 57 by omega)]
        exact gd_h isb_1
  · subst h
    exact gd_h isb_0
theorem s_inS {x a b : Nat} (hx : x < 128 ∨ x = 999) (ha : 0 < a) (ha2 : a < 128) (hb : b < 128) (μ : Mm) : m_Mo_in_JJJ (svI x).toInt64 (lN a) (lN b) μ = some (some (.int (nI (b2i (decide (a ≤ x) && decide (x ≤ b))))), μ) := by
  rw [s_Mo_in, l_lt _ _ (by omega), l_gt _ _ (by omega), sv_l hx ha ha2, sv_g hx hb]
  rcases hx with h | h
  · rw [decide_eq_false (show ¬ x = 999 by omega), decide_eq_true (show x ≠ 999 by omega), Bool.or_false, Bool.and_true]
    by_cases q : x < a
    · rw [decide_eq_true q, decide_eq_false (show ¬ a ≤ x by omega)]
      rfl
    · rw [decide_eq_false q, decide_eq_true (show a ≤ x by omega)]
      by_cases q2 : b < x
      · rw [decide_eq_true q2, decide_eq_false (show ¬ x ≤ b by omega)]
        rfl
      · rw [decide_eq_false q2, decide_eq_true (show x ≤ b by omega)]
        rfl
  · subst h
    rw [decide_eq_true (rfl : (999 : Nat) = 999), Bool.or_true, decide_eq_false (show ¬ 999 ≤ b by omega), Bool.and_false]
    rfl
theorem oc_s (t : Nat) : oc (some t) = nI t := rfl
theorem oc_n : oc none = (-1 : Int32) := rfl
theorem ty_s {v : Nat} : ∀ (f k t : Nat), tyF v f k = some t → (k ≤ t ∧ t < k + f) ∧ numN t = v
  | 0, k, t, h => by cases h
  | f + 1, k, t, h => by
    unfold tyF at h
    by_cases q : numN k = v
    · rw [if_pos q] at h
      cases h
      exact ⟨⟨Nat.le_refl k, by omega⟩, q⟩
    · rw [if_neg q] at h
      have := ty_s f (k + 1) t h
      exact ⟨⟨by omega, by omega⟩, this.2⟩
theorem ty_n {v : Nat} : ∀ (f k : Nat), tyF v f k = none → ∀ u, k ≤ u → u < k + f → ¬ numN u = v
  | 0, k, _, u, h1, h2 => by omega
  | f + 1, k, h, u, h1, h2 => by
    unfold tyF at h
    by_cases q : numN k = v
    · rw [if_pos q] at h
      cases h
    · rw [if_neg q] at h
      by_cases e : u = k
      · rw [e]
        exact q
      · exact ty_n f (k + 1) h u (by omega) (by omega)
theorem tyO_lt {v t : Nat} (h : tyO v = some t) : t < 19 := by
  have := ty_s 19 0 t h
  omega
theorem s_find_O {v : Nat} (hv : v < 2 ^ 31) (μ : Mm) : m_Ty_find (nI v) μ = some (some (.int (oc (tyO v))), μ) := by
  cases h : tyO v with
  | some t =>
    obtain ⟨h1, h2⟩ := ty_s 19 0 t h
    rw [← h2]
    exact s_find_n (by omega) μ
  | none =>
    rcases s_Ty_find (nI v) μ with ⟨t, ht, e, -⟩ | ⟨-, h3⟩
    · have := numN_lt t
      exact absurd ((nI_eq hv (by omega)).mp e).symm (ty_n 19 0 h t (by omega) (by omega))
    · exact h3
theorem s_number_O {v : Nat} (hv : v < 2 ^ 31) {μ : Mm} (hT : MT μ) : m_Mo_numberOf (nI v) μ = some (some (.int (oc (tyO v))), μ) := by
  cases h : tyO v with
  | some t =>
    obtain ⟨h1, h2⟩ := ty_s 19 0 t h
    rcases s_Mo_numberOf hT (nI v) with ⟨u, hu, e, h3⟩ | ⟨h3, -⟩
    · have a := numN_lt u
      have b := numN_lt t
      have := numN_inj (show t < 19 by omega) hu (h2.trans ((nI_eq hv (by omega)).mp e))
      rw [this]
      exact h3
    · exact absurd (by rw [h2]) (h3 t (by omega))
  | none =>
    rcases s_Mo_numberOf hT (nI v) with ⟨t, ht, e, -⟩ | ⟨-, h3⟩
    · have := numN_lt t
      exact absurd ((nI_eq hv (by omega)).mp e).symm (ty_n 19 0 h t (by omega) (by omega))
    · exact h3
def TC (c : Nat → Nat) (n : Nat) (μ : Mm) : Prop := TT c n ∧ μ.1 69 1 = nI n ∧ ∀ i, i < n → μ.1 70 i = nI (c i)
def TM (c : Nat → Nat) (n : Nat) (μ : Mm) : Prop := TT c n ∧ μ.1 306 23 = nI n ∧ ∀ i, i < n → μ.1 322 i = nI (c i)
section SGN
variable {c : Nat → Nat} {n : Nat} {μ : Mm}
theorem s_signAt (h : TC c n μ) {i : Nat} (hi : i < 2 ^ 31) : m_Su_signAt (nI i) μ = some (some (.int (svI (c i))), μ) := by
  have h1 := h.1.1
  rw [e_Su_signAt, bf (nI_lt0 hi), h.2.1]
  by_cases q : i < n
  · have := h.1.2.2 i q
    rw [bLt q (by omega), bLt (by omega) (by omega), gi (by omega) (by omega), kl hi, h.2.2 i q, sv_n (by omega)]
  · rw [bLf (by omega) hi, h.1.2.1 i (by omega)]
    rfl
theorem s_here (h : TM c n μ) {p : Nat} (hp : μ.1 306 24 = nI p) (hi : p < 2 ^ 31) : m_Mo_here μ = some (some (.int (svI (c p))), μ) := by
  have h1 := h.1.1
  rw [e_Mo_here, hp, h.2.1]
  by_cases q : p < n
  · have := h.1.2.2 p q
    rw [bLt q (by omega), gi (by omega) (by omega), kl hi, h.2.2 p q, sv_n (by omega)]
  · rw [bLf (by omega) hi, h.1.2.1 p (by omega)]
    rfl
theorem nv_lt : ∀ (f p k v : Nat), v < 10 ^ k → (∀ i, c i < 128 ∨ c i = 999) → nvF c f p v < 10 ^ (k + f)
  | 0, p, k, v, h, _ => h
  | f + 1, p, k, v, h, hc => by
    unfold nvF
    split
    · rw [show k + (f + 1) = k + 1 + f by omega]
      refine nv_lt f (p + 1) (k + 1) _ ?_ hc
      rw [Nat.pow_succ]
      omega
    · exact Nat.lt_of_lt_of_le h (Nat.pow_le_pow_right (by omega) (by omega))
theorem br_num (hT : TT c n) (p : Nat) : nvF c 5 (p + 1) 0 < 2 ^ 31 := by
  have := nv_lt (c := c) 5 (p + 1) 0 0 (by decide) hT.c
  omega
end SGN
