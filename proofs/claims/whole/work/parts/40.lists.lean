/-! the list of subgroups: how the reference makes it; list, listed -/
def kyG (g i : Nat) : Nat := pcF 32 (LG g i) * 4294967296 + LG g i
theorem ky_ok : ∀ g, g < 32 → ∀ i, i < lenG g - 1 → kyG g i < kyG g (i + 1) := by decide +kernel
theorem ky_mono {g : Nat} (hg : g < 32) (i : Nat) : ∀ d, i + d + 1 < lenG g → kyG g i < kyG g (i + d + 1)
  | 0, h => ky_ok g hg i (by omega)
  | d + 1, h => Nat.lt_trans (ky_mono hg i d (by omega)) (ky_ok g hg (i + d + 1) (by omega))
theorem ky_lt {g a b : Nat} (hg : g < 32) (ha : a < lenG g) (hb : b < lenG g) : kyG g a < kyG g b ↔ a < b := by
  constructor
  · intro h
    rcases Nat.lt_trichotomy a b with q | q | q
    · exact q
    · rw [q] at h
      exact absurd h (Nat.lt_irrefl _)
    · have := ky_mono hg b (a - b - 1) (by omega)
      rw [show b + (a - b - 1) + 1 = a by omega] at this
      omega
  · intro h
    have := ky_mono hg a (b - a - 1) (by omega)
    rw [show a + (b - a - 1) + 1 = b by omega] at this
    exact this
theorem lg_inj {g a b : Nat} (hg : g < 32) (ha : a < lenG g) (hb : b < lenG g) (h : LG g a = LG g b) : a = b := by
  have e : kyG g a = kyG g b := by unfold kyG; rw [h]
  have h1 := ky_lt hg ha hb
  have h2 := ky_lt hg hb ha
  omega
theorem s_isAhead {g a b : Nat} (hg : g < 32) (ha : a < lenG g) (hb : b < lenG g) (μ : Mm) : m_Mo_isAhead (lN (LG g a)) (lN (LG g b)) μ = some (some (.int (nI (b2i (decide (a < b))))), μ) := by
  have h1 := lg_lt hg ha
  have h2 := lg_lt hg hb
  have p1 := pcF_le 32 (LG g a)
  have p2 := pcF_le 32 (LG g b)
  have hk := ky_lt hg ha hb
  unfold kyG at hk
  rw [e_Mo_isAhead, s_Mo_bits (by omega), cI_s, s_Mo_bits (by omega), cI_s]
  by_cases q : pcF 32 (LG g a) < pcF 32 (LG g b)
  · rw [bLt q (by omega), gd_h isb_1, decide_eq_true (hk.mp (by omega))]
    rfl
  · rw [bLf (by omega) (by omega), s_Mo_bits (by omega), cI_s, s_Mo_bits (by omega), cI_s]
    by_cases q2 : pcF 32 (LG g a) = pcF 32 (LG g b)
    · rw [bEt q2, lgc_lt, lN_ltb (by omega) (by omega)]
      by_cases q3 : LG g a < LG g b
      · rw [bt (decide_eq_true q3), gd_h isb_1, decide_eq_true (hk.mp (by omega))]
        rfl
      · rw [bf (decide_eq_false q3), gd_h isb_0, decide_eq_false (fun z => by have := hk.mpr z; omega)]
        rfl
    · rw [bEf q2 (by omega) (by omega), gd_h isb_0, decide_eq_false (fun z => by have := hk.mpr z; omega)]
      rfl
def meF (k : Nat) : List Nat → Bool
  | [] => false
  | a :: l => Nat.beq a k || meF k l
def liE (g i : Nat) : Nat → Nat → List Nat → List Nat
  | 0, _, l => l
  | f + 1, e, l => liE g i f (e + 1) (if meF (jnG g (nt l i) e) l then l else l ++ [jnG g (nt l i) e])
def liI (g : Nat) : Nat → Nat → List Nat → List Nat
  | 0, _, l => l
  | f + 1, i, l => if i < l.length then liI g f (i + 1) (liE g i (nG g) 0 l) else l
/-- where one goes, from the end on -/
def spP (v : Nat) (l : List Nat) : Nat → Nat
  | 0 => 0
  | k + 1 => if v < nt l k then spP v l k else k + 1
def soF : Nat → Nat → List Nat → List Nat
  | 0, _, l => l
  | f + 1, i, l => soF f (i + 1) (insL (spP (nt l i) l i) (nt l i) (delL i l))
/-! the same, with the members as bits -/
def liE2 (g K : Nat) : Nat → Nat → List Nat → Nat → List Nat × Nat
  | 0, _, l, M => (l, M)
  | f + 1, e, l, M => if M.testBit (jnG g K e) then liE2 g K f (e + 1) l M else liE2 g K f (e + 1) (l ++ [jnG g K e]) (M ||| (1 <<< jnG g K e))
def liI2 (g : Nat) : Nat → Nat → List Nat → Nat → List Nat
  | 0, _, l, _ => l
  | f + 1, i, l, M => if i < l.length then liI2 g f (i + 1) (liE2 g (nt l i) (nG g) 0 l M).1 (liE2 g (nt l i) (nG g) 0 l M).2 else l
theorem me_mem {k : Nat} : ∀ l : List Nat, meF k l = true ↔ k ∈ l
  | [] => by
    constructor
    · intro h
      cases h
    · intro h
      cases h
  | a :: l => by
    show (Nat.beq a k || meF k l) = true ↔ k ∈ a :: l
    rw [Bool.or_eq_true, me_mem l, List.mem_cons]
    constructor
    · rintro (h | h)
      · exact Or.inl (Nat.eq_of_beq_eq_true h).symm
      · exact Or.inr h
    · rintro (h | h)
      · exact Or.inl (by rw [h]; exact Nat.beq_refl a)
      · exact Or.inr h
theorem me_bit {k : Nat} (l : List Nat) : meF k l = (orL l).testBit k := Bool.eq_iff_iff.mpr ((me_mem l).trans (tb_or l).symm)
theorem or_app : ∀ (l : List Nat) (x : Nat), orL (l ++ [x]) = orL l ||| (1 <<< x)
  | [], x => by
    show (1 <<< x) ||| 0 = 0 ||| (1 <<< x)
    rw [Nat.or_zero, Nat.zero_or]
  | a :: l, x => by
    show (1 <<< a) ||| orL (l ++ [x]) = ((1 <<< a) ||| orL l) ||| (1 <<< x)
    rw [or_app l x, Nat.or_assoc]
theorem liE_2 (g i : Nat) : ∀ (f e : Nat) (l : List Nat), i < l.length → liE2 g (nt l i) f e l (orL l) = (liE g i f e l, orL (liE g i f e l))
  | 0, _, _, _ => rfl
  | f + 1, e, l, h => by
    unfold liE2 liE
    rw [me_bit]
    by_cases q : (orL l).testBit (jnG g (nt l i) e) = true
    · rw [if_pos q, if_pos q, liE_2 g i f (e + 1) l h]
    · have h2 : nt (l ++ [jnG g (nt l i) e]) i = nt l i := by rw [nt_app _ _ _ (by omega), if_pos h]
      have := liE_2 g i f (e + 1) (l ++ [jnG g (nt l i) e]) (by rw [List.length_append]; omega)
      rw [h2, or_app] at this
      rw [if_neg q, if_neg q, this]
theorem liI_2 (g : Nat) : ∀ (f i : Nat) (l : List Nat), liI2 g f i l (orL l) = liI g f i l
  | 0, _, _ => rfl
  | f + 1, i, l => by
    unfold liI2 liI
    by_cases q : i < l.length
    · rw [if_pos q, if_pos q, liE_2 g i (nG g) 0 l q]
      exact liI_2 g f (i + 1) _
    · rw [if_neg q, if_neg q]
theorem li_o1 : ∀ g, g < 17 → (liI2 g 400 0 [0] 1).length = lenG g := by decide +kernel
theorem li_o2 : (liI2 17 400 0 [0] 1).length = lenG 17 := by decide +kernel
theorem li_o3 : (liI2 18 400 0 [0] 1).length = lenG 18 := by decide +kernel
theorem li_o4 : ∀ h, h < 13 → (liI2 (h + 19) 400 0 [0] 1).length = lenG (h + 19) := by decide +kernel
theorem li_ok0 (g : Nat) (hg : g < 32) : (liI2 g 400 0 [0] 1).length = lenG g := by
  by_cases a : g < 17
  · exact li_o1 g a
  · by_cases b : g = 17
    · subst b
      exact li_o2
    · by_cases c : g = 18
      · subst c
        exact li_o3
      · obtain ⟨h, rfl⟩ : ∃ h, g = h + 19 := ⟨g - 19, by omega⟩
        exact li_o4 h (by omega)
theorem li_ok (g : Nat) (hg : g < 32) : (liI g 400 0 [0]).length = lenG g := by
  rw [← liI_2]
  exact li_ok0 g hg
/-- none twice -/
def DD (l : List Nat) : Prop := ∀ a b, a < l.length → b < l.length → nt l a = nt l b → a = b
theorem me_nt {k : Nat} : ∀ (l : List Nat) (j : Nat), j < l.length → nt l j = k → meF k l = true
  | [], j, h, _ => absurd h (Nat.not_lt_zero j)
  | a :: l, 0, _, e => by
    show (Nat.beq a k || meF k l) = true
    rw [show a = k from e, Nat.beq_refl]
    rfl
  | a :: l, j + 1, h, e => by
    show (Nat.beq a k || meF k l) = true
    rw [me_nt l j (Nat.lt_of_succ_lt_succ h) e, Bool.or_true]
theorem DD.app {l : List Nat} {k : Nat} (h : DD l) (hk : ¬ meF k l = true) : DD (l ++ [k]) := fun a b ha hb e => by
  rw [List.length_append] at ha hb
  have ha2 : a < l.length + 1 := ha
  have hb2 : b < l.length + 1 := hb
  rw [nt_app _ _ _ (by omega), nt_app _ _ _ (by omega)] at e
  by_cases q1 : a < l.length
  · rw [if_pos q1] at e
    by_cases q2 : b < l.length
    · rw [if_pos q2] at e
      exact h a b q1 q2 e
    · rw [if_neg q2] at e
      exact absurd (me_nt l a q1 e) hk
  · rw [if_neg q1] at e
    by_cases q2 : b < l.length
    · rw [if_pos q2] at e
      exact absurd (me_nt l b q2 e.symm) hk
    · omega
theorem liE_D (g i : Nat) : ∀ (f e : Nat) (l : List Nat), DD l → DD (liE g i f e l)
  | 0, _, _, h => h
  | f + 1, e, l, h => by
    unfold liE
    split
    · exact liE_D g i f (e + 1) l h
    · rename_i q
      exact liE_D g i f (e + 1) _ (h.app q)
theorem liI_D (g : Nat) : ∀ (f i : Nat) (l : List Nat), DD l → DD (liI g f i l)
  | 0, _, _, h => h
  | f + 1, i, l, h => by
    unfold liI
    split
    · exact liI_D g f (i + 1) _ (liE_D g i (nG g) 0 l h)
    · exact h
/-- the order: the first i of them go up -/
def UP (l : List Nat) (i : Nat) : Prop := ∀ a b, a < b → b < i → nt l a < nt l b
def sig (p i j : Nat) : Nat := if j < p then j else if j = p then i else if j ≤ i then j - 1 else j
theorem sig_inj {p i a b : Nat} (h : p ≤ i) (e : sig p i a = sig p i b) : a = b := by
  unfold sig at e
  repeat' split at e
  all_goals omega
theorem sig_lt {p i j n : Nat} (h : p ≤ i) (hi : i < n) (hj : j < n) : sig p i j < n := by
  unfold sig
  split
  · omega
  · split
    · omega
    · split <;> omega
theorem nt_mv {l : List Nat} {p i : Nat} (h : p ≤ i) (hi : i < l.length) (j : Nat) : nt (insL p (nt l i) (delL i l)) j = nt l (sig p i j) := by
  have hd := del_len i l hi
  rw [nt_ins _ _ _ _ (by omega)]
  unfold sig
  by_cases c1 : j < p
  · rw [if_pos c1, if_pos c1, nt_del _ _ _ hi, if_pos (by omega)]
  · rw [if_neg c1, if_neg c1]
    by_cases c2 : j = p
    · rw [if_pos c2, if_pos c2]
    · rw [if_neg c2, if_neg c2, nt_del _ _ _ hi]
      by_cases c3 : j ≤ i
      · rw [if_pos c3, if_pos (by omega)]
      · rw [if_neg c3, if_neg (by omega), show j - 1 + 1 = j by omega]
theorem sp_s (v : Nat) (l : List Nat) : ∀ k, (spP v l k ≤ k ∧ (∀ j, spP v l k ≤ j → j < k → v < nt l j)) ∧ (spP v l k = 0 ∨ ¬ v < nt l (spP v l k - 1))
  | 0 => ⟨⟨Nat.le_refl 0, fun j _ h => absurd h (Nat.not_lt_zero j)⟩, Or.inl rfl⟩
  | k + 1 => by
    unfold spP
    by_cases q : v < nt l k
    · rw [if_pos q]
      obtain ⟨⟨h1, h2⟩, h3⟩ := sp_s v l k
      refine ⟨⟨by omega, fun j a b => ?_⟩, h3⟩
      by_cases e : j = k
      · rw [e]; exact q
      · exact h2 j a (by omega)
    · rw [if_neg q]
      exact ⟨⟨Nat.le_refl _, fun j a b => by omega⟩, Or.inr q⟩
theorem mv_ok {l : List Nat} {i : Nat} (hi : i < l.length) (hD : DD l) (hU : UP l i) : DD (insL (spP (nt l i) l i) (nt l i) (delL i l)) ∧ UP (insL (spP (nt l i) l i) (nt l i) (delL i l)) (i + 1) := by
  obtain ⟨⟨p1, p2⟩, p3⟩ := sp_s (nt l i) l i
  have hd := del_len i l hi
  have hlen : (insL (spP (nt l i) l i) (nt l i) (delL i l)).length = l.length := by rw [ins_len, hd]
  generalize spP (nt l i) l i = p at *
  constructor
  · intro a b ha hb e
    rw [hlen] at ha hb
    rw [nt_mv p1 hi, nt_mv p1 hi] at e
    exact sig_inj p1 (hD _ _ (sig_lt p1 hi ha) (sig_lt p1 hi hb) e)
  · intro a b h1 h2
    rw [nt_mv p1 hi, nt_mv p1 hi]
    unfold sig
    have low : ∀ x, x < p → nt l x < nt l i := fun x hx => by
      have h0 : ¬ nt l i < nt l (p - 1) := p3.resolve_left (by omega)
      have ne : nt l (p - 1) ≠ nt l i := fun z => by
        have := hD (p - 1) i (by omega) hi z
        omega
      by_cases e : x = p - 1
      · rw [e]; omega
      · have := hU x (p - 1) (by omega) (by omega)
        omega
    by_cases b1 : b < p
    · rw [if_pos b1, if_pos (by omega)]
      exact hU a b h1 (by omega)
    · rw [if_neg b1]
      by_cases b2 : b = p
      · rw [if_pos b2, if_pos (by omega)]
        exact low a (by omega)
      · rw [if_neg b2, if_pos (show b ≤ i by omega)]
        by_cases a1 : a < p
        · rw [if_pos a1]
          exact hU a (b - 1) (by omega) (by omega)
        · rw [if_neg a1]
          by_cases a2 : a = p
          · rw [if_pos a2]
            exact p2 (b - 1) (by omega) (by omega)
          · rw [if_neg a2, if_pos (show a ≤ i by omega)]
            exact hU (a - 1) (b - 1) (by omega) (by omega)
theorem so_ok : ∀ (f i : Nat) (l : List Nat), i + f = l.length → DD l → UP l i → (soF f i l).length = l.length ∧ UP (soF f i l) l.length
  | 0, i, l, e, hD, hU => by
    obtain rfl : i = l.length := by omega
    exact ⟨rfl, hU⟩
  | f + 1, i, l, e, hD, hU => by
    have hi : i < l.length := by omega
    obtain ⟨h1, h2⟩ := mv_ok hi hD hU
    have hd := del_len i l hi
    have hlen : (insL (spP (nt l i) l i) (nt l i) (delL i l)).length = l.length := by rw [ins_len, hd]
    have := so_ok f (i + 1) _ (by rw [hlen]; omega) h1 h2
    rw [hlen] at this
    exact this
/-- numbers below n that go up, n of them, are 0, 1, 2 .. -/
theorem up_id {F : Nat → Nat} {n : Nat} (h : ∀ a b, a < b → b < n → F a < F b) (hn : ∀ a, a < n → F a < n) : ∀ i, i < n → F i = i := by
  have lo : ∀ i, i < n → i ≤ F i := fun i => by
    induction i with
    | zero => exact fun _ => Nat.zero_le _
    | succ i ih =>
      intro hi
      have h1 := ih (by omega)
      have h2 := h i (i + 1) (by omega) hi
      omega
  have hi : ∀ d i, i + d + 1 = n → F i ≤ i := fun d => by
    induction d with
    | zero =>
      intro i e
      have := hn i (by omega)
      omega
    | succ d ih =>
      intro i e
      have h1 := ih (i + 1) (by omega)
      have h2 := h i (i + 1) (by omega) (by omega)
      omega
  intro i hi1
  have h1 := lo i hi1
  have h2 := hi (n - i - 1) i (by omega)
  omega
theorem sp_le (v : Nat) (l : List Nat) : ∀ k, spP v l k ≤ k
  | 0 => Nat.le_refl 0
  | k + 1 => by
    unfold spP
    split
    · exact Nat.le_trans (sp_le v l k) (by omega)
    · exact Nat.le_refl _
theorem liE_len (g i : Nat) : ∀ (f e : Nat) (l : List Nat), l.length ≤ (liE g i f e l).length
  | 0, _, _ => Nat.le_refl _
  | f + 1, e, l => by
    unfold liE
    split
    · exact liE_len g i f (e + 1) l
    · have := liE_len g i f (e + 1) (l ++ [jnG g (nt l i) e])
      rw [List.length_append] at this
      omega
theorem liI_len (g : Nat) : ∀ (f i : Nat) (l : List Nat), l.length ≤ (liI g f i l).length
  | 0, _, _ => Nat.le_refl _
  | f + 1, i, l => by
    unfold liI
    split
    · exact Nat.le_trans (liE_len g i (nG g) 0 l) (liI_len g f (i + 1) _)
    · exact Nat.le_refl _
abbrev fLm (k : Nat) : Prop := k = 306 ∨ k = 321
def Fm (μ μ' : Mm) : Prop := Fr fLm μ μ' ∧ ∀ j, j ≠ 21 → μ'.1 306 j = μ.1 306 j
theorem Fm.rf {μ : Mm} : Fm μ μ := ⟨Fr.rf, fun _ _ => rfl⟩
theorem Fm.tr {a b c : Mm} (h : Fm a b) (k : Fm b c) : Fm a c := ⟨h.1.t2 k.1, fun j hj => (k.2 j hj).trans (h.2 j hj)⟩
theorem Fm.L {μ : Mm} {j : Nat} {v : Int64} : Fm μ (sL μ 321 j v) := ⟨Fr.sL (Or.inr rfl), fun _ _ => rfl⟩
theorem Fm.I {μ : Mm} {v : Int32} : Fm μ (sI μ 306 21 v) := ⟨Fr.sI (Or.inl rfl), fun j hj => by rw [sI_s, up_o hj]⟩
section RLS
variable {g : Nat} {μ : Mm}
theorem GM.fm {μ' : Mm} (h : GM g μ) (F : Fm μ μ') : GM g μ' := by
  unfold GM
  rw [F.2 14 (by omega), F.2 15 (by omega), F.2 16 (by omega), F.2 18 (by omega), (F.1 319 (by omega)).1]
  exact h
def MR (g : Nat) (l : List Nat) (μ : Mm) : Prop := μ.1 306 21 = nI l.length ∧ ∀ i, i < l.length → nt l i < lenG g ∧ μ.2 321 i = lN (LG g (nt l i))
theorem s_isL_2 (hg : g < 32) {l : List Nat} (hl : l.length < 400) (h : MR g l μ) {k : Nat} (hk : k < lenG g) : ∀ (f i : Nat), i + f = l.length → m_Mo_isListed_2 (lN (LG g k)) (nI i) μ = some (some (.int (nI (b2i (meF k (l.drop i))))), μ)
  | 0, i, e => by
    obtain rfl : i = l.length := by omega
    rw [e_Mo_isListed_2, h.1, bLf (by omega) (by omega), gd_h isb_0, List.drop_length]
    rfl
  | f + 1, i, e => by
    obtain ⟨r1, r2⟩ := h.2 i (by omega)
    have h1 := lg_lt hg hk
    have h2 := lg_lt hg r1
    rw [e_Mo_isListed_2, h.1, bLt (by omega) (by omega), gi (by omega) (by omega), kl (by omega), r2, lgc_eq, lN_eqb (by omega) (by omega), drop_nt l i (by omega), nI_p1]
    show _ = some (some (Value.int (nI (b2i (Nat.beq (nt l i) k || meF k (l.drop (i + 1)))))), μ)
    by_cases q : LG g (nt l i) = LG g k
    · have := lg_inj hg r1 hk q
      rw [bt (decide_eq_true q), gd_h isb_1, this, Nat.beq_refl]
      rfl
    · have hn : Nat.beq (nt l i) k = false := by
        cases hb : Nat.beq (nt l i) k
        · rfl
        · exact absurd (by rw [Nat.eq_of_beq_eq_true hb]) q
      rw [bf (decide_eq_false q), s_isL_2 hg hl h hk f (i + 1) (by omega), hn, Bool.false_or]
theorem MR.app {l : List Nat} {k : Nat} (h : MR g l μ) (hk : k < lenG g) : MR g (l ++ [k]) (sI (sL μ 321 l.length (lN (LG g k))) 306 21 (nI (l.length + 1))) := by
  refine ⟨by rw [sI_s, up_s, List.length_append]; rfl, fun i hi => ?_⟩
  rw [List.length_append] at hi
  have hi2 : i < l.length + 1 := hi
  show nt (l ++ [k]) i < lenG g ∧ (sL μ 321 l.length (lN (LG g k))).2 321 i = _
  rw [nt_app l k i (by omega), sL_s]
  by_cases q : i < l.length
  · rw [if_pos q, uL_o (by omega)]
    exact h.2 i q
  · rw [if_neg q, show i = l.length by omega, uL_s]
    exact ⟨hk, rfl⟩
theorem s_li_32 (hg : g < 32) {i : Nat} : ∀ (f e : Nat) (l : List Nat) (μ : Mm), e + f = nG g → i < l.length → (liE g i f e l).length < 400 → GM g μ → MR g l μ → ∃ μ', m_Mo_lists_32 (nI i) (nI e) μ = m_Mo_lists_22 (nI (i + 1)) μ' ∧ Fm μ μ' ∧ MR g (liE g i f e l) μ'
  | 0, e, l, μ, he, hi, hf, hM, hR => by
    have n2 := (g_1 g hg).2.2.1
    obtain rfl : e = nG g := by omega
    refine ⟨μ, ?_, Fm.rf, hR⟩
    rw [e_Mo_lists_32, hM.1.2.2.1, bLf (by omega) (by omega), nI_p1]
  | f + 1, e, l, μ, he, hi, hf, hM, hR => by
    have n2 := (g_1 g hg).2.2.1
    have hl : l.length < 400 := Nat.lt_of_le_of_lt (liE_len g i (f + 1) e l) hf
    obtain ⟨r1, r2⟩ := hR.2 i hi
    obtain ⟨w1, w2⟩ := s_widens hg hM r1 (show e < nG g by omega)
    have hc : m_Mo_lists_32 (nI i) (nI e) μ = bif !(meF (jnG g (nt l i) e) l) then m_Mo_lists_32 (nI i) (nI (e + 1)) (sI (sL μ 321 l.length (lN (LG g (jnG g (nt l i) e)))) 306 21 (nI (l.length + 1))) else m_Mo_lists_32 (nI i) (nI (e + 1)) μ := by
      have hq := s_isL_2 hg hl hR w2 l.length 0 (by omega)
      rw [List.drop_zero] at hq
      rw [e_Mo_lists_32, hM.1.2.2.1, bLt (by omega) (by omega), gi (by omega) (by omega), kl (by omega), r2, w1, cJ_s, e_Mo_isListed, hq, cI_s, b2i_n, hR.1, gi (by omega) (by omega), kl (by omega), sL_1, hR.1, nI_p1, nI_p1]
    unfold liE at hf ⊢
    rw [hc]
    by_cases q : meF (jnG g (nt l i) e) l = true
    · rw [if_pos q] at hf ⊢
      rw [q]
      exact s_li_32 hg f (e + 1) l μ (by omega) hi hf hM hR
    · rw [if_neg q] at hf ⊢
      rw [Bool.not_eq_true] at q
      rw [q]
      have F : Fm μ (sI (sL μ 321 l.length (lN (LG g (jnG g (nt l i) e)))) 306 21 (nI (l.length + 1))) := Fm.L.tr Fm.I
      obtain ⟨μ', k1, k2, k3⟩ := s_li_32 hg f (e + 1) (l ++ [jnG g (nt l i) e]) _ (by omega) (by rw [List.length_append]; omega) hf (hM.fm F) (hR.app w2)
      exact ⟨μ', k1, F.tr k2, k3⟩
theorem s_li_22 (hg : g < 32) : ∀ (f i : Nat) (l : List Nat) (μ : Mm), i + f = 400 → (liI g f i l).length < 400 → GM g μ → MR g l μ → ∃ μ', m_Mo_lists_22 (nI i) μ = m_Mo_lists_97 (nI 1) μ' ∧ Fm μ μ' ∧ MR g (liI g f i l) μ'
  | 0, i, l, μ, e, hf, hM, hR => by
    refine ⟨μ, ?_, Fm.rf, hR⟩
    have hf2 : l.length < 400 := hf
    rw [e_Mo_lists_22, hR.1, bLf (by omega) (by omega)]
  | f + 1, i, l, μ, e, hf, hM, hR => by
    have hl : l.length < 400 := Nat.lt_of_le_of_lt (liI_len g (f + 1) i l) hf
    unfold liI at hf ⊢
    by_cases q : i < l.length
    · rw [if_pos q] at hf ⊢
      have h2 : (liE g i (nG g) 0 l).length < 400 := Nat.lt_of_le_of_lt (liI_len g f (i + 1) _) hf
      obtain ⟨μ1, k1, k2, k3⟩ := s_li_32 hg (nG g) 0 l μ (by omega) q h2 hM hR
      obtain ⟨μ2, l1, l2, l3⟩ := s_li_22 hg f (i + 1) _ μ1 (by omega) hf (hM.fm k2) k3
      refine ⟨μ2, ?_, k2.tr l2, l3⟩
      rw [e_Mo_lists_22, hR.1, bLt q (by omega), k1, l1]
    · rw [if_neg q] at hf ⊢
      refine ⟨μ, ?_, Fm.rf, hR⟩
      rw [e_Mo_lists_22, hR.1, bLf (by omega) (by omega)]
theorem s_so_115 (hg : g < 32) {l : List Nat} {i v : Nat} (hi : i < 400) (hv : v < lenG g) (hl : ∀ j, j < i → nt l j < lenG g) : ∀ (k : Nat) (μ : Mm), k ≤ i → (∀ j, j < k → μ.2 321 j = lN (LG g (nt l j))) → ∃ μ', m_Mo_lists_115 (nI i) (lN (LG g v)) (nI k) μ = m_Mo_lists_97 (nI (i + 1)) μ' ∧ Fm μ μ' ∧ μ'.1 306 = μ.1 306 ∧ μ'.2 321 (spP v l k) = lN (LG g v) ∧ (∀ j, j < spP v l k → μ'.2 321 j = lN (LG g (nt l j))) ∧ (∀ j, spP v l k < j → j ≤ k → μ'.2 321 j = lN (LG g (nt l (j - 1)))) ∧ ∀ j, k < j → μ'.2 321 j = μ.2 321 j
  | 0, μ, hk, hm => by
    refine ⟨sL μ 321 0 (lN (LG g v)), ?_, Fm.L, rfl, ?_, fun j hj => absurd hj (Nat.not_lt_zero j), fun j a b => ?_, fun j hj => ?_⟩
    · rw [e_Mo_lists_115, bLf (by omega) (by omega), gi (by omega) (by omega), kl (by omega), nI_p1]
    · rw [sL_s]
      exact uL_s
    · exact absurd a (by omega)
    · rw [sL_s, uL_o (by omega)]
  | k + 1, μ, hk, hm => by
    have hr := hl k (by omega)
    unfold spP
    have hc : m_Mo_lists_115 (nI i) (lN (LG g v)) (nI (k + 1)) μ = bif !decide (v < nt l k) then m_Mo_lists_97 (nI (i + 1)) (sL μ 321 (k + 1) (lN (LG g v))) else m_Mo_lists_115 (nI i) (lN (LG g v)) (nI k) (sL μ 321 (k + 1) (lN (LG g (nt l k)))) := by
      rw [e_Mo_lists_115, bLt (by omega) (by omega), nI_sub (by omega), Nat.add_sub_cancel, gi (by omega) (by omega), kl (by omega), hm k (by omega), s_isAhead hg hv hr, cI_s, b2i_n, gi (by omega) (by omega), gi (by omega) (by omega), gi (by omega) (by omega), kl (by omega), nI_m1, nI_p1, hm k (by omega)]
    rw [hc]
    by_cases q : v < nt l k
    · rw [if_pos q, decide_eq_true q]
      obtain ⟨μ', k1, k2, k3, k4, k5, k6, k7⟩ := s_so_115 hg hi hv hl k (sL μ 321 (k + 1) (lN (LG g (nt l k)))) (by omega) (fun j hj => by
        rw [sL_s, uL_o (by omega)]
        exact hm j (by omega))
      refine ⟨μ', k1, Fm.L.tr k2, k3, k4, k5, fun j a b => ?_, fun j hj => ?_⟩
      · by_cases q2 : j = k + 1
        · rw [k7 j (by omega), sL_s, q2, uL_s]
          rfl
        · exact k6 j a (by omega)
      · rw [k7 j (by omega), sL_s, uL_o (by omega)]
    · rw [if_neg q, decide_eq_false q]
      refine ⟨sL μ 321 (k + 1) (lN (LG g v)), rfl, Fm.L, rfl, ?_, fun j hj => ?_, fun j a b => absurd a (by omega), fun j hj => ?_⟩
      · rw [sL_s, uL_s]
      · rw [sL_s, uL_o (by omega)]
        exact hm j hj
      · rw [sL_s, uL_o (by omega)]
theorem s_so_97 (hg : g < 32) : ∀ (f i : Nat) (l : List Nat) (μ : Mm), i + f = l.length → l.length < 400 → MR g l μ → ∃ μ', m_Mo_lists_97 (nI i) μ = some (none, μ') ∧ Fm μ μ' ∧ MR g (soF f i l) μ'
  | 0, i, l, μ, e, hl, hR => by
    refine ⟨μ, ?_, Fm.rf, hR⟩
    rw [e_Mo_lists_97, hR.1, bLf (by omega) (by omega)]
  | f + 1, i, l, μ, e, hl, hR => by
    obtain ⟨r1, r2⟩ := hR.2 i (by omega)
    obtain ⟨μ1, k1, k2, k3, k4, k5, k6, k7⟩ := s_so_115 hg (l := l) (i := i) (by omega) r1 (fun j hj => (hR.2 j (by omega)).1) i μ (Nat.le_refl _) (fun j hj => (hR.2 j (by omega)).2)
    have hp := sp_le (nt l i) l i
    have hd := del_len i l (by omega)
    have hlen : (insL (spP (nt l i) l i) (nt l i) (delL i l)).length = l.length := by rw [ins_len, hd]
    obtain ⟨μ2, l1, l2, l3⟩ := s_so_97 hg f (i + 1) (insL (spP (nt l i) l i) (nt l i) (delL i l)) μ1 (by omega) (by omega) ⟨by rw [k3, hR.1, hlen], fun j hj => by
      rw [hlen] at hj
      rw [nt_ins _ _ _ _ (by omega)]
      by_cases c1 : j < spP (nt l i) l i
      · rw [if_pos c1, k5 j c1, nt_del _ _ _ (by omega), if_pos (by omega)]
        exact ⟨(hR.2 j (by omega)).1, rfl⟩
      · rw [if_neg c1]
        by_cases c2 : j = spP (nt l i) l i
        · rw [if_pos c2, c2, k4]
          exact ⟨r1, rfl⟩
        · rw [if_neg c2, nt_del _ _ _ (by omega)]
          by_cases c3 : j ≤ i
          · rw [if_pos (by omega), k6 j (by omega) c3]
            exact ⟨(hR.2 (j - 1) (by omega)).1, rfl⟩
          · rw [if_neg (by omega), k7 j (by omega), show j - 1 + 1 = j by omega]
            exact hR.2 j (by omega)⟩
    refine ⟨μ2, ?_, k2.tr l2, l3⟩
    rw [e_Mo_lists_97, hR.1, bLt (by omega) (by omega), gi (by omega) (by omega), kl (by omega), r2, k1, l1]
theorem s_lists (hg : g < 32) (hM : GM g μ) (hL : LM g μ) : ∃ μ', m_Mo_lists μ = some (none, μ') ∧ Fm μ μ' ∧ GM g μ' ∧ LMd g μ' := by
  obtain ⟨l1, l2⟩ := len_ok g hg
  rcases hL with h | h
  · have o1 := li_ok g hg
    have F0 : Fm μ (sI (sL μ 321 0 (lN 1)) 306 21 (nI 1)) := Fm.L.tr Fm.I
    have R0 : MR g [0] (sI (sL μ 321 0 (lN 1)) 306 21 (nI 1)) := by
      refine ⟨by rw [sI_s, up_s]; rfl, fun i hi => ?_⟩
      obtain rfl : i = 0 := Nat.lt_one_iff.mp hi
      refine ⟨l1, ?_⟩
      show (sL μ 321 0 (lN 1)).2 321 0 = lN (LG g 0)
      rw [sL_s, uL_s, (l_ok g hg).1]
    obtain ⟨μ1, k1, k2, k3⟩ := s_li_22 hg 400 0 [0] _ (by omega) (by omega) (hM.fm F0) R0
    obtain ⟨μ2, m1, m2, m3⟩ := s_so_97 hg (lenG g - 1) 1 _ μ1 (by omega) (by omega) k3
    have hD : DD (liI g 400 0 [0]) := liI_D g 400 0 [0] (fun a b ha hb _ => by
      have ha2 : a < 1 := ha
      have hb2 : b < 1 := hb
      omega)
    obtain ⟨u1, u2⟩ := so_ok (lenG g - 1) 1 (liI g 400 0 [0]) (by omega) hD (fun a b h1 h2 => by omega)
    rw [o1] at u1 u2
    have hid := up_id u2 (fun a ha => (m3.2 a (by omega)).1)
    refine ⟨μ2, ?_, (F0.tr k2).tr m2, ((hM.fm F0).fm k2).fm m2, ?_, fun i hi => ?_⟩
    · rw [e_Mo_lists, h, bLf (by omega) (by omega), gi (by omega) (by omega), kl (by omega), k1, m1]
    · rw [m3.1, u1]
    · rw [(m3.2 i (by omega)).2, hid i hi]
  · refine ⟨μ, ?_, Fm.rf, hM, h⟩
    rw [e_Mo_lists, h.1, bLt (by omega) (by omega)]
/-- both make their lists -/
theorem both_lists (hG : GI g μ) : ∃ μ1, m_Gr_learn μ = some (none, μ1) ∧ Fr fLs μ μ1 ∧ GC g μ1 ∧ μ1.1 61 8 = nI 1 ∧ LCd g μ1 ∧ ∃ μ2, m_Mo_lists μ1 = some (none, μ2) ∧ LMd g μ2 ∧ GI g μ2 ∧ Fr fG μ μ2 ∧ ∀ i, (i < 14 ∨ 21 < i) → μ2.1 306 i = μ.1 306 i := by
  obtain ⟨μ1, k1, k2, k3, k4, k5⟩ := s_learn hG.1 hG.2.1 hG.2.2.2.1
  obtain ⟨μ2, l1, l2, l3, l4⟩ := s_lists hG.1 (hG.2.2.1.fr k2 (by omega) (by omega)) (hG.2.2.2.2.fr k2 (by omega) (by omega))
  refine ⟨μ1, k1, k2, k3, k4, k5, μ2, l1, l4, ⟨hG.1, k3.fr l2.1 (fun k a b => by omega), l3, ?_, Or.inr l4⟩, (k2.w (fun k hk => by omega)).t2 (l2.1.w (fun k hk => by omega)), fun i hi => ?_⟩
  · exact LC.fr (Or.inr ⟨k4, k5⟩) l2.1 (by omega) (fun k a b => by omega)
  · rw [l2.2 i (by omega), (k2 306 (by omega)).1]
/-- a call of the group: the same long -/
def Bgl (μ : Mm) (f g : Mm → Option Rs) : Prop := ∃ (r : Int64) (μ1 μ2 : Mm) (x : Nat), f μ = some (some (.long r), μ1) ∧ g μ1 = some (some (.long r), μ2) ∧ GI x μ2 ∧ Fr fG μ μ2 ∧ ∀ i, (i < 14 ∨ 21 < i) → μ2.1 306 i = μ.1 306 i
/-- promise 18: list -/
theorem both_list (hG : GI g μ) (x : Int32) : Bgl μ (m_TI_list x) (m_Mo_list x) := by
  obtain ⟨l1, l2⟩ := len_ok g hG.1
  obtain ⟨μ1, k1, k2, k3, k4, k5, μ2, m1, m2, m3, m4, m5⟩ := both_lists hG
  have c0 : m_TI_list x μ = bif decide (x = (-1 : Int32)) then some (some (.long (nI (lenG g)).toInt64), μ1) else (bif decide (x < nI 0) then (some (some (.long (-9223372036854775808 : Int64)), μ1)) else (bif decide (x < nI (lenG g)) then (cJ (m_Gr_subgroupAt x μ1) fun v5 μ4 => some (some (.long v5), μ4)) else (some (some (.long (-9223372036854775808 : Int64)), μ1)))) := by
    rw [e_TI_list, k1, cV_s, e_Gr_subgroupCount, cI_s, k5.1]
  have r0 : m_Mo_list x μ1 = bif decide (x = (-1 : Int32)) then some (some (.long (nI (lenG g)).toInt64), μ2) else (bif decide (nI (b2i (!decide (x < nI 0) && !decide (nI (lenG g - 1) < x))) = nI 0) then some (some (.long (-9223372036854775808 : Int64)), μ2) else gd (inb x 400) (some (some (.long (μ2.2 321 x.toNatClampNeg)), μ2))) := by
    rw [e_Mo_list, m1, cV_s, m2.1, nI_sub l1, nI_l (n := lenG g - 1) (by omega), s_Mo_in, cI_s, l_lt _ _ (by omega), l_gt _ _ (by omega)]
  by_cases q : x = (-1 : Int32)
  · refine ⟨(nI (lenG g)).toInt64, μ1, μ2, g, ?_, ?_, m3, m4, m5⟩
    · rw [c0, bt (decide_eq_true q)]
    · rw [r0, bt (decide_eq_true q)]
  · rw [bf (decide_eq_false q)] at c0 r0
    rcases i_cases x with hx | ⟨n, hn, rfl⟩
    · refine ⟨(-9223372036854775808 : Int64), μ1, μ2, g, ?_, ?_, m3, m4, m5⟩
      · rw [c0, bt (decide_eq_true hx)]
      · rw [r0, decide_eq_true hx, Bool.not_true, Bool.false_and]
        exact bt (by decide)
    · rw [bf (nI_lt0 hn)] at c0
      rw [nI_lt0 hn, d_lt (by omega) hn, Bool.not_false, Bool.true_and] at r0
      by_cases q2 : n < lenG g
      · refine ⟨lN (LG g n), μ1, μ2, g, ?_, ?_, m3, m4, m5⟩
        · rw [c0, bLt q2 (by omega), e_Gr_subgroupAt, bf (nI_lt0 hn), k5.1, bLt q2 (by omega), bLt (by omega) (by omega), gi (by omega) (by omega), kl hn, (k5.2 n q2).1, cJ_s]
        · rw [r0, decide_eq_false (show ¬ lenG g - 1 < n by omega), bf (by decide), gi (by omega) (by omega), kl hn, m2.2 n q2]
      · refine ⟨(-9223372036854775808 : Int64), μ1, μ2, g, ?_, ?_, m3, m4, m5⟩
        · rw [c0, bLf (by omega) hn]
        · rw [r0, decide_eq_true (show lenG g - 1 < n by omega)]
          exact bt (by decide)
/-- how many are of a type and a cotype -/
def cnC (g : Nat) (c : Option Nat) (i : Nat) : Bool := match c with
  | none => true
  | some u => decide (coG g i = u)
theorem cnC_n (g i : Nat) : cnC g none i = true := rfl
theorem cnC_s (g u i : Nat) : cnC g (some u) i = decide (coG g i = u) := rfl
def cnB (g t : Nat) (c : Option Nat) (i : Nat) : Bool := decide (tyG g i = t) && cnC g c i
def cnF (g t : Nat) (c : Option Nat) : Nat → Nat → Nat → Nat
  | 0, _, a => a
  | f + 1, i, a => cnF g t c f (i + 1) (if cnB g t c i then a + 1 else a)
theorem s_cnt_5 (hg : g < 32) (hL : LCd g μ) {t : Nat} (ht : t < 19) (c : Option Nat) (hc : ∀ u, c = some u → u < 19) : ∀ (f i a : Nat), i + f = lenG g → m_Gr_countOf_5 (nI t) (oc c) (nI a) (nI i) μ = some (some (.int (nI (cnF g t c f i a))), μ)
  | 0, i, a, e => by
    have l2 := (len_ok g hg).2
    obtain rfl : i = lenG g := by omega
    rw [e_Gr_countOf_5, hL.1, bLf (by omega) (by omega)]
    rfl
  | f + 1, i, a, e => by
    have l2 := (len_ok g hg).2
    obtain ⟨-, t1, t2⟩ := hL.2 i (by omega)
    obtain ⟨⟨o1, -⟩, ⟨o2, -⟩⟩ := tb_ok g hg i (by omega)
    unfold cnF cnB
    rw [e_Gr_countOf_5, hL.1, bLt (by omega) (by omega), bLt (by omega) (by omega), gi (by omega) (by omega), kl (by omega), t1, gi (by omega) (by omega), t2, nI_p1, nI_p1, d_eq (by omega) (by omega)]
    by_cases q : tyG g i = t
    · rw [decide_eq_true q, cond_true, Bool.true_and]
      cases c with
      | none =>
        rw [show oc none = (-1 : Int32) from rfl, bt neg1, cnC_n, if_pos rfl]
        exact s_cnt_5 hg hL ht none hc f (i + 1) _ (by omega)
      | some u =>
        have hu := hc u rfl
        rw [show oc (some u) = nI u from rfl, bf (d_e1 (by omega)), d_eq (by omega) (by omega), cnC_s]
        by_cases q2 : coG g i = u
        · rw [decide_eq_true q2, cond_true, if_pos rfl]
          exact s_cnt_5 hg hL ht (some u) hc f (i + 1) _ (by omega)
        · rw [decide_eq_false q2, cond_false, if_neg (by decide)]
          exact s_cnt_5 hg hL ht (some u) hc f (i + 1) _ (by omega)
    · rw [decide_eq_false q, cond_false, Bool.false_and, if_neg (by decide)]
      exact s_cnt_5 hg hL ht c hc f (i + 1) _ (by omega)
theorem s_cnt_9 (hg : g < 32) {t : Nat} (ht : t < 19) (c : Option Nat) (hc : ∀ u, c = some u → u < 19) : ∀ (f i a : Nat) (μ : Mm), i + f = lenG g → MT μ → GM g μ → LMd g μ → ∃ μ', m_Mo_countOf_9 (nI t) (oc c) (nI a) (nI i) μ = some (some (.int (nI (cnF g t c f i a))), μ') ∧ Fr f320 μ μ'
  | 0, i, a, μ, e, hT, hM, hL => by
    have l2 := (len_ok g hg).2
    obtain rfl : i = lenG g := by omega
    refine ⟨μ, ?_, Fr.rf⟩
    rw [e_Mo_countOf_9, hL.1, bLf (by omega) (by omega)]
    rfl
  | f + 1, i, a, μ, e, hT, hM, hL => by
    have l2 := (len_ok g hg).2
    obtain ⟨⟨o1, -⟩, ⟨o2, -⟩⟩ := tb_ok g hg i (by omega)
    obtain ⟨μ1, y1, y2⟩ := s_byType hg (show i < lenG g by omega) hT hM
    have T1 := hT.fr y2 (by omega) (by omega) (by omega)
    have M1 := hM.fr y2 (by omega) (by omega)
    have L1 : LMd g μ1 := by
      unfold LMd
      rw [(y2 306 (by omega)).1, (y2 321 (by omega)).2]
      exact hL
    have c0 : m_Mo_countOf_9 (nI t) (oc c) (nI a) (nI i) μ = bif decide (tyG g i = t) then (bif decide (oc c = (-1 : Int32)) then (m_Mo_countOf_9 (nI t) (oc c) (nI (a + 1)) (nI (i + 1)) μ1) else (cI (m_Mo_typeBy (lN (evN (nG g))) (lN (LG g i)) μ1) fun v6 μ5 => bif decide (v6 = oc c) then (m_Mo_countOf_9 (nI t) (oc c) (nI (a + 1)) (nI (i + 1)) μ5) else (m_Mo_countOf_9 (nI t) (oc c) (nI a) (nI (i + 1)) μ5))) else (m_Mo_countOf_9 (nI t) (oc c) (nI a) (nI (i + 1)) μ1) := by
      rw [e_Mo_countOf_9, hL.1, bLt (by omega) (by omega), gi (by omega) (by omega), kl (by omega), hL.2 i (by omega), y1, cI_s, d_eq (by omega) (by omega), s_whole_ hg M1, cJ_s, gi (by omega) (by omega), L1.2 i (by omega), nI_p1, nI_p1, nI_add]
      rfl
    unfold cnF cnB
    rw [c0]
    by_cases q : tyG g i = t
    · rw [decide_eq_true q, cond_true, Bool.true_and]
      cases c with
      | none =>
        obtain ⟨μ2, l1, l3⟩ := s_cnt_9 hg ht none hc f (i + 1) (a + 1) μ1 (by omega) T1 M1 L1
        refine ⟨μ2, ?_, y2.t2 l3⟩
        rw [bt (show decide (oc none = (-1 : Int32)) = true from neg1), l1]
        rfl
      | some u =>
        have hu := hc u rfl
        obtain ⟨μ2, z1, z2⟩ := s_byCo hg (show i < lenG g by omega) T1 M1
        have T2 := T1.fr z2 (by omega) (by omega) (by omega)
        have M2 := M1.fr z2 (by omega) (by omega)
        have L2 : LMd g μ2 := by
          unfold LMd
          rw [(z2 306 (by omega)).1, (z2 321 (by omega)).2]
          exact L1
        rw [bf (show decide (oc (some u) = (-1 : Int32)) = false from d_e1 (by omega)), z1, cI_s, show decide (nI (coG g i) = oc (some u)) = decide (coG g i = u) from d_eq (by omega) (by omega)]
        by_cases q2 : coG g i = u
        · obtain ⟨μ3, l1, l3⟩ := s_cnt_9 hg ht (some u) hc f (i + 1) (a + 1) μ2 (by omega) T2 M2 L2
          refine ⟨μ3, ?_, (y2.t2 z2).t2 l3⟩
          rw [bt (decide_eq_true q2), l1, cnC_s, decide_eq_true q2, if_pos rfl]
        · obtain ⟨μ3, l1, l3⟩ := s_cnt_9 hg ht (some u) hc f (i + 1) a μ2 (by omega) T2 M2 L2
          refine ⟨μ3, ?_, (y2.t2 z2).t2 l3⟩
          rw [bf (decide_eq_false q2), l1, cnC_s, decide_eq_false q2, if_neg (by decide)]
    · obtain ⟨μ2, l1, l3⟩ := s_cnt_9 hg ht c hc f (i + 1) a μ1 (by omega) T1 M1 L1
      refine ⟨μ2, ?_, y2.t2 l3⟩
      rw [decide_eq_false q, cond_false, l1, Bool.false_and, if_neg (by decide)]
/-- both count: the class behind its list -/
theorem both_count (hT : MT μ) (hG : GI g μ) {t : Nat} (ht : t < 19) (c : Option Nat) (hc : ∀ u, c = some u → u < 19) : ∃ μ1, m_Gr_learn μ = some (none, μ1) ∧ LCd g μ1 ∧ (m_Gr_countOf (nI t) (oc c) μ1 = some (some (.int (nI (cnF g t c (lenG g) 0 0))), μ1)) ∧ MT μ1 ∧ ∃ μ2, m_Mo_countOf (nI t) (oc c) μ1 = some (some (.int (nI (cnF g t c (lenG g) 0 0))), μ2) ∧ μ2.1 306 21 = nI (lenG g) ∧ GI g μ2 ∧ Fr fG μ μ2 ∧ ∀ i, (i < 14 ∨ 21 < i) → μ2.1 306 i = μ.1 306 i := by
  obtain ⟨μ1, k1, k2, k3, k4, k5, μ2, m1, m2, m3, m4, m5⟩ := both_lists hG
  have T1 := hT.fr k2 (by omega) (by omega) (by omega)
  have T2 := hT.fr m4 (by omega) (by omega) (by omega)
  obtain ⟨μ3, z1, z2⟩ := s_cnt_9 hG.1 ht c hc (lenG g) 0 0 μ2 (by omega) T2 m3.2.2.1 m2
  refine ⟨μ1, k1, k5, ?_, T1, μ3, ?_, ?_, m3.fr z2 (fun k a b => by omega) (by omega) (by omega) (by omega), m4.t2 (z2.w (fun k hk => by omega)), fun i hi => ?_⟩
  · rw [e_Gr_countOf, s_cnt_5 hG.1 k5 ht c hc (lenG g) 0 0 (by omega)]
  · rw [e_Mo_countOf, m1, cV_s, z1]
  · rw [(z2 306 (by omega)).1, m2.1]
  · rw [(z2 306 (by omega)).1, m5 i hi]
/-- promise 19: listed -/
theorem both_listed (hT : MT μ) (hG : GI g μ) (x y : Int32) : Bg μ (m_TI_listed x y) (m_Mo_listed x y) := by
  rcases both_find x with ⟨t, ht, hf⟩ | hf
  · by_cases q : y = (-1 : Int32)
    · obtain ⟨μ1, k1, k2, k3, k4, μ2, m1, m2, m3, m4, m5⟩ := both_count hT hG ht none (fun u h => by cases h)
      rw [show oc none = (-1 : Int32) from rfl] at k3 m1
      refine ⟨nI (cnF g t none (lenG g) 0 0), μ1, μ2, g, ?_, ?_, m3, m4, m5⟩
      · rcases both_find y with ⟨u, hu, hy⟩ | hy
        · rw [e_TI_listed, (hf μ).1, cI_s, (hy μ).1, cI_s, bf (t_ge ht), bf (t_ge hu), k1, cV_s, bt (decide_eq_true q), k3, cI_s]
        · rw [e_TI_listed, (hf μ).1, cI_s, (hy μ).1, cI_s, bf (t_ge ht), bt d_neg, bt (decide_eq_true q), k1, cV_s, bt (decide_eq_true q), k3, cI_s]
      · rcases both_find y with ⟨u, hu, hy⟩ | hy
        · rw [e_Mo_listed, (hf μ1).2 k4, cI_s, (hy μ1).2 k4, cI_s, bf (d_e1 (by omega)), bt (decide_eq_true q), bt (decide_eq_true q), m1, cI_s]
        · rw [e_Mo_listed, (hf μ1).2 k4, cI_s, (hy μ1).2 k4, cI_s, bf (d_e1 (by omega)), bt (decide_eq_true q), bt (decide_eq_true q), m1, cI_s]
    · rcases both_find y with ⟨u, hu, hy⟩ | hy
      · obtain ⟨μ1, k1, k2, k3, k4, μ2, m1, m2, m3, m4, m5⟩ := both_count hT hG hu (some t) (fun v h => by cases h; exact ht)
        rw [show oc (some t) = nI t from rfl] at k3 m1
        refine ⟨nI (cnF g u (some t) (lenG g) 0 0), μ1, μ2, g, ?_, ?_, m3, m4, m5⟩
        · rw [e_TI_listed, (hf μ).1, cI_s, (hy μ).1, cI_s, bf (t_ge ht), bf (t_ge hu), k1, cV_s, bf (decide_eq_false q), k3, cI_s]
        · rw [e_Mo_listed, (hf μ1).2 k4, cI_s, (hy μ1).2 k4, cI_s, bf (d_e1 (by omega)), bf (decide_eq_false q), bf (d_e1 (by omega)), bf (decide_eq_false q), m1, cI_s]
      · refine Bg.same hG (r := (-1 : Int32)) ?_ ?_
        · rw [e_TI_listed, (hf μ).1, cI_s, (hy μ).1, cI_s, bf (t_ge ht), bt d_neg, bf (decide_eq_false q)]
        · rw [e_Mo_listed, (hf μ).2 hT, cI_s, (hy μ).2 hT, cI_s, bf (d_e1 (by omega)), bf (decide_eq_false q), bt neg1]
  · refine Bg.same hG (r := (-1 : Int32)) ?_ ?_
    · rcases both_find y with ⟨u, hu, hy⟩ | hy
      · rw [e_TI_listed, (hf μ).1, cI_s, (hy μ).1, cI_s, bt d_neg]
      · rw [e_TI_listed, (hf μ).1, cI_s, (hy μ).1, cI_s, bt d_neg]
    · rcases both_find y with ⟨u, hu, hy⟩ | hy
      · rw [e_Mo_listed, (hf μ).2 hT, cI_s, (hy μ).2 hT, cI_s, bt neg1]
      · rw [e_Mo_listed, (hf μ).2 hT, cI_s, (hy μ).2 hT, cI_s, bt neg1]
end RLS
