/-! shelves: both sides tied to one picture (sort + 1, width, type + 1 of each place) -/
def kndN (t : Nat) : Nat := if 1 < colN t 1 then (if colN t 2 = 0 then 1 else 2) else 0
theorem knd_lt (t : Nat) : kndN t < 3 := by
  unfold kndN
  split
  · split <;> omega
  · omega
def cod (n : Nat) : Int32 := nI n - nI 1
theorem cod_0 : cod 0 = (-1 : Int32) := by decide
theorem cod_s (n : Nat) : cod (n + 1) = nI n := nI_pred n
theorem cod_e1 {n : Nat} (h : n < 2 ^ 31) : decide (cod n = (-1 : Int32)) = decide (n = 0) := by
  cases n with
  | zero => rw [cod_0]; decide
  | succ n => rw [cod_s, d_e1 (by omega)]; exact (decide_eq_false (by omega)).symm
theorem cod_l0 {n : Nat} (h : n < 2 ^ 31) : decide (cod n < nI 0) = decide (n = 0) := by
  cases n with
  | zero => rw [cod_0]; decide
  | succ n => rw [cod_s, nI_lt0 (by omega)]; exact (decide_eq_false (by omega)).symm
theorem cod_e {n m : Nat} (h : n < 2 ^ 31) (hm : m + 1 < 2 ^ 31) : decide (cod n = nI m) = decide (n = m + 1) := by
  cases n with
  | zero =>
    rw [cod_0, decide_eq_false (show ¬ 0 = m + 1 by omega)]
    apply decide_eq_false
    intro q
    have := d_e1 (a := m) (by omega)
    rw [decide_eq_false_iff_not] at this
    exact this q.symm
  | succ n =>
    rw [cod_s, d_eq (by omega) (by omega)]
    by_cases q : n = m
    · rw [decide_eq_true q, decide_eq_true (by omega)]
    · rw [decide_eq_false q, decide_eq_false (by omega)]
theorem cod_lt {w n : Nat} (hw : w < 2 ^ 31) (hn : n < 2 ^ 31) : decide ((cod w).toInt64 < (nI n).toInt64) = decide (w ≤ n) := by
  have : decide ((cod w).toInt64 < (nI n).toInt64) = decide (cod w < nI n) := by
    by_cases h : cod w < nI n
    · rw [decide_eq_true h, decide_eq_true (Int32.toInt64_lt.mpr h)]
    · rw [decide_eq_false h, decide_eq_false (fun q => h (Int32.toInt64_lt.mp q))]
  rw [this]
  cases w with
  | zero =>
    rw [cod_0, decide_eq_true (Nat.zero_le n)]
    apply decide_eq_true
    rw [Int32.lt_iff_toInt_lt, nI_toInt hn]
    have : (-1 : Int32).toInt = -1 := by decide
    omega
  | succ w =>
    rw [cod_s, d_lt (by omega) hn]
    by_cases q : w < n
    · rw [decide_eq_true q, decide_eq_true (by omega)]
    · rw [decide_eq_false q, decide_eq_false (by omega)]
abbrev Sv : Type := Nat → Nat × Nat × (Nat → Nat)
def VS (v : Sv) : Prop := ∀ s, s < 4 → (v s).1 ≤ 4 ∧ (v s).2.1 ≤ 20 ∧ ((v s).1 = 0 → (v s).2.1 = 0) ∧ ∀ i, i < (v s).2.1 → (v s).2.2 i ≤ 19
def SC (b : Nat) (v : Sv) (μ : Mm) : Prop := ∀ s, s < 4 → μ.1 (b + 2 * s) 0 = cod (v s).1 ∧ μ.1 (b + 2 * s) 1 = nI (v s).2.1 ∧ ∀ i, i < (v s).2.1 → μ.1 (b + 2 * s + 1) i = cod ((v s).2.2 i)
def SM (c1 c2 c3 : Nat) (v : Sv) (μ : Mm) : Prop := ∀ s, s < 4 → μ.1 c1 s = nI (v s).1 ∧ μ.1 c2 s = nI (v s).2.1 ∧ ∀ i, i < (v s).2.1 → μ.1 c3 (20 * s + i) = nI ((v s).2.2 i)
theorem SC.fr {b : Nat} {v : Sv} {S : Nat → Prop} {μ μ' : Mm} (h : SC b v μ) (f : Fr S μ μ') (hS : ∀ k, b ≤ k → k < b + 8 → ¬ S k) : SC b v μ' := fun s hs => by
  obtain ⟨h1, h2, h3⟩ := h s hs
  refine ⟨?_, ?_, fun i hi => ?_⟩
  · rw [(f _ (hS _ (by omega) (by omega))).1]; exact h1
  · rw [(f _ (hS _ (by omega) (by omega))).1]; exact h2
  · rw [(f _ (hS _ (by omega) (by omega))).1]; exact h3 i hi
theorem SM.fr {a b c : Nat} {v : Sv} {S : Nat → Prop} {μ μ' : Mm} (h : SM a b c v μ) (f : Fr S μ μ') (h1 : ¬ S a) (h2 : ¬ S b) (h3 : ¬ S c) : SM a b c v μ' := fun s hs => by
  obtain ⟨g1, g2, g3⟩ := h s hs
  refine ⟨?_, ?_, fun i hi => ?_⟩
  · rw [(f _ h1).1]; exact g1
  · rw [(f _ h2).1]; exact g2
  · rw [(f _ h3).1]; exact g3 i hi
/-- the cells of the class's shelves -/
theorem shf {s : Nat} (hs : s < 4) : isO (266 + 2 * s) 4 = true ∧ sub (266 + 2 * s) 2 = 266 + 2 * s + 1 ∧ Nat.ble (shK (266 + 2 * s + 1)) 5 = true ∧ shN (266 + 2 * s + 1) = 20 ∧ lnI (266 + 2 * s + 1) = 20 := by
  revert s
  decide +kernel
theorem isT {s : Nat} (hs : s < 4) : (isO (266 + 2 * s) 4 && (true && true)) = true := by rw [(shf hs).1]; rfl
theorem both_ix (x : Int32) : (∃ s, s < 4 ∧ x = nI s ∧ ∀ μ, m_TI_shelfAt x μ = some (some (.ref (266 + 2 * s)), μ) ∧ m_Mo_isShelf x μ = some (some (.int (nI 1)), μ)) ∨ ∀ μ, m_TI_shelfAt x μ = some (some .null, μ) ∧ m_Mo_isShelf x μ = some (some (.int (nI 0)), μ) := by
  rcases i_cases x with hx | ⟨n, hn, rfl⟩
  · refine Or.inr (fun μ => ⟨?_, ?_⟩)
    · rw [e_TI_shelfAt, bt (decide_eq_true hx)]
    · rw [e_Mo_isShelf, s_Mo_in, cI_s, l_lt _ _ (by omega), decide_eq_true hx]
      exact gd_h isb_0
  · by_cases q : n < 4
    · refine Or.inl ⟨n, q, rfl, fun μ => ⟨?_, ?_⟩⟩
      · rw [e_TI_shelfAt, bf (nI_lt0 hn), bt (by rw [d_lt hn (by omega)]; exact decide_eq_true q), gd_h (inb_n q (by omega)), nI_clamp hn]
        show some (some (Value.ref (265 + 1 + 2 * n)), μ) = _
        rw [show 265 + 1 + 2 * n = 266 + 2 * n by omega]
      · rw [e_Mo_isShelf, s_Mo_in, cI_s, l_lt _ _ (by omega), l_gt _ _ (by omega), nI_lt0 hn, d_lt (by omega) hn, decide_eq_false (show ¬ 3 < n by omega)]
        exact gd_h isb_1
    · refine Or.inr (fun μ => ⟨?_, ?_⟩)
      · rw [e_TI_shelfAt, bf (nI_lt0 hn), bf (by rw [d_lt hn (by omega)]; exact decide_eq_false q)]
      · rw [e_Mo_isShelf, s_Mo_in, cI_s, l_lt _ _ (by omega), l_gt _ _ (by omega), nI_lt0 hn, d_lt (by omega) hn, decide_eq_true (show 3 < n by omega)]
        exact gd_h isb_0
section SHE
variable {v : Sv} {μ : Mm} {s : Nat}
theorem s_Sh_holds (hV : VS v) (h : SC 266 v μ) (hs : s < 4) : m_Sh_holds (266 + 2 * s) μ = some (some (.int (nI (b2i (!decide ((v s).1 = 0))))), μ) := by
  have := (hV s hs).1
  rw [e_Sh_holds, gd_h (shf hs).1, (h s hs).1, cod_e1 (by omega)]
  cases decide ((v s).1 = 0)
  · exact gd_h isb_1
  · exact gd_h isb_0
theorem s_Mo_holds (hV : VS v) (h : SM 328 329 330 v μ) (hs : s < 4) : m_Mo_holds (nI s) μ = some (some (.int (nI (b2i (!decide ((v s).1 = 0))))), μ) := by
  have := (hV s hs).1
  rw [e_Mo_holds, gd_h (inb_n hs (by omega)), nI_clamp (by omega), (h s hs).1, d_lt (by omega) (by omega)]
  by_cases q : (v s).1 = 0
  · rw [decide_eq_true q, bf (decide_eq_false (by omega))]
    exact gd_h isb_0
  · rw [decide_eq_false q, bt (decide_eq_true (by omega))]
    exact gd_h isb_1
/-- whether there is such a place: both -/
theorem both_place (hV : VS v) (h : SC 266 v μ) (hs : s < 4) (x : Int32) : (∃ n, n < (v s).2.1 ∧ x = nI n ∧ m_Sh_hasPlace (266 + 2 * s) x μ = some (some (.int (nI 1)), μ) ∧ ∀ μ', m_Mo_in_JJJ x.toInt64 (lN 0) ((nI (v s).2.1 - nI 1).toInt64) μ' = some (some (.int (nI 1)), μ')) ∨ (m_Sh_hasPlace (266 + 2 * s) x μ = some (some (.int (nI 0)), μ) ∧ ∀ μ', m_Mo_in_JJJ x.toInt64 (lN 0) ((nI (v s).2.1 - nI 1).toInt64) μ' = some (some (.int (nI 0)), μ')) := by
  have hw := (hV s hs).2.1
  rcases i_cases x with hx | ⟨n, hn, rfl⟩
  · refine Or.inr ⟨?_, fun μ' => ?_⟩
    · rw [e_Sh_hasPlace, bt (decide_eq_true hx)]
      exact gd_h isb_0
    · rw [s_Mo_in, l_lt _ _ (by omega), decide_eq_true hx]
      rfl
  · by_cases q : n < (v s).2.1
    · refine Or.inl ⟨n, q, rfl, ?_, fun μ' => ?_⟩
      · rw [e_Sh_hasPlace, bf (nI_lt0 hn), gd_h (shf hs).1, (h s hs).2.1, bt (by rw [d_lt hn (by omega)]; exact decide_eq_true q)]
        exact gd_h isb_1
      · rw [s_Mo_in, l_lt _ _ (by omega), nI_lt0 hn, show nI (v s).2.1 - nI 1 = cod (v s).2.1 from rfl, cod_lt (by omega) hn, decide_eq_false (by omega)]
        rfl
    · refine Or.inr ⟨?_, fun μ' => ?_⟩
      · rw [e_Sh_hasPlace, bf (nI_lt0 hn), gd_h (shf hs).1, (h s hs).2.1, bf (by rw [d_lt hn (by omega)]; exact decide_eq_false q)]
        exact gd_h isb_0
      · rw [s_Mo_in, l_lt _ _ (by omega), nI_lt0 hn, show nI (v s).2.1 - nI 1 = cod (v s).2.1 from rfl, cod_lt (by omega) hn, decide_eq_true (by omega)]
        rfl
theorem s_Sh_suits (hV : VS v) (h : SC 266 v μ) (hs : s < 4) {t : Nat} (ht : t < 19) : m_Sh_suits (266 + 2 * s) (nI t) μ = some (some (.int (nI (b2i (decide ((v s).1 = 4) || decide ((v s).1 = kndN t + 1))))), μ) := by
  have := (hV s hs).1
  have hk := knd_lt t
  rw [e_Sh_suits, gd_h (shf hs).1, (h s hs).1, cod_e (by omega) (by omega)]
  by_cases q : (v s).1 = 4
  · rw [decide_eq_true q]
    exact gd_h isb_1
  · rw [decide_eq_false q, cond_false, gd_h (shf hs).1, s_Ty_kind ht, cI_s, show (if 1 < colN t 1 then (if colN t 2 = 0 then 1 else 2) else 0) = kndN t from rfl, cod_e (by omega) (by omega)]
    cases decide ((v s).1 = kndN t + 1)
    · exact gd_h isb_0
    · exact gd_h isb_1
theorem s_Mo_isTaken (hT : MT μ) (hV : VS v) (h : SM 328 329 330 v μ) (hs : s < 4) {t : Nat} (ht : t < 19) : m_Mo_isTaken (nI s) (nI t) μ = some (some (.int (nI (b2i (decide ((v s).1 = 4) || decide ((v s).1 = kndN t + 1))))), μ) := by
  have := (hV s hs).1
  have hk := knd_lt t
  rw [e_Mo_isTaken, gd_h (inb_n hs (by omega)), nI_clamp (by omega), (h s hs).1, d_eq (by omega) (by omega)]
  by_cases q : (v s).1 = 4
  · rw [decide_eq_true q]
    exact gd_h isb_1
  · rw [decide_eq_false q, cond_false, gd_h (inb_n hs (by omega)), s_Mo_kind hT ht, cI_s, show (if 1 < colN t 1 then (if colN t 2 = 0 then 1 else 2) else 0) = kndN t from rfl, nI_p1, d_eq (by omega) (by omega)]
    cases decide ((v s).1 = kndN t + 1)
    · exact gd_h isb_0
    · exact gd_h isb_1
theorem s_Sh_typeAt (hs : s < 4) {n : Nat} (hn : n < 20) (μ : Mm) : m_Sh_typeAt (266 + 2 * s) (nI n) μ = some (some (.int (μ.1 (266 + 2 * s + 1) n)), μ) := by
  obtain ⟨a1, a2, a3, a4, a5⟩ := shf hs
  rw [e_Sh_typeAt, bf (nI_lt0 (by omega)), gd_h a1, a2, gd_h a3, a4, bt (by rw [d_lt (by omega) (by omega)]; exact decide_eq_true hn), gd_h a1, a5, gd_h (inb_n hn (by omega)), nI_clamp (by omega)]
theorem s_Sh_write (hs : s < 4) {n : Nat} (hn : n < 20) (x : Int32) (μ : Mm) : m_Sh_write (266 + 2 * s) (nI n) x μ = some (none, sI μ (266 + 2 * s + 1) n x) := by
  obtain ⟨a1, a2, a3, a4, a5⟩ := shf hs
  rw [e_Sh_write, bf (nI_lt0 (by omega)), gd_h a1, a2, gd_h a3, a4, bt (by rw [d_lt (by omega) (by omega)]; exact decide_eq_true hn), gd_h a1, a5, gd_h (inb_n hn (by omega)), nI_clamp (by omega)]
end SHE
/-- one place of a shelf anew -/
def svP (v : Sv) (s n z : Nat) : Sv := fun a => if a = s then ((v s).1, (v s).2.1, fun i => if i = n then z else (v s).2.2 i) else v a
theorem VS.put {v : Sv} (h : VS v) {s n z : Nat} (hz : z ≤ 19) : VS (svP v s n z) := fun a ha => by
  unfold svP
  by_cases q : a = s
  · subst q
    rw [if_pos rfl]
    obtain ⟨h1, h2, h3, h4⟩ := h a ha
    refine ⟨h1, h2, h3, fun i hi => ?_⟩
    show (if i = n then z else (v a).2.2 i) ≤ 19
    split
    · exact hz
    · exact h4 i hi
  · rw [if_neg q]
    exact h a ha
theorem SC.put {b : Nat} {v : Sv} {μ : Mm} (h : SC b v μ) {s n z : Nat} (hs : s < 4) : SC b (svP v s n z) (sI μ (b + 2 * s + 1) n (cod z)) := fun a ha => by
  obtain ⟨h1, h2, h3⟩ := h a ha
  rw [sI_o (by omega)]
  unfold svP
  by_cases q : a = s
  · subst q
    rw [if_pos rfl, sI_s]
    refine ⟨h1, h2, fun i hi => ?_⟩
    show upd _ n (cod z) i = cod (if i = n then z else (v a).2.2 i)
    by_cases e : i = n
    · rw [if_pos e, e, up_s]
    · rw [if_neg e, up_o e, h3 i hi]
  · rw [if_neg q, sI_o (by omega)]
    exact ⟨h1, h2, h3⟩
theorem SM.put {v : Sv} {μ : Mm} (hV : VS v) (h : SM 328 329 330 v μ) {s n z : Nat} (hs : s < 4) (hn : n < 20) : SM 328 329 330 (svP v s n z) (sI μ 330 (20 * s + n) (nI z)) := fun a ha => by
  obtain ⟨h1, h2, h3⟩ := h a ha
  have hw := (hV a ha).2.1
  rw [sI_o (by omega), sI_o (by omega), sI_s]
  unfold svP
  by_cases q : a = s
  · subst q
    rw [if_pos rfl]
    refine ⟨h1, h2, fun i hi => ?_⟩
    show upd _ _ (nI z) (20 * a + i) = nI (if i = n then z else (v a).2.2 i)
    by_cases e : i = n
    · rw [if_pos e, e, up_s]
    · rw [if_neg e, up_o (by omega), h3 i hi]
  · rw [if_neg q]
    refine ⟨h1, h2, fun i hi => ?_⟩
    rw [up_o (by omega), h3 i hi]
/-- which cells shelves' calls may change -/
def cS (k : Nat) : Prop := (266 ≤ k ∧ k < 274) ∨ k = 275 ∨ (328 ≤ k ∧ k < 332)
/-- a call on both sides: the same answer, shelves again, else nothing changed -/
def Bo (v : Sv) (μ : Mm) (f g : Mm → Option Rs) : Prop := ∃ (r : Int32) (μ1 μ2 : Mm) (v' : Sv), f μ = some (some (.int r), μ1) ∧ g μ1 = some (some (.int r), μ2) ∧ VS v' ∧ SC 266 v' μ2 ∧ SM 328 329 330 v' μ2 ∧ Fr cS μ μ2
section BOTHS
variable {v : Sv} {μ : Mm}
theorem Bo.same (hV : VS v) (hC : SC 266 v μ) (hM : SM 328 329 330 v μ) {r : Int32} {f g : Mm → Option Rs} (h1 : f μ = some (some (.int r), μ)) (h2 : g μ = some (some (.int r), μ)) : Bo v μ f g := ⟨r, μ, μ, v, h1, h2, hV, hC, hM, Fr.rf⟩
theorem b2i_n (b : Bool) : decide (nI (b2i b) = nI 0) = !b := b2i_0 b
/-- promise 31: get -/
theorem both_get (hT : MT μ) (hV : VS v) (hC : SC 266 v μ) (hM : SM 328 329 330 v μ) (x y : Int32) : Bo v μ (m_TI_get x y) (m_Mo_get x y) := by
  rcases both_ix x with ⟨s, hs, rfl, hx⟩ | hx
  · by_cases q : (v s).1 = 0
    · refine Bo.same (r := (-11 : Int32)) hV hC hM ?_ ?_
      · rw [e_TI_get, (hx μ).1, cN_s, gd_h (isT hs), s_Sh_holds hV hC hs, cI_s, b2i_n, decide_eq_true q]
        rfl
      · rw [e_Mo_get, (hx μ).2, cI_s, bf (by decide), s_Mo_holds hV hM hs, cI_s, b2i_n, decide_eq_true q]
        rfl
    · rcases both_place hV hC hs y with ⟨n, hn, rfl, p1, p2⟩ | ⟨p1, p2⟩
      · have hw := (hV s hs).2.1
        have hz := (hV s hs).2.2.2 n hn
        have c1 : m_TI_get (nI s) (nI n) μ = (bif decide ((v s).2.2 n = 0) then some (some (.int (-5 : Int32)), μ) else cI (m_Ty_number (cod ((v s).2.2 n)) μ) fun v10 μ9 => some (some (.int v10), μ9)) := by
          rw [e_TI_get, (hx μ).1, cN_s, gd_h (isT hs), s_Sh_holds hV hC hs, cI_s, b2i_n, decide_eq_false q, Bool.not_false, Bool.not_true, cond_false, gd_h (isT hs), p1, cI_s, bf (by decide), gd_h (isT hs), s_Sh_typeAt hs (by omega), cI_s, (hC s hs).2.2 n hn, cod_l0 (by omega)]
        have c2 : m_Mo_get (nI s) (nI n) μ = (bif decide ((v s).2.2 n = 0) then some (some (.int (-5 : Int32)), μ) else gd (inb (cod ((v s).2.2 n)) 19) (some (some (.int (μ.1 307 (cod ((v s).2.2 n)).toNatClampNeg)), μ))) := by
          rw [e_Mo_get, (hx μ).2, cI_s, bf (by decide), s_Mo_holds hV hM hs, cI_s, b2i_n, decide_eq_false q, Bool.not_false, Bool.not_true, cond_false, gd_h (inb_n hs (by omega)), nI_clamp (by omega), (hM s hs).2.1, p2, cI_s, bf (by decide), nI_mul, nI_add, gd_h (inb_n (by omega) (by omega)), nI_clamp (by omega), (hM s hs).2.2 n hn, d_eq (by omega) (by omega)]
          rfl
        rcases Nat.eq_zero_or_pos ((v s).2.2 n) with e | e
        · exact Bo.same hV hC hM (by rw [c1, decide_eq_true e]; rfl) (by rw [c2, decide_eq_true e]; rfl)
        · obtain ⟨t, ht⟩ : ∃ t, (v s).2.2 n = t + 1 := ⟨(v s).2.2 n - 1, by omega⟩
          refine Bo.same (r := nI (numN t)) hV hC hM ?_ ?_
          · rw [c1, decide_eq_false (by omega), cond_false, ht, cod_s, s_Ty_number (by omega), cI_s]
          · rw [c2, decide_eq_false (by omega), cond_false, ht, cod_s, gd_h (inb_n (by omega) (by omega)), nI_clamp (by omega), hT.1 t (by omega)]
      · refine Bo.same (r := (-12 : Int32)) hV hC hM ?_ ?_
        · rw [e_TI_get, (hx μ).1, cN_s, gd_h (isT hs), s_Sh_holds hV hC hs, cI_s, b2i_n, decide_eq_false q, Bool.not_false, Bool.not_true, cond_false, gd_h (isT hs), p1, cI_s]
          exact bt (by decide)
        · rw [e_Mo_get, (hx μ).2, cI_s, bf (by decide), s_Mo_holds hV hM hs, cI_s, b2i_n, decide_eq_false q, Bool.not_false, Bool.not_true, cond_false, gd_h (inb_n hs (by omega)), nI_clamp (by omega), (hM s hs).2.1, p2, cI_s]
          exact bt (by decide)
  · refine Bo.same (r := (-1 : Int32)) hV hC hM ?_ ?_
    · rw [e_TI_get, (hx μ).1, cN_n]
    · rw [e_Mo_get, (hx μ).2, cI_s]
      exact bt (by decide)
/-- promise 30: put -/
theorem both_put (hT : MT μ) (hV : VS v) (hC : SC 266 v μ) (hM : SM 328 329 330 v μ) (x y z : Int32) : Bo v μ (m_TI_put x y z) (m_Mo_put x y z) := by
  rcases both_ix x with ⟨s, hs, rfl, hx⟩ | hx
  · rcases both_find z with ⟨t, ht, hf⟩ | hf
    · by_cases q : (v s).1 = 0
      · refine Bo.same (r := (-11 : Int32)) hV hC hM ?_ ?_
        · rw [e_TI_put, (hx μ).1, cN_s, (hf μ).1, cI_s, bf (t_ge ht), gd_h (isT hs), s_Sh_holds hV hC hs, cI_s, b2i_n, decide_eq_true q]
          rfl
        · rw [e_Mo_put, (hf μ).2 hT, cI_s, (hx μ).2, cI_s, bf (by decide), bf (d_e1 (by omega)), s_Mo_holds hV hM hs, cI_s, b2i_n, decide_eq_true q]
          rfl
      · rcases both_place hV hC hs y with ⟨n, hn, rfl, p1, p2⟩ | ⟨p1, p2⟩
        · have hw := (hV s hs).2.1
          have c1 : m_TI_put (nI s) (nI n) z μ = (bif !(decide ((v s).1 = 4) || decide ((v s).1 = kndN t + 1)) then some (some (.int (-13 : Int32)), μ) else some (some (.int (nI 1)), sI μ (266 + 2 * s + 1) n (nI t))) := by
            rw [e_TI_put, (hx μ).1, cN_s, (hf μ).1, cI_s, bf (t_ge ht), gd_h (isT hs), s_Sh_holds hV hC hs, cI_s, b2i_n, decide_eq_false q, Bool.not_false, Bool.not_true, cond_false, gd_h (isT hs), p1, cI_s, bf (by decide), gd_h (isT hs), s_Sh_suits hV hC hs ht, cI_s, b2i_n, gd_h (isT hs), s_Sh_write hs (by omega), cV_s]
          have c2 : ∀ μ', MT μ' → SM 328 329 330 v μ' → m_Mo_put (nI s) (nI n) z μ' = (bif !(decide ((v s).1 = 4) || decide ((v s).1 = kndN t + 1)) then some (some (.int (-13 : Int32)), μ') else some (some (.int (nI 1)), sI μ' 330 (20 * s + n) (nI (t + 1)))) := fun μ' hT' hM' => by
            rw [e_Mo_put, (hf μ').2 hT', cI_s, (hx μ').2, cI_s, bf (by decide), bf (d_e1 (by omega)), s_Mo_holds hV hM' hs, cI_s, b2i_n, decide_eq_false q, Bool.not_false, Bool.not_true, cond_false, gd_h (inb_n hs (by omega)), nI_clamp (by omega), (hM' s hs).2.1, p2, cI_s, bf (by decide), s_Mo_isTaken hT' hV hM' hs ht, cI_s, b2i_n, nI_mul, nI_add, gd_h (inb_n (by omega) (by omega)), nI_clamp (by omega), nI_p1]
          cases e : (decide ((v s).1 = 4) || decide ((v s).1 = kndN t + 1))
          · exact Bo.same (r := (-13 : Int32)) hV hC hM (by rw [c1, e]; rfl) (by rw [c2 μ hT hM, e]; rfl)
          · have f1 : Fr (fun k => 266 ≤ k ∧ k < 274) μ (sI μ (266 + 2 * s + 1) n (nI t)) := Fr.sI (by omega)
            have hT1 := hT.fr f1 (by omega) (by omega) (by omega)
            have hM1 := hM.fr f1 (by omega) (by omega) (by omega)
            refine ⟨nI 1, sI μ (266 + 2 * s + 1) n (nI t), _, svP v s n (t + 1), by rw [c1, e]; rfl, by rw [c2 _ hT1 hM1, e]; rfl, hV.put (by omega), ?_, SM.put hV hM1 hs (by omega), ?_⟩
            · have := hC.put (s := s) (n := n) (z := t + 1) hs
              rw [cod_s] at this
              exact this.fr (Fr.sI (S := fun k => k = 330) rfl) (fun k a b => by omega)
            · exact (f1.w (fun k h => Or.inl h)).t2 (Fr.sI (Or.inr (Or.inr (by omega))))
        · refine Bo.same (r := (-12 : Int32)) hV hC hM ?_ ?_
          · rw [e_TI_put, (hx μ).1, cN_s, (hf μ).1, cI_s, bf (t_ge ht), gd_h (isT hs), s_Sh_holds hV hC hs, cI_s, b2i_n, decide_eq_false q, Bool.not_false, Bool.not_true, cond_false, gd_h (isT hs), p1, cI_s]
            exact bt (by decide)
          · rw [e_Mo_put, (hf μ).2 hT, cI_s, (hx μ).2, cI_s, bf (by decide), bf (d_e1 (by omega)), s_Mo_holds hV hM hs, cI_s, b2i_n, decide_eq_false q, Bool.not_false, Bool.not_true, cond_false, gd_h (inb_n hs (by omega)), nI_clamp (by omega), (hM s hs).2.1, p2, cI_s]
            exact bt (by decide)
    · refine Bo.same (r := (-1 : Int32)) hV hC hM ?_ ?_
      · rw [e_TI_put, (hx μ).1, cN_s, (hf μ).1, cI_s]
        exact bt d_neg
      · rw [e_Mo_put, (hf μ).2 hT, cI_s, (hx μ).2, cI_s, bf (by decide)]
        exact bt neg1
  · refine Bo.same (r := (-1 : Int32)) hV hC hM ?_ ?_
    · rw [e_TI_put, (hx μ).1, cN_n]
      rcases both_find z with ⟨t, ht, hf⟩ | hf
      · rw [(hf μ).1, cI_s]
      · rw [(hf μ).1, cI_s]
    · rcases both_find z with ⟨t, ht, hf⟩ | hf
      · rw [e_Mo_put, (hf μ).2 hT, cI_s, (hx μ).2, cI_s]
        exact bt (by decide)
      · rw [e_Mo_put, (hf μ).2 hT, cI_s, (hx μ).2, cI_s]
        exact bt (by decide)
end BOTHS
