/-! loops; terms of a sum: both sides -/
theorem gi {i n : Nat} {x : Option Rs} (h : i < n) (hn : n < 2 ^ 31) : gd (inb (nI i) n) x = x := gd_h (inb_n h hn)
theorem bLt {α : Sort _} {a b : Nat} {x y : α} (h : a < b) (hb : b < 2 ^ 31) : (bif decide (nI a < nI b) then x else y) = x := bt (by rw [d_lt (by omega) hb]; exact decide_eq_true h)
theorem bLf {α : Sort _} {a b : Nat} {x y : α} (h : b ≤ a) (ha : a < 2 ^ 31) : (bif decide (nI a < nI b) then x else y) = y := bf (by rw [d_lt ha (by omega)]; exact decide_eq_false (by omega))
theorem bEt {α : Sort _} {a b : Nat} {x y : α} (h : a = b) : (bif decide (nI a = nI b) then x else y) = x := bt (decide_eq_true (by rw [h]))
theorem bEf {α : Sort _} {a b : Nat} {x y : α} (h : ¬ a = b) (ha : a < 2 ^ 31) (hb : b < 2 ^ 31) : (bif decide (nI a = nI b) then x else y) = y := bf (by rw [d_eq ha hb]; exact decide_eq_false h)
theorem kl {a : Nat} (h : a < 2 ^ 31) : (nI a).toNatClampNeg = a := nI_clamp h
/-- a loop with what it keeps -/
theorem lp_E {σ : Type} {L : Nat → σ → Option Rs} {K : σ → Option Rs} {P : Nat → σ → Prop} {n : Nat} (step : ∀ i m, i < n → P i m → ∃ m', L i m = L (i + 1) m' ∧ P (i + 1) m') (last : ∀ m, P n m → L n m = K m) {m : σ} (h0 : P 0 m) : ∃ m', L 0 m = K m' ∧ P n m' := by
  have key : ∀ i, i ≤ n → ∃ m', L 0 m = L i m' ∧ P i m' := by
    intro i
    induction i with
    | zero => exact fun _ => ⟨m, rfl, h0⟩
    | succ i ih =>
      intro hi
      obtain ⟨m1, h1, h2⟩ := ih (by omega)
      obtain ⟨m2, h3, h4⟩ := step i m1 (by omega) h2
      exact ⟨m2, h1.trans h3, h4⟩
  obtain ⟨m1, h1, h2⟩ := key n (Nat.le_refl n)
  exact ⟨m1, h1.trans (last m1 h2), h2⟩
/-- a loop that writes one row, place by place -/
def rowL (o n : Nat) (F : Nat → Int64 → Int64) (f : Nat → Int64) (j : Nat) : Int64 := if o ≤ j ∧ j < o + n then F (j - o) (f j) else f j
def rowI (o n : Nat) (F : Nat → Int32 → Int32) (f : Nat → Int32) (j : Nat) : Int32 := if o ≤ j ∧ j < o + n then F (j - o) (f j) else f j
theorem rowL_0 {o : Nat} {F : Nat → Int64 → Int64} {f : Nat → Int64} : rowL o 0 F f = f := funext fun j => if_neg (by omega)
theorem rowI_0 {o : Nat} {F : Nat → Int32 → Int32} {f : Nat → Int32} : rowI o 0 F f = f := funext fun j => if_neg (by omega)
theorem rowL_in {o n : Nat} {F : Nat → Int64 → Int64} {f : Nat → Int64} {i : Nat} (h : i < n) : rowL o n F f (o + i) = F i (f (o + i)) := by
  unfold rowL
  rw [if_pos (by omega), Nat.add_sub_cancel_left]
theorem rowI_in {o n : Nat} {F : Nat → Int32 → Int32} {f : Nat → Int32} {i : Nat} (h : i < n) : rowI o n F f (o + i) = F i (f (o + i)) := by
  unfold rowI
  rw [if_pos (by omega), Nat.add_sub_cancel_left]
theorem rowL_out {o n : Nat} {F : Nat → Int64 → Int64} {f : Nat → Int64} {j : Nat} (h : j < o ∨ o + n ≤ j) : rowL o n F f j = f j := if_neg (by omega)
theorem rowI_out {o n : Nat} {F : Nat → Int32 → Int32} {f : Nat → Int32} {j : Nat} (h : j < o ∨ o + n ≤ j) : rowI o n F f j = f j := if_neg (by omega)
theorem rowL_s {o n : Nat} {F : Nat → Int64 → Int64} {f : Nat → Int64} : vp_updL (rowL o n F f) (o + n) (F n (f (o + n))) = rowL o (n + 1) F f := funext fun j => by
  by_cases q : j = o + n
  · rw [q, uL_s, rowL_in (by omega)]
  · rw [uL_o q]
    unfold rowL
    by_cases h : o ≤ j ∧ j < o + n
    · rw [if_pos h, if_pos (by omega)]
    · rw [if_neg h, if_neg (by omega)]
theorem rowI_s {o n : Nat} {F : Nat → Int32 → Int32} {f : Nat → Int32} : upd (rowI o n F f) (o + n) (F n (f (o + n))) = rowI o (n + 1) F f := funext fun j => by
  by_cases q : j = o + n
  · rw [q, up_s, rowI_in (by omega)]
  · rw [up_o q]
    unfold rowI
    by_cases h : o ≤ j ∧ j < o + n
    · rw [if_pos h, if_pos (by omega)]
    · rw [if_neg h, if_neg (by omega)]
theorem lp_L {L : Nat → Mm → Option Rs} {K : Mm → Option Rs} {μ : Mm} (c o n : Nat) (F : Nat → Int64 → Int64) (step : ∀ i f, i < n → f (o + i) = μ.2 c (o + i) → L i (wL μ c f) = L (i + 1) (wL μ c (vp_updL f (o + i) (F i (μ.2 c (o + i)))))) (last : ∀ f, L n (wL μ c f) = K (wL μ c f)) : L 0 μ = K (wL μ c (rowL o n F (μ.2 c))) := by
  have key : ∀ i, i ≤ n → L 0 μ = L i (wL μ c (rowL o i F (μ.2 c))) := by
    intro i
    induction i with
    | zero => intro _; rw [rowL_0, wL_e]
    | succ i ih =>
      intro hi
      rw [ih (by omega), step i _ (by omega) (rowL_out (by omega)), rowL_s]
  rw [key n (Nat.le_refl n), last]
theorem lp_I {L : Nat → Mm → Option Rs} {K : Mm → Option Rs} {μ : Mm} (c o n : Nat) (F : Nat → Int32 → Int32) (step : ∀ i f, i < n → f (o + i) = μ.1 c (o + i) → L i (sR μ c f) = L (i + 1) (sR μ c (upd f (o + i) (F i (μ.1 c (o + i)))))) (last : ∀ f, L n (sR μ c f) = K (sR μ c f)) : L 0 μ = K (sR μ c (rowI o n F (μ.1 c))) := by
  have key : ∀ i, i ≤ n → L 0 μ = L i (sR μ c (rowI o i F (μ.1 c))) := by
    intro i
    induction i with
    | zero => intro _; rw [rowI_0, sR_id]
    | succ i ih =>
      intro hi
      rw [ih (by omega), step i _ (by omega) (rowI_out (by omega)), rowI_s]
  rw [key n (Nat.le_refl n), last]
/-- rows of a mix -/
def Mx (k : Nat) : Bool := isO k 3 && (decide (sub k 0 = k + 1) && (Nat.ble (shK (k + 1)) 5 && (decide (shN (k + 1) = 19) && (decide (lnQ (k + 1) = 19) && (List.range 19).all fun t => decide (sub (k + 1) t = k + 2 + t) && (decide (shK (k + 2 + t) = 1) && decide (shN (k + 2 + t) = 31))))))
theorem mx_all : ∀ k, k ∈ [72, 93, 114, 136, 157, 178, 201, 222, 244, 276] → Mx k = true := by decide +kernel
theorem mx1 {k : Nat} (hk : Mx k = true) : isO k 3 = true := (Bool.and_eq_true_iff.mp hk).1
theorem mx2 {k : Nat} (hk : Mx k = true) : sub k 0 = k + 1 := of_decide_eq_true (Bool.and_eq_true_iff.mp (Bool.and_eq_true_iff.mp hk).2).1
theorem mx3 {k : Nat} (hk : Mx k = true) : Nat.ble (shK (k + 1)) 5 = true := (Bool.and_eq_true_iff.mp (Bool.and_eq_true_iff.mp (Bool.and_eq_true_iff.mp hk).2).2).1
theorem mx4 {k : Nat} (hk : Mx k = true) : shN (k + 1) = 19 := of_decide_eq_true (Bool.and_eq_true_iff.mp (Bool.and_eq_true_iff.mp (Bool.and_eq_true_iff.mp (Bool.and_eq_true_iff.mp hk).2).2).2).1
theorem mx5 {k : Nat} (hk : Mx k = true) : lnQ (k + 1) = 19 := of_decide_eq_true (Bool.and_eq_true_iff.mp (Bool.and_eq_true_iff.mp (Bool.and_eq_true_iff.mp (Bool.and_eq_true_iff.mp (Bool.and_eq_true_iff.mp hk).2).2).2).2).1
theorem mx6 {k : Nat} (hk : Mx k = true) {t : Nat} (ht : t < 19) : sub (k + 1) t = k + 2 + t ∧ shK (k + 2 + t) = 1 ∧ shN (k + 2 + t) = 31 := by
  have h := (Bool.and_eq_true_iff.mp (Bool.and_eq_true_iff.mp (Bool.and_eq_true_iff.mp (Bool.and_eq_true_iff.mp (Bool.and_eq_true_iff.mp hk).2).2).2).2).2
  have h2 := List.all_eq_true.mp h t (List.mem_range.mpr ht)
  obtain ⟨a, b⟩ := Bool.and_eq_true_iff.mp h2
  obtain ⟨b, c⟩ := Bool.and_eq_true_iff.mp b
  exact ⟨of_decide_eq_true a, of_decide_eq_true b, of_decide_eq_true c⟩
theorem s_Mi_rowOf {k : Nat} (hk : Mx k = true) {t : Nat} (ht : t < 19) (μ : Mm) : m_Mi_rowOf k (nI t) μ = some (some (.ref (k + 2 + t)), μ) := by
  rw [e_Mi_rowOf, gd_h (mx1 hk), bf (nI_lt0 (by omega)), gd_h (mx1 hk), mx2 hk, gd_h (mx3 hk), mx4 hk, bLt ht (by omega), mx5 hk, gi ht (by omega), kl (by omega), (mx6 hk ht).1]
/-- a polynomial isn't 0 -/
def hasB (f : Nat → Int64) : Bool := !decide (degF f 31 < nI 0)
theorem hasB_c (f : Nat → Int64) : (hasB f = true ∧ ∃ d, d < 31 ∧ degF f 31 = nI d) ∨ (hasB f = false ∧ degF f 31 = (-5 : Int32)) := by
  unfold hasB
  rcases degF_spec f 31 with ⟨h, -⟩ | ⟨d, hd, h, -⟩
  · rw [h]
    exact Or.inr ⟨by decide, rfl⟩
  · rw [h, nI_lt0 (by omega)]
    exact Or.inl ⟨rfl, d, hd, rfl⟩
theorem hasB_5 (f : Nat → Int64) : decide (degF f 31 = (-5 : Int32)) = !hasB f := by
  rcases hasB_c f with ⟨h, d, hd, e⟩ | ⟨h, e⟩
  · rw [h, e]
    apply decide_eq_false
    intro q
    have := nI_lt0 (a := d) (by omega)
    rw [q] at this
    exact absurd this (by decide)
  · rw [h, e]
    decide
theorem s_Mi_hasTerm {k : Nat} (hk : Mx k = true) {t : Nat} (ht : t < 19) (μ : Mm) : m_Mi_hasTerm k (nI t) μ = some (some (.int (nI (b2i (hasB (μ.2 (k + 2 + t)))))), μ) := by
  obtain ⟨a, b, c⟩ := mx6 hk ht
  have hh : (isO k 3 && (true && true)) = true := by rw [mx1 hk]; rfl
  rw [e_Mi_hasTerm, gd_h hh, s_Mi_rowOf hk ht, cA_s, s_degree b c (by omega) (by omega), cI_s]
  unfold hasB
  cases decide (degF (μ.2 (k + 2 + t)) 31 < nI 0)
  · exact gd_h isb_1
  · exact gd_h isb_0
theorem s_Mo_degree_3 {c o : Nat} (hc : o + 31 ≤ lnL c) (h2 : lnL c < 2 ^ 31) (μ : Mm) : ∀ i, i < 31 → m_Mo_degree_3 c (nI o) (nI i) μ = some (some (.int (degF (fun k => μ.2 c (o + k)) (i + 1))), μ)
  | 0, h => by
    rw [e_Mo_degree_3, bf (nI_lt0 (by omega)), nI_add, gi (by omega) h2, kl (by omega), lgc_eq, nI_z1]
    show _ = some (some (Value.int (if μ.2 c (o + 0) = lN 0 then (-5 : Int32) else nI 0)), μ)
    by_cases q : μ.2 c (o + 0) = lN 0
    · rw [bt (decide_eq_true q), if_pos q, e_Mo_degree_3, bt d_neg, bt d_neg]
    · rw [bf (decide_eq_false q), if_neg q, bf (nI_lt0 (by omega))]
  | i + 1, h => by
    rw [e_Mo_degree_3, bf (nI_lt0 (by omega)), nI_add, gi (by omega) h2, kl (by omega), lgc_eq, nI_m1]
    show _ = some (some (Value.int (if μ.2 c (o + (i + 1)) = lN 0 then degF (fun k => μ.2 c (o + k)) (i + 1) else nI (i + 1))), μ)
    by_cases q : μ.2 c (o + (i + 1)) = lN 0
    · rw [bt (decide_eq_true q), if_pos q]
      exact s_Mo_degree_3 hc h2 μ i (by omega)
    · rw [bf (decide_eq_false q), if_neg q, bf (nI_lt0 (by omega))]
theorem s_Mo_degree {c o : Nat} (hc : o + 31 ≤ lnL c) (h2 : lnL c < 2 ^ 31) (μ : Mm) : m_Mo_degree c (nI o) μ = some (some (.int (degF (fun k => μ.2 c (o + k)) 31)), μ) := by
  rw [e_Mo_degree, s_Mo_degree_3 hc h2 μ 30 (by omega)]
/-- rows of the class from b on, and the reference's row c, hold the polynomials f -/
def RC (b c : Nat) (f : Nat → Nat → Int64) (μ : Mm) : Prop := ∀ t, t < 19 → ∀ k, k < 31 → μ.2 (b + t) k = f t k ∧ μ.2 c (31 * t + k) = f t k
theorem RC.fr {b c : Nat} {f : Nat → Nat → Int64} {S : Nat → Prop} {μ μ' : Mm} (h : RC b c f μ) (g : Fr S μ μ') (h1 : ∀ k, b ≤ k → k < b + 19 → ¬ S k) (h2 : ¬ S c) : RC b c f μ' := fun t ht k hk => by
  rw [(g _ (h1 _ (by omega) (by omega))).2, (g _ h2).2]
  exact h t ht k hk
theorem hasB_congr {f g : Nat → Int64} (h : ∀ k, k < 31 → f k = g k) : hasB f = hasB g := by
  unfold hasB
  rw [degF_congr 31 h]
/-- how many are not 0 -/
def trm (f : Nat → Nat → Int64) : Nat → Nat → Nat → Nat
  | 0, _, c => c
  | g + 1, t, c => trm f g (t + 1) (if hasB (f t) then c + 1 else c)
def tat (f : Nat → Nat → Int64) (x : Int32) : Nat → Nat → Nat → Option Nat
  | 0, _, _ => none
  | g + 1, c, t => if hasB (f t) then (if nI c = x then some t else tat f x g (c + 1) (t + 1)) else tat f x g c (t + 1)
def oc : Option Nat → Int32
  | none => (-1 : Int32)
  | some t => nI t
theorem tat_s {f : Nat → Nat → Int64} {x : Int32} {u : Nat} : ∀ (g c t : Nat), tat f x g c t = some u → t ≤ u ∧ u < t + g
  | 0, c, t, h => by cases h
  | g + 1, c, t, h => by
    unfold tat at h
    by_cases q : hasB (f t) = true
    · rw [if_pos q] at h
      by_cases q2 : nI c = x
      · rw [if_pos q2] at h
        cases h
        omega
      · rw [if_neg q2] at h
        have := tat_s g (c + 1) (t + 1) h
        omega
    · rw [if_neg q] at h
      have := tat_s g c (t + 1) h
      omega
theorem mx244 : Mx 244 = true := mx_all 244 (by decide)
theorem mx276 : Mx 276 = true := mx_all 276 (by decide)
theorem r1 {f : Nat → Nat → Int64} {μ : Mm} (h : RC 246 327 f μ) {t : Nat} (ht : t < 19) : hasB (μ.2 (246 + t)) = hasB (f t) := hasB_congr fun k hk => (h t ht k hk).1
theorem r2 {f : Nat → Nat → Int64} {μ : Mm} (h : RC 246 327 f μ) {t : Nat} (ht : t < 19) : degF (fun k => μ.2 327 (31 * t + k)) 31 = degF (f t) 31 := degF_congr 31 fun k hk => (h t ht k hk).2
theorem r3 {f : Nat → Nat → Int64} {μ : Mm} (h : RC 246 327 f μ) {t : Nat} (ht : t < 19) : degF (μ.2 (246 + t)) 31 = degF (f t) 31 := degF_congr 31 fun k hk => (h t ht k hk).1
theorem s_Mi_terms_4 {f : Nat → Nat → Int64} {μ : Mm} (h : RC 246 327 f μ) : ∀ (g t c : Nat), t + g = 19 → m_Mi_terms_4 244 (nI c) (nI t) μ = some (some (.int (nI (trm f g t c))), μ)
  | 0, t, c, e => by
    obtain rfl : t = 19 := by omega
    rw [e_Mi_terms_4, gd_h (mx1 mx244), mx2 mx244, gd_h (mx3 mx244), mx4 mx244, bLf (by omega) (by omega)]
    rfl
  | g + 1, t, c, e => by
    have ht : t < 19 := by omega
    have hh : (isO 244 3 && (true && true)) = true := by rw [mx1 mx244]; rfl
    rw [e_Mi_terms_4, gd_h (mx1 mx244), mx2 mx244, gd_h (mx3 mx244), mx4 mx244, bLt ht (by omega), gd_h hh, s_Mi_hasTerm mx244 ht, cI_s, b2i_n, nI_p1, nI_p1, show 244 + 2 + t = 246 + t from rfl, r1 h ht]
    show _ = some (some (Value.int (nI (trm f g (t + 1) (if hasB (f t) then c + 1 else c)))), μ)
    cases hasB (f t)
    · exact s_Mi_terms_4 h g (t + 1) _ (by omega)
    · exact s_Mi_terms_4 h g (t + 1) _ (by omega)
theorem s_Mo_terms_4 {f : Nat → Nat → Int64} {μ : Mm} (h : RC 246 327 f μ) : ∀ (g t c : Nat), t + g = 19 → m_Mo_terms_4 (nI c) (nI t) μ = some (some (.int (nI (trm f g t c))), μ)
  | 0, t, c, e => by
    obtain rfl : t = 19 := by omega
    rw [e_Mo_terms_4, bLf (by omega) (by omega)]
    rfl
  | g + 1, t, c, e => by
    have ht : t < 19 := by omega
    rw [e_Mo_terms_4, bLt ht (by omega), nI_mul, s_Mo_degree (by rw [show lnL 327 = 589 from rfl]; omega) (by decide), cI_s, Nat.mul_comm, r2 h ht, hasB_5, nI_p1, nI_p1, nI_add]
    show _ = some (some (Value.int (nI (trm f g (t + 1) (if hasB (f t) then c + 1 else c)))), μ)
    cases hasB (f t)
    · exact s_Mo_terms_4 h g (t + 1) _ (by omega)
    · exact s_Mo_terms_4 h g (t + 1) _ (by omega)
theorem s_Mi_terms {f : Nat → Nat → Int64} {μ : Mm} (h : RC 246 327 f μ) : m_Mi_terms 244 μ = some (some (.int (nI (trm f 19 0 0))), μ) := by
  rw [e_Mi_terms, s_Mi_terms_4 h 19 0 0 rfl]
theorem s_Mo_terms {f : Nat → Nat → Int64} {μ : Mm} (h : RC 246 327 f μ) : m_Mo_terms μ = some (some (.int (nI (trm f 19 0 0))), μ) := by
  rw [e_Mo_terms, s_Mo_terms_4 h 19 0 0 rfl]
theorem s_Mi_termAt_4 {f : Nat → Nat → Int64} {μ : Mm} (h : RC 246 327 f μ) (x : Int32) : ∀ (g t c : Nat), t + g = 19 → m_Mi_termAt_4 244 x (nI c) (nI t) μ = some (some (.int (oc (tat f x g c t))), μ)
  | 0, t, c, e => by
    obtain rfl : t = 19 := by omega
    rw [e_Mi_termAt_4, gd_h (mx1 mx244), mx2 mx244, gd_h (mx3 mx244), mx4 mx244, bLf (by omega) (by omega)]
    rfl
  | g + 1, t, c, e => by
    have ht : t < 19 := by omega
    have hh : (isO 244 3 && (true && true)) = true := by rw [mx1 mx244]; rfl
    rw [e_Mi_termAt_4, gd_h (mx1 mx244), mx2 mx244, gd_h (mx3 mx244), mx4 mx244, bLt ht (by omega), gd_h hh, s_Mi_hasTerm mx244 ht, cI_s, b2i_n, nI_p1, nI_p1, show 244 + 2 + t = 246 + t from rfl, r1 h ht]
    unfold tat
    cases hasB (f t)
    · exact s_Mi_termAt_4 h x g (t + 1) _ (by omega)
    · by_cases q : nI c = x
      · rw [bt (decide_eq_true q), if_pos q]
        rfl
      · rw [bf (decide_eq_false q), if_neg q]
        exact s_Mi_termAt_4 h x g (t + 1) _ (by omega)
theorem s_Mo_typeOf_4 {f : Nat → Nat → Int64} {μ : Mm} (h : RC 246 327 f μ) (x : Int32) : ∀ (g t c : Nat), t + g = 19 → m_Mo_typeOf_4 x (nI c) (nI t) μ = some (some (.int (oc (tat f x g c t))), μ)
  | 0, t, c, e => by
    obtain rfl : t = 19 := by omega
    rw [e_Mo_typeOf_4, bLf (by omega) (by omega)]
    rfl
  | g + 1, t, c, e => by
    have ht : t < 19 := by omega
    rw [e_Mo_typeOf_4, bLt ht (by omega), nI_mul, s_Mo_degree (by rw [show lnL 327 = 589 from rfl]; omega) (by decide), cI_s, Nat.mul_comm, r2 h ht, hasB_5, nI_p1, nI_p1]
    unfold tat
    cases hasB (f t)
    · exact s_Mo_typeOf_4 h x g (t + 1) _ (by omega)
    · by_cases q : nI c = x
      · rw [bt (decide_eq_true q), if_pos q]
        rfl
      · rw [bf (decide_eq_false q), if_neg q]
        exact s_Mo_typeOf_4 h x g (t + 1) _ (by omega)
/-- promise 27: term -/
theorem both_term {f : Nat → Nat → Int64} {μ : Mm} (h : RC 246 327 f μ) (hT : MT μ) (x y : Int32) : ∃ r, m_TI_term x y μ = some (some (.int r), μ) ∧ m_Mo_term x y μ = some (some (.int r), μ) := by
  rw [e_TI_term, e_Mo_term, e_Mi_termAt, e_Mo_typeOf, s_Mi_termAt_4 h x 19 0 0 rfl, s_Mo_typeOf_4 h x 19 0 0 rfl, cI_s, cI_s]
  cases e : tat f x 19 0 0 with
  | none => exact ⟨_, rfl, rfl⟩
  | some t =>
    have ht : t < 19 := by have := tat_s _ _ _ e; omega
    rw [show oc (some t) = nI t from rfl]
    show ∃ r, (bif decide (nI t < nI 0) then _ else _) = _ ∧ (bif decide (nI t = (-1 : Int32)) then _ else _) = _
    rw [bf (nI_lt0 (by omega)), bf (d_e1 (by omega)), s_Mo_in, cI_s, b2i_n, l_lt _ _ (by omega), l_gt _ _ (by omega)]
    rcases i_cases y with hy | ⟨n, hn, rfl⟩
    · rw [decide_eq_true hy]
      exact ⟨_, rfl, rfl⟩
    · rw [nI_lt0 hn, d_lt (by omega) hn, d_eq hn (by omega)]
      by_cases q : 1 < n
      · rw [decide_eq_true q]
        exact ⟨_, rfl, rfl⟩
      · rw [decide_eq_false q]
        by_cases q0 : n = 0
        · rw [decide_eq_true q0]
          refine ⟨nI (numN t), ?_, ?_⟩
          · show cI (m_Ty_number (nI t) μ) _ = _
            rw [s_Ty_number ht, cI_s]
          · show gd (inb (nI t) 19) _ = _
            rw [gi ht (by omega), kl (by omega), hT.1 t ht]
        · rw [decide_eq_false q0]
          refine ⟨degF (f t) 31, ?_, ?_⟩
          · show cA (m_Mi_rowOf 244 (nI t) μ) _ = _
            obtain ⟨a, b, c⟩ := mx6 mx244 ht
            rw [s_Mi_rowOf mx244 ht, cA_s, s_degree b c (by omega) (by omega), cI_s, show 244 + 2 + t = 246 + t from rfl, r3 h ht]
          · show cI (m_Mo_degree 327 (nI t * nI 31) μ) _ = _
            rw [nI_mul, s_Mo_degree (by rw [show lnL 327 = 589 from rfl]; omega) (by decide), cI_s, Nat.mul_comm, r2 h ht]
theorem s_partOf_n {k n j : Nat} (hk : shK k = 1) (hn : shN k = n) (hN : n < 2 ^ 31) (hj : j < 2 ^ 31) (μ : Mm) : m_Po_partOf k (nI j) μ = some (some (.long (cut n (μ.2 k) j)), μ) := by
  rw [e_Po_partOf, bf (d_e1 hj), bf (nI_lt0 hj), gd_h (bl5 hk), hn]
  unfold cut
  by_cases q : j < n
  · rw [bLt q hN, lnL_of hk, hn, gi q hN, kl hj, if_pos q]
  · rw [bLf (by omega) hj, if_neg q]
/-- promise 28: coefficient -/
theorem both_coefficient {f : Nat → Nat → Int64} {μ : Mm} (h : RC 246 327 f μ) (x y : Int32) : ∃ r, m_TI_coefficient x y μ = some (some (.long r), μ) ∧ m_Mo_coefficient x y μ = some (some (.long r), μ) := by
  rw [e_TI_coefficient, e_Mo_coefficient, e_Mi_termAt, e_Mo_typeOf, s_Mi_termAt_4 h x 19 0 0 rfl, s_Mo_typeOf_4 h x 19 0 0 rfl, cI_s, cI_s]
  cases e : tat f x 19 0 0 with
  | none => exact ⟨_, rfl, rfl⟩
  | some t =>
    have ht : t < 19 := by have := tat_s _ _ _ e; omega
    rw [show oc (some t) = nI t from rfl]
    show ∃ r, (bif decide (nI t < nI 0) then _ else _) = _ ∧ (bif decide (nI t = (-1 : Int32)) then _ else _) = _
    rw [bf (nI_lt0 (by omega)), bf (d_e1 (by omega)), s_Mo_in, cI_s, b2i_n, l_lt _ _ (by omega), l_gt _ _ (by omega)]
    rcases i_cases y with hy | ⟨n, hn, rfl⟩
    · rw [decide_eq_true hy]
      exact ⟨_, rfl, rfl⟩
    · rw [nI_lt0 hn, d_lt (by omega) hn, d_lt hn (by omega)]
      by_cases q : 30 < n
      · rw [decide_eq_true q, decide_eq_false (show ¬ n < 31 by omega)]
        exact ⟨_, rfl, rfl⟩
      · obtain ⟨a, b, c⟩ := mx6 mx244 ht
        rw [decide_eq_false q, decide_eq_true (show n < 31 by omega)]
        refine ⟨f t n, ?_, ?_⟩
        · show cA (m_Mi_rowOf 244 (nI t) μ) _ = _
          rw [s_Mi_rowOf mx244 ht, cA_s, s_partOf_n b c (by omega) hn, cJ_s, show 244 + 2 + t = 246 + t from rfl]
          unfold cut
          rw [if_pos (by omega), (h t ht n (by omega)).1]
        · show gd (inb (nI t * nI 31 + nI n) 589) _ = _
          rw [nI_mul, nI_add, gi (by omega) (by omega), kl (by omega), Nat.mul_comm t 31, (h t ht n (by omega)).2]
