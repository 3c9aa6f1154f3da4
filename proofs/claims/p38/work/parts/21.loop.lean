/-! loops; terms of a sum: both sides -/
theorem gi {i n : Nat} {x : Option Rs} (h : i < n) (hn : n < 2 ^ 31) : gd (inb (nI i) n) x = x := gd_h (inb_n h hn)
theorem bLt {α : Sort _} {a b : Nat} {x y : α} (h : a < b) (hb : b < 2 ^ 31) : (bif decide (nI a < nI b) then x else y) = x := bt (by rw [d_lt (by omega) hb]; exact decide_eq_true h)
theorem bLf {α : Sort _} {a b : Nat} {x y : α} (h : b ≤ a) (ha : a < 2 ^ 31) : (bif decide (nI a < nI b) then x else y) = y := bf (by rw [d_lt ha (by omega)]; exact decide_eq_false (by omega))
theorem bEt {α : Sort _} {a b : Nat} {x y : α} (h : a = b) : (bif decide (nI a = nI b) then x else y) = x := bt (decide_eq_true (by rw [h]))
theorem bEf {α : Sort _} {a b : Nat} {x y : α} (h : ¬ a = b) (ha : a < 2 ^ 31) (hb : b < 2 ^ 31) : (bif decide (nI a = nI b) then x else y) = y := bf (by rw [d_eq ha hb]; exact decide_eq_false h)
theorem kl {a : Nat} (h : a < 2 ^ 31) : (nI a).toNatClampNeg = a := nI_clamp h
/-- a polynomial isn't 0 -/
def hasB (f : Nat → Int64) : Bool := !decide (degF f 31 < nI 0)
/-- rows of the class from b on, and the reference's row c, hold the polynomials f -/
def RC (b c : Nat) (f : Nat → Nat → Int64) (μ : Mm) : Prop := ∀ t, t < 19 → ∀ k, k < 31 → μ.2 (b + t) k = f t k ∧ μ.2 c (31 * t + k) = f t k
theorem RC.fr {b c : Nat} {f : Nat → Nat → Int64} {S : Nat → Prop} {μ μ' : Mm} (h : RC b c f μ) (g : Fr S μ μ') (h1 : ∀ k, b ≤ k → k < b + 19 → ¬ S k) (h2 : ¬ S c) : RC b c f μ' := fun t ht k hk => by
  rw [(g _ (h1 _ (by omega) (by omega))).2, (g _ h2).2]
  exact h t ht k hk
theorem hasB_congr {f g : Nat → Int64} (h : ∀ k, k < 31 → f k = g k) : hasB f = hasB g := by
  unfold hasB
  rw [degF_congr 31 h]
def oc : Option Nat → Int32
  | none => (-1 : Int32)
  | some t => nI t
theorem r1 {f : Nat → Nat → Int64} {μ : Mm} (h : RC 246 327 f μ) {t : Nat} (ht : t < 19) : hasB (μ.2 (246 + t)) = hasB (f t) := hasB_congr fun k hk => (h t ht k hk).1
theorem r2 {f : Nat → Nat → Int64} {μ : Mm} (h : RC 246 327 f μ) {t : Nat} (ht : t < 19) : degF (fun k => μ.2 327 (31 * t + k)) 31 = degF (f t) 31 := degF_congr 31 fun k hk => (h t ht k hk).2
theorem r3 {f : Nat → Nat → Int64} {μ : Mm} (h : RC 246 327 f μ) {t : Nat} (ht : t < 19) : degF (μ.2 (246 + t)) 31 = degF (f t) 31 := degF_congr 31 fun k hk => (h t ht k hk).1
theorem s_partOf_n {k n j : Nat} (hk : shK k = 1) (hn : shN k = n) (hN : n < 2 ^ 31) (hj : j < 2 ^ 31) (μ : Mm) : m_Po_partOf k (nI j) μ = some (some (.long (cut n (μ.2 k) j)), μ) := by
  rw [e_Po_partOf, bf (d_e1 hj), bf (nI_lt0 hj), gd_h (bl5 hk), hn]
  unfold cut
  by_cases q : j < n
  · rw [bLt q hN, lnL_of hk, hn, gi q hN, kl hj, if_pos q]
  · rw [bLf (by omega) hj, if_neg q]
