/-! computing with the equations: small laws -/
theorem gd_h {b : Bool} {x : Option Rs} (h : b = true) : gd b x = x := by rw [h]; rfl
theorem cV_s {μ : Mm} {k : Mm → Option Rs} : cV (some (none, μ)) k = k μ := rfl
theorem cI_s {x : Int32} {μ : Mm} {k : Int32 → Mm → Option Rs} : cI (some (some (.int x), μ)) k = k x μ := rfl
theorem cJ_s {x : Int64} {μ : Mm} {k : Int64 → Mm → Option Rs} : cJ (some (some (.long x), μ)) k = k x μ := rfl
theorem cA_s {x : Nat} {μ : Mm} {k : Nat → Mm → Option Rs} : cA (some (some (.ref x), μ)) k = k x μ := rfl
theorem bt {α : Sort _} {b : Bool} {x y : α} (h : b = true) : (bif b then x else y) = x := by rw [h]; rfl
theorem bf {α : Sort _} {b : Bool} {x y : α} (h : b = false) : (bif b then x else y) = y := by rw [h]; rfl
theorem isb_0 : isb (nI 0) = true := by decide
theorem isb_1 : isb (nI 1) = true := by decide
theorem inb_n {i n : Nat} (h : i < n) (hn : n < 2 ^ 31) : inb (nI i) n = true := by
  have := vp_in_nI h hn
  simpa [inb, vp_in] using this
theorem d_lt {a b : Nat} (ha : a < 2 ^ 31) (hb : b < 2 ^ 31) : decide (nI a < nI b) = decide (a < b) := by
  by_cases h : a < b
  · rw [decide_eq_true h, decide_eq_true ((nI_ltI ha hb).mpr h)]
  · rw [decide_eq_false h, decide_eq_false (fun q => h ((nI_ltI ha hb).mp q))]
theorem d_eq {a b : Nat} (ha : a < 2 ^ 31) (hb : b < 2 ^ 31) : decide (nI a = nI b) = decide (a = b) := by
  by_cases h : a = b
  · rw [decide_eq_true h, decide_eq_true (by rw [h])]
  · rw [decide_eq_false h, decide_eq_false (fun q => h ((nI_eq ha hb).mp q))]
theorem d_e1 {a : Nat} (ha : a < 2 ^ 31) : decide (nI a = (-1 : Int32)) = false := by
  apply decide_eq_false
  intro q
  have h := congrArg Int32.toInt q
  rw [nI_toInt ha] at h
  have : (-1 : Int32).toInt = -1 := by decide
  omega
theorem nI_p1 (a : Nat) : nI a + nI 1 = nI (a + 1) := nI_add a 1
theorem nI_m1 {a : Nat} : nI (a + 1) + (-1 : Int32) = nI a := by
  rw [show (-1 : Int32) = -nI 1 from by decide, ← Int32.sub_eq_add_neg]
  exact nI_pred a
theorem nI_z1 : nI 0 + (-1 : Int32) = (-1 : Int32) := by decide
theorem d_neg : decide ((-1 : Int32) < nI 0) = true := by decide
theorem nI_sub {a b : Nat} (h : b ≤ a) : nI a - nI b = nI (a - b) := by
  obtain ⟨c, rfl⟩ := Nat.exists_eq_add_of_le h
  rw [Nat.add_sub_cancel_left, ← nI_add, Int32.add_comm, Int32.add_sub_cancel]
theorem nI_mul (a b : Nat) : nI a * nI b = nI (a * b) := by
  simp [nI, Int32.ofNat_mul]
theorem nI_div {a b : Nat} (ha : a < 2 ^ 31) (hb : b < 2 ^ 31) : nI a / nI b = nI (a / b) := by
  apply Int32.toInt_inj.mp
  rw [Int32.toInt_div_of_ne_left, nI_toInt ha, nI_toInt hb, nI_toInt (Nat.lt_of_le_of_lt (Nat.div_le_self a b) ha)]
  · rfl
  · intro q
    have := congrArg Int32.toInt q
    rw [nI_toInt ha] at this
    have h : Int32.minValue.toInt = -2147483648 := by decide
    omega
theorem nI_rem {a b : Nat} (ha : a < 2 ^ 31) (hb : b < 2 ^ 31) : nI a - nI a / nI b * nI b = nI (a % b) := by
  rw [nI_div ha hb, nI_mul, nI_sub (Nat.div_mul_le_self a b)]
  congr 1
  have := Nat.div_add_mod a b
  rw [Nat.mul_comm] at this
  omega
theorem lgc_lt {x y : Int64} : decide (lg_cmp x y < nI 0) = decide (x < y) := by
  unfold lg_cmp
  by_cases h : x > y
  · rw [if_pos h, decide_eq_false (show ¬ x < y from Int64.not_lt.mpr (Int64.le_of_lt h))]; decide
  · rw [if_neg h]
    by_cases e : x = y
    · rw [if_pos e, e, decide_eq_false (Int64.lt_irrefl)]; decide
    · rw [if_neg e, decide_eq_true (Int64.lt_of_le_of_ne (Int64.not_lt.mp h) e)]; decide
theorem lgc_gt {x y : Int64} : decide (nI 0 < lg_cmp x y) = decide (y < x) := by
  unfold lg_cmp
  by_cases h : x > y
  · rw [if_pos h, decide_eq_true (show y < x from h)]; decide
  · rw [if_neg h, decide_eq_false (show ¬ y < x from h)]
    by_cases e : x = y
    · rw [if_pos e]; decide
    · rw [if_neg e]; decide
theorem lgc_eq {x y : Int64} : decide (lg_cmp x y = nI 0) = decide (x = y) := by
  unfold lg_cmp
  by_cases h : x > y
  · rw [if_pos h, decide_eq_false (show ¬ x = y from fun e => by rw [e] at h; exact Int64.lt_irrefl h)]; decide
  · rw [if_neg h]
    by_cases e : x = y
    · rw [if_pos e, decide_eq_true e]; decide
    · rw [if_neg e, decide_eq_false e]; decide
theorem ne10 : (!decide (nI 10 = 0)) = true := by decide
theorem ne2 : (!decide (nI 2 = 0)) = true := by decide
/-- the numbers of the types -/
def numN (t : Nat) : Nat := ([0, 1, 2, 11, 3, 21, 111, 4, 31, 22, 211, 1111, 5, 41, 32, 311, 221, 2111, 11111] : List Nat).getD t 0
theorem nums_n (t : Nat) : nums t = nI (numN t) := by
  rcases Nat.lt_or_ge t 19 with h | h
  · revert t
    decide
  · have a : numL[t]? = none := List.getElem?_eq_none (show 19 ≤ t from h)
    have b : ([0, 1, 2, 11, 3, 21, 111, 4, 31, 22, 211, 1111, 5, 41, 32, 311, 221, 2111, 11111] : List Nat)[t]? = none := List.getElem?_eq_none (show 19 ≤ t from h)
    unfold nums numN List.getD
    rw [a, b]
    rfl
theorem numN_lt (t : Nat) : numN t < 100000 := by
  rcases Nat.lt_or_ge t 19 with h | h
  · revert t
    decide
  · have b : ([0, 1, 2, 11, 3, 21, 111, 4, 31, 22, 211, 1111, 5, 41, 32, 311, 221, 2111, 11111] : List Nat)[t]? = none := List.getElem?_eq_none (show 19 ≤ t from h)
    unfold numN List.getD
    rw [b]
    decide
theorem numN_inj0 : ∀ t, t < 19 → ∀ u, u < 19 → numN t = numN u → t = u := by decide +kernel
theorem numN_inj {t u : Nat} (ht : t < 19) (hu : u < 19) (h : numN t = numN u) : t = u := numN_inj0 t ht u hu h

