/-! series over the longs; lists of whole numbers for polynomials -/
def sm (F : Nat → Int64) : Nat → Int64
  | 0 => lN 0
  | n + 1 => sm F n + F n
theorem l_a0 (x : Int64) : x + lN 0 = x := Int64.add_zero x
theorem l_0a (x : Int64) : lN 0 + x = x := Int64.zero_add x
theorem cv_sm (q p : Nat → Int64) (k : Nat) : ∀ m, cv q p k m = sm (fun j => q j * p (k - j)) m
  | 0 => rfl
  | m + 1 => by
    show cv q p k m + q m * p (k - m) = sm _ m + q m * p (k - m)
    rw [cv_sm q p k m]
theorem sm_congr {F G : Nat → Int64} : ∀ n, (∀ j, j < n → F j = G j) → sm F n = sm G n
  | 0, _ => rfl
  | n + 1, h => by
    show sm F n + F n = sm G n + G n
    rw [sm_congr n (fun j hj => h j (by omega)), h n (by omega)]
theorem sm_head (F : Nat → Int64) : ∀ n, sm F (n + 1) = F 0 + sm (fun j => F (j + 1)) n
  | 0 => by
    show lN 0 + F 0 = F 0 + lN 0
    rw [l_a0, l_0a]
  | n + 1 => by
    show sm F (n + 1) + F (n + 1) = F 0 + (sm (fun j => F (j + 1)) n + F (n + 1))
    rw [sm_head F n, Int64.add_assoc]
theorem sm_rev (F : Nat → Int64) : ∀ n, sm (fun j => F (n - j)) (n + 1) = sm F (n + 1)
  | 0 => rfl
  | n + 1 => by
    rw [sm_head]
    show F (n + 1 - 0) + _ = sm F (n + 1) + F (n + 1)
    rw [← sm_rev F n, Int64.add_comm]
    congr 1
    exact sm_congr _ (fun j hj => by rw [show n + 1 - (j + 1) = n - j by omega])
theorem pmul_sm (q p : Nat → Int64) (k : Nat) : pmul q p k = sm (fun j => q j * p (k - j)) (k + 1) := cv_sm q p k (k + 1)
theorem pmul_congr {q q' p p' : Nat → Int64} {k : Nat} (h1 : ∀ j, j ≤ k → q j = q' j) (h2 : ∀ j, j ≤ k → p j = p' j) : pmul q p k = pmul q' p' k := cv_congr (k + 1) (Nat.le_refl _) (fun j hj => h1 j (by omega)) h2
theorem pmul_comm (q p : Nat → Int64) (k : Nat) : pmul q p k = pmul p q k := by
  rw [pmul_sm, pmul_sm, ← sm_rev]
  exact sm_congr _ (fun j hj => by rw [show k - (k - j) = j by omega, Int64.mul_comm])
theorem pmul_0l (p : Nat → Int64) (k : Nat) : pmul (fun _ => lN 0) p k = lN 0 := cv_zero (fun t _ => l0_mul _)
/-- lists for polynomials -/
def rp (A : List Int) (k : Nat) : Int64 := Int64.ofInt (A.getD k 0)
def addP : List Int → List Int → List Int
  | [], B => B
  | A, [] => A
  | a :: A, b :: B => (a + b) :: addP A B
def scaP (x : Int) (A : List Int) : List Int := A.map (x * ·)
def mulP : List Int → List Int → List Int
  | [], _ => []
  | a :: A, B => addP (scaP a B) (0 :: mulP A B)
def shP (b : Nat) (A : List Int) : List Int := List.replicate b 0 ++ A
def eqP (A B : List Int) : Bool := (List.range 31).all fun k => decide (A.getD k 0 = B.getD k 0)
theorem i64_0 : Int64.ofInt 0 = lN 0 := by decide
theorem rp_nil (k : Nat) : rp [] k = lN 0 := i64_0
theorem rp_0 (a : Int) (A : List Int) : rp (a :: A) 0 = Int64.ofInt a := rfl
theorem rp_s (a : Int) (A : List Int) (k : Nat) : rp (a :: A) (k + 1) = rp A k := rfl
theorem rp_add : ∀ (A B : List Int) (k : Nat), rp (addP A B) k = rp A k + rp B k
  | [], B, k => by rw [rp_nil, l_0a]; rfl
  | a :: A, [], k => by rw [rp_nil, l_a0]; rfl
  | a :: A, b :: B, 0 => Int64.ofInt_add a b
  | a :: A, b :: B, k + 1 => rp_add A B k
theorem rp_sca (x : Int) : ∀ (A : List Int) (k : Nat), rp (scaP x A) k = Int64.ofInt x * rp A k
  | [], k => by
    show rp [] k = _
    rw [rp_nil, mul_l0]
  | a :: A, 0 => Int64.ofInt_mul x a
  | a :: A, k + 1 => rp_sca x A k
theorem rp_mul : ∀ (A B : List Int) (k : Nat), rp (mulP A B) k = pmul (rp A) (rp B) k
  | [], B, k => by
    show rp [] k = _
    rw [rp_nil, ← pmul_0l (rp B) k]
    exact pmul_congr (fun j _ => (rp_nil j).symm) (fun _ _ => rfl)
  | a :: A, B, 0 => by
    show rp (addP (scaP a B) (0 :: mulP A B)) 0 = lN 0 + Int64.ofInt a * rp B 0
    rw [rp_add, rp_sca, rp_0, i64_0, l_a0, l_0a]
  | a :: A, B, k + 1 => by
    show rp (addP (scaP a B) (0 :: mulP A B)) (k + 1) = _
    rw [rp_add, rp_sca, rp_s, rp_mul A B k, pmul_sm, pmul_sm, sm_head _ (k + 1)]
    congr 1
    exact sm_congr _ (fun j hj => by rw [rp_s, show k + 1 - (j + 1) = k - j by omega])
theorem rp_sh (b : Nat) (A : List Int) (j : Nat) : rp (shP b A) j = if b ≤ j then rp A (j - b) else lN 0 := by
  induction b generalizing j with
  | zero => rw [if_pos (Nat.zero_le j)]; rfl
  | succ b ih =>
    cases j with
    | zero => rw [if_neg (by omega)]; exact i64_0
    | succ j =>
      show rp (shP b A) j = _
      rw [ih j, show j + 1 - (b + 1) = j - b by omega]
      by_cases q : b ≤ j
      · rw [if_pos q, if_pos (by omega)]
      · rw [if_neg q, if_neg (by omega)]
theorem rp_eq {A B : List Int} (h : eqP A B = true) {k : Nat} (hk : k < 31) : rp A k = rp B k := by
  have := List.all_eq_true.mp h k (List.mem_range.mpr hk)
  unfold rp
  rw [of_decide_eq_true this]
