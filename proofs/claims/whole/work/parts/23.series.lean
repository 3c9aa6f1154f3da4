/-! series over the longs; lists of whole numbers for polynomials -/
def sm (F : Nat → Int64) : Nat → Int64
  | 0 => lN 0
  | n + 1 => sm F n + F n
theorem l_a0 (x : Int64) : x + lN 0 = x := Int64.add_zero x
theorem l_0a (x : Int64) : lN 0 + x = x := Int64.zero_add x
theorem l_ac (a b c d : Int64) : (a + b) + (c + d) = (a + c) + (b + d) := by
  rw [Int64.add_assoc, Int64.add_assoc, ← Int64.add_assoc b, Int64.add_comm b c, Int64.add_assoc c]
theorem cv_sm (q p : Nat → Int64) (k : Nat) : ∀ m, cv q p k m = sm (fun j => q j * p (k - j)) m
  | 0 => rfl
  | m + 1 => by
    show cv q p k m + q m * p (k - m) = sm _ m + q m * p (k - m)
    rw [cv_sm q p k m]
theorem sm_congr {F G : Nat → Int64} : ∀ n, (∀ j, j < n → F j = G j) → sm F n = sm G n
  | 0, _ => rfl
  | n + 1, h => by
    show sm F n + F n = sm G n + G n
    rw [sm_congr n (fun j hj => h j (by omega)), h n (by omega)]
theorem sm_add (F G : Nat → Int64) : ∀ n, sm (fun j => F j + G j) n = sm F n + sm G n
  | 0 => (l_a0 _).symm
  | n + 1 => by
    show sm (fun j => F j + G j) n + (F n + G n) = (sm F n + F n) + (sm G n + G n)
    rw [sm_add F G n, l_ac]
theorem sm_mul (x : Int64) (F : Nat → Int64) : ∀ n, x * sm F n = sm (fun j => x * F j) n
  | 0 => Int64.mul_zero
  | n + 1 => by
    show x * (sm F n + F n) = sm (fun j => x * F j) n + x * F n
    rw [Int64.mul_add, sm_mul x F n]
theorem sm_mulr (x : Int64) (F : Nat → Int64) (n : Nat) : sm F n * x = sm (fun j => F j * x) n := by
  rw [Int64.mul_comm, sm_mul]
  exact sm_congr n (fun j _ => Int64.mul_comm _ _)
theorem sm_head (F : Nat → Int64) : ∀ n, sm F (n + 1) = F 0 + sm (fun j => F (j + 1)) n
  | 0 => by
    show lN 0 + F 0 = F 0 + lN 0
    rw [l_a0, l_0a]
  | n + 1 => by
    show sm F (n + 1) + F (n + 1) = F 0 + (sm (fun j => F (j + 1)) n + F (n + 1))
    rw [sm_head F n, Int64.add_assoc]
theorem sm_rev (F : Nat → Int64) : ∀ n, sm (fun j => F (n - j)) (n + 1) = sm F (n + 1)
  | 0 => rfl
  | n + 1 => by
    rw [sm_head]
    show F (n + 1 - 0) + _ = sm F (n + 1) + F (n + 1)
    rw [← sm_rev F n, Int64.add_comm]
    congr 1
    exact sm_congr _ (fun j hj => by rw [show n + 1 - (j + 1) = n - j by omega])
theorem sm_tri (F : Nat → Nat → Int64) : ∀ n, sm (fun i => sm (F i) (n - i + 1)) (n + 1) = sm (fun k => sm (fun i => F i (k - i)) (k + 1)) (n + 1)
  | 0 => rfl
  | n + 1 => by
    show sm (fun i => sm (F i) (n + 1 - i + 1)) (n + 1) + sm (F (n + 1)) (n + 1 - (n + 1) + 1) = sm (fun k => sm (fun i => F i (k - i)) (k + 1)) (n + 1) + (sm (fun i => F i (n + 1 - i)) (n + 1) + F (n + 1) (n + 1 - (n + 1)))
    rw [← sm_tri F n, Nat.sub_self]
    have h1 : sm (fun i => sm (F i) (n + 1 - i + 1)) (n + 1) = sm (fun i => sm (F i) (n - i + 1) + F i (n + 1 - i)) (n + 1) := sm_congr _ (fun i hi => by
      rw [show n + 1 - i + 1 = (n - i + 1) + 1 by omega]
      show sm (F i) (n - i + 1) + F i (n - i + 1) = _
      rw [show n - i + 1 = n + 1 - i by omega])
    rw [h1, sm_add, Int64.add_assoc]
    show _ + (_ + (lN 0 + F (n + 1) 0)) = _
    rw [l_0a]
theorem pmul_sm (q p : Nat → Int64) (k : Nat) : pmul q p k = sm (fun j => q j * p (k - j)) (k + 1) := cv_sm q p k (k + 1)
theorem pmul_congr {q q' p p' : Nat → Int64} {k : Nat} (h1 : ∀ j, j ≤ k → q j = q' j) (h2 : ∀ j, j ≤ k → p j = p' j) : pmul q p k = pmul q' p' k := cv_congr (k + 1) (Nat.le_refl _) (fun j hj => h1 j (by omega)) h2
theorem pmul_comm (q p : Nat → Int64) (k : Nat) : pmul q p k = pmul p q k := by
  rw [pmul_sm, pmul_sm, ← sm_rev]
  exact sm_congr _ (fun j hj => by rw [show k - (k - j) = j by omega, Int64.mul_comm])
theorem pmul_assoc (a b c : Nat → Int64) (k : Nat) : pmul (pmul a b) c k = pmul a (pmul b c) k := by
  have h1 : pmul (pmul a b) c k = sm (fun i => sm (fun j => a j * (b (i - j) * c (k - i))) (i + 1)) (k + 1) := by
    rw [pmul_sm]
    refine sm_congr _ (fun i hi => ?_)
    rw [pmul_sm, sm_mulr]
    exact sm_congr _ (fun j _ => Int64.mul_assoc _ _ _)
  have h2 : pmul a (pmul b c) k = sm (fun i => sm (fun l => a i * (b l * c (k - i - l))) (k - i + 1)) (k + 1) := by
    rw [pmul_sm]
    refine sm_congr _ (fun i hi => ?_)
    rw [pmul_sm, sm_mul]
  rw [h1, h2, sm_tri (fun i l => a i * (b l * c (k - i - l))) k]
  refine sm_congr _ (fun i hi => sm_congr _ (fun j hj => ?_))
  rw [show k - j - (i - j) = k - i by omega]
theorem pmul_add (a b c : Nat → Int64) (k : Nat) : pmul a (fun j => b j + c j) k = pmul a b k + pmul a c k := by
  rw [pmul_sm, pmul_sm, pmul_sm, ← sm_add]
  exact sm_congr _ (fun j _ => Int64.mul_add)
theorem pmul_0l (p : Nat → Int64) (k : Nat) : pmul (fun _ => lN 0) p k = lN 0 := cv_zero (fun t _ => l0_mul _)
/-- lists for polynomials -/
def rp (A : List Int) (k : Nat) : Int64 := Int64.ofInt (A.getD k 0)
def addP : List Int → List Int → List Int
  | [], B => B
  | A, [] => A
  | a :: A, b :: B => (a + b) :: addP A B
def scaP (x : Int) (A : List Int) : List Int := A.map (x * ·)
def mulP : List Int → List Int → List Int
  | [], _ => []
  | a :: A, B => addP (scaP a B) (0 :: mulP A B)
def shP (b : Nat) (A : List Int) : List Int := List.replicate b 0 ++ A
def eqP (A B : List Int) : Bool := (List.range 31).all fun k => decide (A.getD k 0 = B.getD k 0)
theorem i64_0 : Int64.ofInt 0 = lN 0 := by decide
theorem rp_nil (k : Nat) : rp [] k = lN 0 := i64_0
theorem rp_0 (a : Int) (A : List Int) : rp (a :: A) 0 = Int64.ofInt a := rfl
theorem rp_s (a : Int) (A : List Int) (k : Nat) : rp (a :: A) (k + 1) = rp A k := rfl
theorem rp_add : ∀ (A B : List Int) (k : Nat), rp (addP A B) k = rp A k + rp B k
  | [], B, k => by rw [rp_nil, l_0a]; rfl
  | a :: A, [], k => by rw [rp_nil, l_a0]; rfl
  | a :: A, b :: B, 0 => Int64.ofInt_add a b
  | a :: A, b :: B, k + 1 => rp_add A B k
theorem rp_sca (x : Int) : ∀ (A : List Int) (k : Nat), rp (scaP x A) k = Int64.ofInt x * rp A k
  | [], k => by
    show rp [] k = _
    rw [rp_nil, mul_l0]
  | a :: A, 0 => Int64.ofInt_mul x a
  | a :: A, k + 1 => rp_sca x A k
theorem rp_mul : ∀ (A B : List Int) (k : Nat), rp (mulP A B) k = pmul (rp A) (rp B) k
  | [], B, k => by
    show rp [] k = _
    rw [rp_nil, ← pmul_0l (rp B) k]
    exact pmul_congr (fun j _ => (rp_nil j).symm) (fun _ _ => rfl)
  | a :: A, B, 0 => by
    show rp (addP (scaP a B) (0 :: mulP A B)) 0 = lN 0 + Int64.ofInt a * rp B 0
    rw [rp_add, rp_sca, rp_0, i64_0, l_a0, l_0a]
  | a :: A, B, k + 1 => by
    show rp (addP (scaP a B) (0 :: mulP A B)) (k + 1) = _
    rw [rp_add, rp_sca, rp_s, rp_mul A B k, pmul_sm, pmul_sm, sm_head _ (k + 1)]
    congr 1
    exact sm_congr _ (fun j hj => by rw [rp_s, show k + 1 - (j + 1) = k - j by omega])
theorem rp_sh (b : Nat) (A : List Int) (j : Nat) : rp (shP b A) j = if b ≤ j then rp A (j - b) else lN 0 := by
  induction b generalizing j with
  | zero => rw [if_pos (Nat.zero_le j)]; rfl
  | succ b ih =>
    cases j with
    | zero => rw [if_neg (by omega)]; exact i64_0
    | succ j =>
      show rp (shP b A) j = _
      rw [ih j, show j + 1 - (b + 1) = j - b by omega]
      by_cases q : b ≤ j
      · rw [if_pos q, if_pos (by omega)]
      · rw [if_neg q, if_neg (by omega)]
theorem rp_len {A : List Int} {k : Nat} (h : A.length ≤ k) : rp A k = lN 0 := by
  unfold rp
  rw [List.getD_eq_getElem?_getD, List.getElem?_eq_none h]
  exact i64_0
theorem rp_drop (A : List Int) (b j : Nat) : rp (A.drop b) j = rp A (j + b) := by
  unfold rp
  rw [List.getD_eq_getElem?_getD, List.getD_eq_getElem?_getD, List.getElem?_drop, Nat.add_comm]
theorem rp_eq {A B : List Int} (h : eqP A B = true) {k : Nat} (hk : k < 31) : rp A k = rp B k := by
  have := List.all_eq_true.mp h k (List.mem_range.mpr hk)
  unfold rp
  rw [of_decide_eq_true this]
/-- a loop in a loop: a product comes to a row, from place o on -/
def cvAcc (o : Nat) (x B : Nat → Int64) : Nat → (Nat → Int64) → (Nat → Int64)
  | 0, f => f
  | i + 1, f => rowL (o + i) (31 - i) (fun j v => v + x i * B j) (cvAcc o x B i f)
theorem cvAcc_out {o : Nat} {x B : Nat → Int64} {f : Nat → Int64} {j : Nat} (h : j < o ∨ o + 31 ≤ j) : ∀ n, n ≤ 31 → cvAcc o x B n f j = f j
  | 0, _ => rfl
  | n + 1, hn => by
    show rowL _ _ _ _ j = _
    rw [rowL_out (by omega), cvAcc_out h n (by omega)]
theorem cvAcc_in {o : Nat} {x B : Nat → Int64} {f : Nat → Int64} {k : Nat} (hk : k < 31) : ∀ n, n ≤ 31 → cvAcc o x B n f (o + k) = f (o + k) + cv x B k (min n (k + 1))
  | 0, _ => by
    rw [Nat.min_eq_left (by omega)]
    exact (l_a0 _).symm
  | n + 1, hn => by
    show rowL _ _ _ _ (o + k) = _
    by_cases q : n ≤ k
    · have e := rowL_in (o := o + n) (n := 31 - n) (F := fun j v => v + x n * B j) (f := cvAcc o x B n f) (i := k - n) (by omega)
      rw [show o + n + (k - n) = o + k by omega] at e
      rw [e, cvAcc_in hk n (by omega), Nat.min_eq_left (show n ≤ k + 1 by omega), Nat.min_eq_left (show n + 1 ≤ k + 1 by omega), Int64.add_assoc]
      rfl
    · rw [rowL_out (by omega), cvAcc_in hk n (by omega), Nat.min_eq_right (show k + 1 ≤ n by omega), Nat.min_eq_right (show k + 1 ≤ n + 1 by omega)]
def cvRow (o : Nat) (x B : Nat → Int64) (f : Nat → Int64) (j : Nat) : Int64 := if o ≤ j ∧ j < o + 31 then f j + pmul x B (j - o) else f j
theorem cvAcc_row {o : Nat} {x B f : Nat → Int64} : cvAcc o x B 31 f = cvRow o x B f := funext fun j => by
  unfold cvRow
  by_cases h : o ≤ j ∧ j < o + 31
  · rw [if_pos h]
    have := cvAcc_in (o := o) (x := x) (B := B) (f := f) (k := j - o) (by omega) 31 (Nat.le_refl _)
    rw [show o + (j - o) = j by omega, Nat.min_eq_right (by omega)] at this
    exact this
  · rw [if_neg h, cvAcc_out (by omega) 31 (Nat.le_refl _)]
theorem lp_C {Lo : Nat → Mm → Option Rs} {Li : Nat → Nat → Mm → Option Rs} {K : Mm → Option Rs} {μ : Mm} (c o : Nat) (x B : Nat → Int64)
    (h1 : ∀ i f, i < 31 → Lo i (wL μ c f) = Li i 0 (wL μ c f))
    (h2 : ∀ i, i < 31 → (∀ j f, i + j < 31 → Li i j (wL μ c f) = Li i (j + 1) (wL μ c (vp_updL f (o + i + j) (f (o + i + j) + x i * B j)))) ∧ (∀ f, Li i (31 - i) (wL μ c f) = Lo (i + 1) (wL μ c f)) ∨ x i = lN 0 ∧ ∀ f, Li i 0 (wL μ c f) = Lo (i + 1) (wL μ c f))
    (h3 : ∀ f, Lo 31 (wL μ c f) = K (wL μ c f)) : Lo 0 μ = K (wL μ c (cvRow o x B (μ.2 c))) := by
  have key : ∀ i, i ≤ 31 → Lo 0 μ = Lo i (wL μ c (cvAcc o x B i (μ.2 c))) := by
    intro i
    induction i with
    | zero =>
      intro _
      show _ = Lo 0 (wL μ c (μ.2 c))
      rw [wL_e]
    | succ i ih =>
      intro hi
      rw [ih (by omega), h1 i _ (by omega)]
      rcases h2 i (by omega) with ⟨g1, g2⟩ | ⟨g1, g2⟩
      · have := lp_L (L := fun j m => Li i j m) (K := fun m => Lo (i + 1) m) (μ := wL μ c (cvAcc o x B i (μ.2 c))) c (o + i) (31 - i) (fun j v => v + x i * B j) (fun j f hj hf => by
          show Li i j _ = Li i (j + 1) _
          rw [wL_w, g1 j f (by omega), wL_w, hf]) (fun f => by
          show Li i (31 - i) _ = _
          rw [wL_w, g2])
        rw [wL_s, wL_w] at this
        exact this
      · rw [g2]
        congr 1
        congr 1
        funext j
        show _ = rowL (o + i) (31 - i) (fun j v => v + x i * B j) (cvAcc o x B i (μ.2 c)) j
        unfold rowL
        rw [g1]
        by_cases q : o + i ≤ j ∧ j < o + i + (31 - i)
        · rw [if_pos q]
          show _ = cvAcc o x B i (μ.2 c) j + lN 0 * B (j - (o + i))
          rw [l0_mul, l_a0]
        · rw [if_neg q]
  rw [key 31 (Nat.le_refl _), h3, cvAcc_row]
