/-! sums: the reference's products -/
/-- a loop in a loop over n places -/
def cvAcN (N o : Nat) (x B : Nat → Int64) : Nat → (Nat → Int64) → (Nat → Int64)
  | 0, f => f
  | i + 1, f => rowL (o + i) (N - i) (fun j v => v + x i * B j) (cvAcN N o x B i f)
theorem cvAcN_out {N o : Nat} {x B : Nat → Int64} {f : Nat → Int64} {j : Nat} (h : j < o ∨ o + N ≤ j) : ∀ n, n ≤ N → cvAcN N o x B n f j = f j
  | 0, _ => rfl
  | n + 1, hn => by
    show rowL _ _ _ _ j = _
    rw [rowL_out (by omega), cvAcN_out h n (by omega)]
theorem cvAcN_in {N o : Nat} {x B : Nat → Int64} {f : Nat → Int64} {k : Nat} (hk : k < N) : ∀ n, n ≤ N → cvAcN N o x B n f (o + k) = f (o + k) + cv x B k (min n (k + 1))
  | 0, _ => by
    rw [Nat.min_eq_left (by omega)]
    exact (l_a0 _).symm
  | n + 1, hn => by
    show rowL _ _ _ _ (o + k) = _
    by_cases q : n ≤ k
    · have e := rowL_in (o := o + n) (n := N - n) (F := fun j v => v + x n * B j) (f := cvAcN N o x B n f) (i := k - n) (by omega)
      rw [show o + n + (k - n) = o + k by omega] at e
      rw [e, cvAcN_in hk n (by omega), Nat.min_eq_left (show n ≤ k + 1 by omega), Nat.min_eq_left (show n + 1 ≤ k + 1 by omega), Int64.add_assoc]
      rfl
    · rw [rowL_out (by omega), cvAcN_in hk n (by omega), Nat.min_eq_right (show k + 1 ≤ n by omega), Nat.min_eq_right (show k + 1 ≤ n + 1 by omega)]
theorem cvAcN_row {N o : Nat} {x B f : Nat → Int64} : cvAcN N o x B N f = rowL o N (fun k v => v + pmul x B k) f := funext fun j => by
  by_cases h : o ≤ j ∧ j < o + N
  · have e := rowL_in (o := o) (n := N) (F := fun k v => v + pmul x B k) (f := f) (i := j - o) (by omega)
    have := cvAcN_in (o := o) (x := x) (B := B) (f := f) (k := j - o) (N := N) (by omega) N (Nat.le_refl _)
    rw [show o + (j - o) = j by omega] at this e
    rw [this, e, Nat.min_eq_right (by omega)]
    rfl
  · rw [cvAcN_out (by omega) N (Nat.le_refl _), rowL_out (by omega)]
theorem lp_N {Lo : Nat → Mm → Option Rs} {Li : Nat → Nat → Mm → Option Rs} {K : Mm → Option Rs} {μ : Mm} (c o N : Nat) (x B F : Nat → Int64)
    (h1 : ∀ i f, i < N → Lo i (wL μ c f) = Li i 0 (wL μ c f))
    (h2 : ∀ i, i < N → (∀ j f, i + j < N → Li i j (wL μ c f) = Li i (j + 1) (wL μ c (vp_updL f (o + i + j) (f (o + i + j) + x i * B j)))) ∧ (∀ f, Li i (N - i) (wL μ c f) = Lo (i + 1) (wL μ c f)) ∨ x i = lN 0 ∧ ∀ f, Li i 0 (wL μ c f) = Lo (i + 1) (wL μ c f))
    (h3 : ∀ f, Lo N (wL μ c f) = K (wL μ c f)) : Lo 0 (wL μ c F) = K (wL μ c (rowL o N (fun k v => v + pmul x B k) F)) := by
  have key : ∀ i, i ≤ N → Lo 0 (wL μ c F) = Lo i (wL μ c (cvAcN N o x B i F)) := by
    intro i
    induction i with
    | zero => exact fun _ => rfl
    | succ i ih =>
      intro hi
      rw [ih (by omega), h1 i _ (by omega)]
      rcases h2 i (by omega) with ⟨g1, g2⟩ | ⟨g1, g2⟩
      · have := lp_L (L := fun j m => Li i j m) (K := fun m => Lo (i + 1) m) (μ := wL μ c (cvAcN N o x B i F)) c (o + i) (N - i) (fun j v => v + x i * B j) (fun j f hj hf => by
          show Li i j _ = Li i (j + 1) _
          rw [wL_w, g1 j f (by omega), wL_w, hf]) (fun f => by
          show Li i (N - i) _ = _
          rw [wL_w, g2])
        rw [wL_s, wL_w] at this
        exact this
      · rw [g2]
        congr 1
        congr 1
        funext j
        show _ = rowL (o + i) (N - i) (fun j v => v + x i * B j) (cvAcN N o x B i F) j
        unfold rowL
        rw [g1]
        by_cases q : o + i ≤ j ∧ j < o + i + (N - i)
        · rw [if_pos q]
          show _ = cvAcN N o x B i F j + lN 0 * B (j - (o + i))
          rw [l0_mul, l_a0]
        · rw [if_neg q]
  rw [key N (Nat.le_refl _), h3, cvAcN_row]
/-- rows of types from place o on -/
def ME (c o : Nat) (f : Vt) (μ : Mm) : Prop := ∀ t, t < 19 → ∀ j, j < 31 → μ.2 c (o + (t * 31 + j)) = f t j
theorem ME.fr {c o : Nat} {f : Vt} {S : Nat → Prop} {μ μ' : Mm} (h : ME c o f μ) (g : Fr S μ μ') (h1 : ¬ S c) : ME c o f μ' := fun t ht j hj => by
  rw [(g c h1).2]
  exact h t ht j hj
theorem ME.ext {c o : Nat} {f g : Vt} {μ : Mm} (h : ME c o f μ) (e : ∀ t, t < 19 → ∀ j, j < 31 → f t j = g t j) : ME c o g μ := fun t ht j hj => (h t ht j hj).trans (e t ht j hj)
theorem ln323 : lnL 323 = 1767 := by decide
theorem ln324 : lnL 324 = 1767 := by decide
theorem ln325 : lnL 325 = 589 := by decide
theorem ln326 : lnL 326 = 589 := by decide
theorem ln327 : lnL 327 = 589 := by decide
abbrev f326 (k : Nat) : Prop := k = 326
section ADP
variable {f g : Vt} {o m n l : Nat} {μ : Mm}
theorem s_adp (ho : o + 589 ≤ 1767) (hm : m < 19) (hn : n < 19) (hl : l < 19) (hf : ME 324 o f μ) (hg : ME 325 0 g μ) (hP : PR m 0 μ) : m_Mo_addsProduct (nI (o + m * 31)) (nI n) (nI l) μ = some (none, wL μ 326 (rowL (l * 31) 31 (fun k v => v + pmul (f m) (pmul (g n) (rp (hL m n l))) k) (μ.2 326))) := by
  have hcf : ∀ i, i < 31 → μ.2 324 (o + m * 31 + i) = f m i := fun i hi => by
    have := hf m hm i hi
    rwa [← Nat.add_assoc] at this
  have hcg : ∀ j, j < 31 → μ.2 325 (n * 31 + j) = g n j := fun j hj => by
    have := hg n hn j hj
    rwa [Nat.zero_add] at this
  have hch : ∀ k, k < 31 → μ.2 313 ((n * 19 + l) * 31 + k) = rp (hL m n l) k := fun k hk => by
    have := hP n hn l hl k hk
    rwa [if_pos (Nat.zero_le n)] at this
  have b1 : (n * 19 + l) * 31 + 31 ≤ 11191 := by omega
  -- for one coefficient of the first
  have inner : ∀ i F, i < 31 → m_Mo_addsProduct_14 (nI (o + m * 31)) (nI n) (nI l) (nI ((n * 19 + l) * 31)) (nI i) (wL μ 326 F) = m_Mo_addsProduct_14 (nI (o + m * 31)) (nI n) (nI l) (nI ((n * 19 + l) * 31)) (nI (i + 1)) (wL μ 326 (rowL (l * 31 + i) (31 - i) (fun j v => v + f m i * pmul (g n) (rp (hL m n l)) j) F)) := by
    intro i F hi
    have e24 : ∀ j G, i + j < 31 → m_Mo_addsProduct_24 (nI (o + m * 31)) (nI n) (nI l) (nI ((n * 19 + l) * 31)) (nI i) (nI j) (wL μ 326 G) = bif decide (f m i = lN 0) then m_Mo_addsProduct_14 (nI (o + m * 31)) (nI n) (nI l) (nI ((n * 19 + l) * 31)) (nI (i + 1)) (wL μ 326 G) else m_Mo_addsProduct_75 (nI (o + m * 31)) (nI n) (nI l) (nI ((n * 19 + l) * 31)) (nI i) (nI j) (f m i * g n j) (nI 0) (wL μ 326 G) := fun j G hj => by
      rw [e_Mo_addsProduct_24, nI_add, bLt hj (by omega), nI_add, gi (by omega) (by omega), kl (by omega), wL_o (by omega), hcf i hi, lgc_eq, nI_p1, gi (by omega) (by omega), nI_mul, nI_add, gi (by omega) (by omega), kl (by omega), wL_o (by omega), hcg j (by omega)]
    by_cases q : f m i = lN 0
    · rw [e_Mo_addsProduct_14, bLt hi (by omega), e24 0 F (by omega), bt (decide_eq_true q)]
      congr 2
      funext j
      unfold rowL
      by_cases z : l * 31 + i ≤ j ∧ j < l * 31 + i + (31 - i)
      · rw [if_pos z, q]
        show F j = F j + lN 0 * _
        rw [l0_mul, l_a0]
      · rw [if_neg z]
    · have := lp_N (Lo := fun j μ => bif decide (i + j < 31) then m_Mo_addsProduct_75 (nI (o + m * 31)) (nI n) (nI l) (nI ((n * 19 + l) * 31)) (nI i) (nI j) (f m i * g n j) (nI 0) μ else m_Mo_addsProduct_14 (nI (o + m * 31)) (nI n) (nI l) (nI ((n * 19 + l) * 31)) (nI (i + 1)) μ)
        (Li := fun j k μ => m_Mo_addsProduct_75 (nI (o + m * 31)) (nI n) (nI l) (nI ((n * 19 + l) * 31)) (nI i) (nI j) (f m i * g n j) (nI k) μ)
        (K := fun μ => m_Mo_addsProduct_14 (nI (o + m * 31)) (nI n) (nI l) (nI ((n * 19 + l) * 31)) (nI (i + 1)) μ) (μ := μ) 326 (l * 31 + i) (31 - i) (fun j => f m i * g n j) (rp (hL m n l)) F
        (fun j G hj => by
          show (bif decide (i + j < 31) then _ else _) = _
          rw [bt (decide_eq_true (by omega))])
        (fun j hj => by
          have nxt : ∀ G, m_Mo_addsProduct_24 (nI (o + m * 31)) (nI n) (nI l) (nI ((n * 19 + l) * 31)) (nI i) (nI (j + 1)) (wL μ 326 G) = bif decide (i + (j + 1) < 31) then m_Mo_addsProduct_75 (nI (o + m * 31)) (nI n) (nI l) (nI ((n * 19 + l) * 31)) (nI i) (nI (j + 1)) (f m i * g n (j + 1)) (nI 0) (wL μ 326 G) else m_Mo_addsProduct_14 (nI (o + m * 31)) (nI n) (nI l) (nI ((n * 19 + l) * 31)) (nI (i + 1)) (wL μ 326 G) := fun G => by
            by_cases z : i + (j + 1) < 31
            · rw [bt (decide_eq_true z), e24 (j + 1) G z, bf (decide_eq_false q)]
            · rw [bf (decide_eq_false z), e_Mo_addsProduct_24, nI_add, bLf (by omega) (by omega), nI_p1]
          by_cases z : f m i * g n j = lN 0
          · refine Or.inr ⟨z, fun G => ?_⟩
            show m_Mo_addsProduct_75 _ _ _ _ _ _ _ _ _ = _
            rw [e_Mo_addsProduct_75, nI_add, nI_add, bLt (by omega) (by omega), lgc_eq, bt (decide_eq_true z), nI_p1, nxt]
          · refine Or.inl ⟨fun k G hk => ?_, fun G => ?_⟩
            · show m_Mo_addsProduct_75 _ _ _ _ _ _ _ _ _ = m_Mo_addsProduct_75 _ _ _ _ _ _ _ _ _
              rw [e_Mo_addsProduct_75, nI_add, nI_add, bLt (by omega) (by omega), lgc_eq, bf (decide_eq_false z), nI_mul, nI_add, nI_add, nI_add, gi (by omega) (by omega), nI_add, gi (by omega) (by omega), gi (by omega) (by omega), nI_p1, kl (by omega), kl (by omega), wL_s, wL_o (by omega), hch k (by omega), wL_u, show l * 31 + i + j + k = l * 31 + i + j + k from rfl]
            · show m_Mo_addsProduct_75 _ _ _ _ _ _ _ _ _ = _
              rw [e_Mo_addsProduct_75, nI_add, nI_add, bLf (by omega) (by omega), nI_p1, nxt])
        (fun G => by
          show (bif decide (i + (31 - i) < 31) then _ else _) = _
          rw [bf (decide_eq_false (by omega))])
      have h0 : m_Mo_addsProduct_14 (nI (o + m * 31)) (nI n) (nI l) (nI ((n * 19 + l) * 31)) (nI i) (wL μ 326 F) = bif decide (i + 0 < 31) then m_Mo_addsProduct_75 (nI (o + m * 31)) (nI n) (nI l) (nI ((n * 19 + l) * 31)) (nI i) (nI 0) (f m i * g n 0) (nI 0) (wL μ 326 F) else m_Mo_addsProduct_14 (nI (o + m * 31)) (nI n) (nI l) (nI ((n * 19 + l) * 31)) (nI (i + 1)) (wL μ 326 F) := by
        rw [e_Mo_addsProduct_14, bLt hi (by omega), e24 0 F (by omega), bf (decide_eq_false q), bt (decide_eq_true (show i + 0 < 31 by omega))]
      rw [h0, this]
      congr 2
      funext j
      unfold rowL
      split
      · show F j + pmul (fun j => f m i * g n j) (rp (hL m n l)) _ = F j + f m i * pmul (g n) (rp (hL m n l)) _
        rw [pmul_scale]
      · rfl
  have key : ∀ i, i ≤ 31 → m_Mo_addsProduct_14 (nI (o + m * 31)) (nI n) (nI l) (nI ((n * 19 + l) * 31)) (nI 0) μ = m_Mo_addsProduct_14 (nI (o + m * 31)) (nI n) (nI l) (nI ((n * 19 + l) * 31)) (nI i) (wL μ 326 (cvAcN 31 (l * 31) (f m) (pmul (g n) (rp (hL m n l))) i (μ.2 326))) := by
    intro i
    induction i with
    | zero =>
      intro _
      show _ = m_Mo_addsProduct_14 _ _ _ _ _ (wL μ 326 (μ.2 326))
      rw [wL_e]
    | succ i ih =>
      intro hi
      rw [ih (by omega), inner i _ (by omega)]
      rfl
  rw [e_Mo_addsProduct, nI_mul, nI_add, nI_mul, key 31 (Nat.le_refl _), cvAcN_row, e_Mo_addsProduct_14, bLf (by omega) (by omega)]
end ADP
/-- what the reference's product changes -/
abbrev fMb (k : Nat) : Prop := fTq k ∨ k = 313 ∨ k = 306 ∨ k = 326
def FB (μ μ' : Mm) : Prop := Fr fMb μ μ' ∧ ∀ j, j ≠ 11 → j ≠ 27 → μ'.1 306 j = μ.1 306 j
theorem FB.rf {μ : Mm} : FB μ μ := ⟨Fr.rf, fun _ _ _ => rfl⟩
theorem FB.tr {a b d : Mm} (h : FB a b) (k : FB b d) : FB a d := ⟨h.1.t2 k.1, fun j h1 h2 => (k.2 j h1 h2).trans (h.2 j h1 h2)⟩
theorem FB.L {μ : Mm} {f : Nat → Int64} : FB μ (wL μ 326 f) := ⟨Fr.wL (Or.inr (Or.inr (Or.inr rfl))), fun _ _ _ => rfl⟩
section MUB
variable {f g : Vt} {o : Nat}
theorem CT.fb {μ μ' : Mm} (h : CT μ) (F : FB μ μ') : CT μ' := h.fr F.1 (fun k x y => by omega) (by omega)
theorem MT.fb {μ μ' : Mm} (h : MT μ) (F : FB μ μ') : MT μ' := h.fr F.1 (by omega) (by omega) (by omega)
theorem s_mb_128 (ho : o + 589 ≤ 1767) {m n : Nat} (hm : m < 19) (hn : n < 19) (x2 : Int32) {a : Vt} : ∀ (k l : Nat) (μ : Mm), l + k = 19 → ME 324 o f μ → ME 325 0 g μ → PR m 0 μ → ME 326 0 (fun u j => if u < l then a u j + pvX f g m n u j else a u j) μ → ∃ F, m_Mo_multipliesBy_128 (nI o) x2 (nI m) (nI n) (nI l) μ = m_Mo_multipliesBy_54 (nI o) x2 (nI m) (nI (n + 1)) (wL μ 326 F) ∧ ME 326 0 (fun u j => a u j + pvX f g m n u j) (wL μ 326 F)
  | 0, l, μ, e, hf, hg, hP, ha => by
    obtain rfl : l = 19 := by omega
    refine ⟨μ.2 326, ?_, ?_⟩
    · rw [wL_e, e_Mo_multipliesBy_128, bLf (by omega) (by omega), nI_p1]
    · rw [wL_e]
      exact ha.ext (fun t ht j hj => if_pos ht)
  | k + 1, l, μ, e, hf, hg, hP, ha => by
    have hl : l < 19 := by omega
    have h1 := s_adp ho hm hn hl hf hg hP
    obtain ⟨F, k1, k2⟩ := s_mb_128 ho hm hn x2 (a := a) k (l + 1) (wL μ 326 (rowL (l * 31) 31 (fun k v => v + pmul (f m) (pmul (g n) (rp (hL m n l))) k) (μ.2 326))) (by omega) (hf.fr (Fr.wL (S := f326) rfl) (by omega)) (hg.fr (Fr.wL (S := f326) rfl) (by omega)) (hP.fr (Fr.wL (S := f326) rfl) (by omega)) (fun t ht j hj => by
      have h0 : μ.2 326 (0 + (t * 31 + j)) = if t < l then a t j + pvX f g m n t j else a t j := ha t ht j hj
      rw [Nat.zero_add] at h0
      show _ = if t < l + 1 then a t j + pvX f g m n t j else a t j
      rw [wL_s, Nat.zero_add]
      by_cases z : t = l
      · subst z
        rw [if_neg (Nat.lt_irrefl t)] at h0
        rw [rowL_in hj, h0, pvX_c2, if_pos (Nat.lt_succ_self t)]
      · rw [rowL_out (by omega), h0]
        by_cases y : t < l
        · rw [if_pos y, if_pos (by omega)]
        · rw [if_neg y, if_neg (by omega)])
    refine ⟨F, ?_, ?_⟩
    · rw [e_Mo_multipliesBy_128, bLt hl (by omega), nI_mul, nI_add, h1, cV_s, nI_p1, k1, wL_w]
    · rw [wL_w] at k2
      exact k2
theorem degO (ho : o + 589 ≤ 1767) {m : Nat} (hm : m < 19) {μ : Mm} (hf : ME 324 o f μ) : m_Mo_degree 324 (nI (o + m * 31)) μ = some (some (.int (degF (f m) 31)), μ) := by
  rw [s_Mo_degree (by rw [ln324]; omega) (by rw [ln324]; omega)]
  congr 3
  congr 1
  refine degF_congr 31 (fun k hk => ?_)
  have := hf m hm k hk
  rwa [← Nat.add_assoc] at this
theorem deg1 {n : Nat} (hn : n < 19) {μ : Mm} (hg : ME 325 0 g μ) : m_Mo_degree 325 (nI (n * 31)) μ = some (some (.int (degF (g n) 31)), μ) := by
  rw [s_Mo_degree (by rw [ln325]; omega) (by rw [ln325]; omega)]
  congr 3
  congr 1
  refine degF_congr 31 (fun k hk => ?_)
  have := hg n hn k hk
  rwa [Nat.zero_add] at this
theorem s_mb_54 (ho : o + 589 ≤ 1767) {m pl : Nat} (hm : m < 19) (hpl : pl < 1000) {ws : Option Nat} (hw : ∀ b, ws = some b → b < 1000) : ∀ (k n : Nat) (a : Vt) (μ : Mm), n + k = 19 → CT μ → MT μ → HP μ → ME 324 o f μ → ME 325 0 g μ → ME 326 0 a μ → μ.1 306 27 = oc ws → ∃ μ', FB μ μ' ∧ HP μ' ∧ (pvN f g m k n a = none → m_Mo_multipliesBy_54 (nI o) (nI pl) (nI m) (nI n) μ = some (none, μ') ∧ μ'.1 306 27 = oc (ws.or (some pl))) ∧ ∀ b, pvN f g m k n a = some b → m_Mo_multipliesBy_54 (nI o) (nI pl) (nI m) (nI n) μ = m_Mo_multipliesBy_24 (nI o) (nI pl) (nI (m + 1)) μ' ∧ ME 326 0 b μ' ∧ μ'.1 306 27 = oc ws
  | 0, n, a, μ, e, hC, hT, hP, hf, hg, ha, h27 => by
    obtain rfl : n = 19 := by omega
    refine ⟨μ, FB.rf, hP, fun z => (by cases z), ?_⟩
    rintro b ⟨⟩
    refine ⟨?_, ha, h27⟩
    rw [e_Mo_multipliesBy_54, bLf (by omega) (by omega), nI_p1]
  | k + 1, n, a, μ, e, hC, hT, hP, hf, hg, ha, h27 => by
    have hn : n < 19 := by omega
    have z1 := sz_lt hm
    have z2 := sz_lt hn
    unfold pvN
    by_cases q : hasB (g n) = true
    · rw [if_pos q]
      have pre : m_Mo_multipliesBy_54 (nI o) (nI pl) (nI m) (nI n) μ = bif decide (nI 5 < nI (sizN m + sizN n)) then (bif decide (μ.1 306 27 = (-1 : Int32)) then (some (none, sI μ 306 27 (nI pl))) else (some (none, sI μ 306 27 (μ.1 306 27)))) else (cV (m_Mo_multiplies (nI m) μ) fun μ3 => m_Mo_multipliesBy_128 (nI o) (nI pl) (nI m) (nI n) (nI 0) μ3) := by
        rw [e_Mo_multipliesBy_54, bLt hn (by omega), nI_mul, deg1 hn hg, cI_s, hasB_5, q, Bool.not_true, cond_false, gi hm (by omega), gi hn (by omega), kl (by omega), kl (by omega), hT.2.1 m hm, hT.2.1 n hn, nI_add]
      rw [pre]
      by_cases q2 : 5 < sizN m + sizN n
      · rw [if_pos q2, bLt q2 (by omega), h27, oc_d hw]
        cases ws with
        | none =>
          refine ⟨sI μ 306 27 (nI pl), ⟨Fr.sI (Or.inr (Or.inr (Or.inl rfl))), fun j h1 h2 => by rw [sI_s, up_o h2]⟩, ?_, fun _ => ⟨rfl, by rw [sI_s, up_s]; rfl⟩, fun b z => by cases z⟩
          unfold HP
          rw [sI_s, up_o (by omega)]
          exact hP
        | some b =>
          refine ⟨sI μ 306 27 (oc (some b)), ⟨Fr.sI (Or.inr (Or.inr (Or.inl rfl))), fun j h1 h2 => by rw [sI_s, up_o h2]⟩, ?_, fun _ => ⟨rfl, by rw [sI_s, up_s]; rfl⟩, fun b z => by cases z⟩
          unfold HP
          rw [sI_s, up_o (by omega)]
          exact hP
      · rw [if_neg q2, bLf (by omega) (by omega)]
        obtain ⟨μ1, a1, a2, a3, a4, a5⟩ := s_multiplies hm hC hT hP
        have F1 : FB μ μ1 := ⟨a2.w (fun c hc => by omega), fun j h1 _ => a3 j h1⟩
        obtain ⟨G, b1, b2⟩ := s_mb_128 ho hm hn (nI pl) (a := a) 19 0 μ1 rfl (hf.fr a2 (by omega)) (hg.fr a2 (by omega)) a5 ((ha.fr a2 (by omega)).ext (fun t ht j hj => (if_neg (Nat.not_lt_zero t)).symm))
        have F2 : FB μ (wL μ1 326 G) := F1.tr FB.L
        obtain ⟨μ2, c1, c2, c3, c4⟩ := s_mb_54 ho hm hpl hw k (n + 1) _ (wL μ1 326 G) (by omega) (hC.fb F2) (hT.fb F2) (Or.inr ⟨m, hm, a4, a5.fr (Fr.wL (S := f326) rfl) (by omega)⟩) ((hf.fr a2 (by omega)).fr (Fr.wL (S := f326) rfl) (by omega)) ((hg.fr a2 (by omega)).fr (Fr.wL (S := f326) rfl) (by omega)) b2 (by
          show μ1.1 306 27 = _
          rw [a3 27 (by omega)]
          exact h27)
        have pre2 : (cV (m_Mo_multiplies (nI m) μ) fun μ3 => m_Mo_multipliesBy_128 (nI o) (nI pl) (nI m) (nI n) (nI 0) μ3) = m_Mo_multipliesBy_54 (nI o) (nI pl) (nI m) (nI (n + 1)) (wL μ1 326 G) := by rw [a1, cV_s, b1]
        rw [pre2]
        exact ⟨μ2, F2.tr c1, c2, c3, c4⟩
    · rw [if_neg q]
      rw [Bool.not_eq_true] at q
      have pre : m_Mo_multipliesBy_54 (nI o) (nI pl) (nI m) (nI n) μ = m_Mo_multipliesBy_54 (nI o) (nI pl) (nI m) (nI (n + 1)) μ := by
        rw [e_Mo_multipliesBy_54, bLt hn (by omega), nI_mul, deg1 hn hg, cI_s, hasB_5, q, Bool.not_false, cond_true, nI_p1]
      rw [pre]
      exact s_mb_54 ho hm hpl hw k (n + 1) a μ (by omega) hC hT hP hf hg ha h27
theorem s_mb_169 (ho : o + 589 ≤ 1767) (μ : Mm) : m_Mo_multipliesBy_169 (nI o) (nI 0) μ = some (none, wL μ 324 (rowL o 589 (fun i _ => μ.2 326 i) (μ.2 324))) :=
  lp_L (L := fun i m => m_Mo_multipliesBy_169 (nI o) (nI i) m) (K := fun m => some (none, m)) 324 o 589 (fun i _ => μ.2 326 i) (fun i F hi hF => by
    show m_Mo_multipliesBy_169 _ _ _ = m_Mo_multipliesBy_169 _ _ _
    rw [e_Mo_multipliesBy_169, bLt hi (by omega), gi hi (by omega), nI_add, gi (by omega) (by omega), kl (by omega), kl (by omega), nI_p1, wL_u, wL_o (by omega)]) (fun F => by
    show m_Mo_multipliesBy_169 _ _ _ = _
    rw [e_Mo_multipliesBy_169, bLf (by omega) (by omega)])
theorem s_mb_24 (ho : o + 589 ≤ 1767) {pl : Nat} (hpl : pl < 1000) {ws : Option Nat} (hw : ∀ b, ws = some b → b < 1000) : ∀ (k m : Nat) (a : Vt) (μ : Mm), m + k = 19 → CT μ → MT μ → HP μ → ME 324 o f μ → ME 325 0 g μ → ME 326 0 a μ → μ.1 306 27 = oc ws → ∃ μ', FB μ μ' ∧ HP μ' ∧ (pvM f g k m a = none → m_Mo_multipliesBy_24 (nI o) (nI pl) (nI m) μ = some (none, μ') ∧ μ'.1 306 27 = oc (ws.or (some pl))) ∧ ∀ b, pvM f g k m a = some b → m_Mo_multipliesBy_24 (nI o) (nI pl) (nI m) μ = m_Mo_multipliesBy_169 (nI o) (nI 0) μ' ∧ ME 326 0 b μ' ∧ μ'.1 306 27 = oc ws
  | 0, m, a, μ, e, hC, hT, hP, hf, hg, ha, h27 => by
    obtain rfl : m = 19 := by omega
    refine ⟨μ, FB.rf, hP, fun z => (by cases z), ?_⟩
    rintro b ⟨⟩
    refine ⟨?_, ha, h27⟩
    rw [e_Mo_multipliesBy_24, bLf (by omega) (by omega)]
  | k + 1, m, a, μ, e, hC, hT, hP, hf, hg, ha, h27 => by
    have hm : m < 19 := by omega
    unfold pvM
    by_cases q : hasB (f m) = true
    · rw [if_pos q]
      have pre : m_Mo_multipliesBy_24 (nI o) (nI pl) (nI m) μ = m_Mo_multipliesBy_54 (nI o) (nI pl) (nI m) (nI 0) μ := by
        rw [e_Mo_multipliesBy_24, bLt hm (by omega), nI_mul, nI_add, degO ho hm hf, cI_s, hasB_5, q, Bool.not_true, cond_false]
      rw [pre]
      obtain ⟨μ1, c1, c2, c3, c4⟩ := s_mb_54 ho hm hpl hw 19 0 a μ rfl hC hT hP hf hg ha h27
      cases hN : pvN f g m 19 0 a with
      | none => exact ⟨μ1, c1, c2, fun _ => c3 hN, fun b z => by cases z⟩
      | some b1 =>
        obtain ⟨d1, d2, d3⟩ := c4 b1 hN
        rw [d1]
        obtain ⟨μ2, e1, e2, e3, e4⟩ := s_mb_24 ho hpl hw k (m + 1) b1 μ1 (by omega) (hC.fb c1) (hT.fb c1) c2 (hf.fr c1.1 (by omega)) (hg.fr c1.1 (by omega)) d2 d3
        exact ⟨μ2, c1.tr e1, e2, e3, e4⟩
    · rw [if_neg q]
      rw [Bool.not_eq_true] at q
      have pre : m_Mo_multipliesBy_24 (nI o) (nI pl) (nI m) μ = m_Mo_multipliesBy_24 (nI o) (nI pl) (nI (m + 1)) μ := by
        rw [e_Mo_multipliesBy_24, bLt hm (by omega), nI_mul, nI_add, degO ho hm hf, cI_s, hasB_5, q, Bool.not_false, cond_true, nI_p1]
      rw [pre]
      exact s_mb_24 ho hpl hw k (m + 1) a μ (by omega) hC hT hP hf hg ha h27
/-- .. and the places of the factors above -/
abbrev fMd (k : Nat) : Prop := fMb k ∨ k = 324
def FC (o : Nat) (μ μ' : Mm) : Prop := (Fr fMd μ μ' ∧ ∀ j, j ≠ 11 → j ≠ 27 → μ'.1 306 j = μ.1 306 j) ∧ ∀ j, j < o → μ'.2 324 j = μ.2 324 j
theorem FB.fc {μ μ' : Mm} (h : FB μ μ') : FC o μ μ' := ⟨⟨h.1.w (fun c hc => Or.inl hc), h.2⟩, fun j _ => by rw [(h.1 324 (by omega)).2]⟩
theorem s_multipliesBy (ho : o + 589 ≤ 1767) {pl : Nat} (hpl : pl < 1000) {ws : Option Nat} (hw : ∀ b, ws = some b → b < 1000) {μ : Mm} (hC : CT μ) (hT : MT μ) (hP : HP μ) (hf : ME 324 o f μ) (hg : ME 325 0 g μ) (h27 : μ.1 306 27 = oc ws) : ∃ μ', m_Mo_multipliesBy (nI o) (nI pl) μ = some (none, μ') ∧ FC o μ μ' ∧ HP μ' ∧ (PVo f g = none → μ'.1 306 27 = oc (ws.or (some pl))) ∧ ∀ b, PVo f g = some b → ME 324 o b μ' ∧ μ'.1 306 27 = oc ws := by
  have z0 : m_Mo_multipliesBy_2 (nI o) (nI pl) (nI 0) μ = m_Mo_multipliesBy_24 (nI o) (nI pl) (nI 0) (wL μ 326 (rowL 0 589 (fun _ _ => lN 0) (μ.2 326))) :=
    lp_L (L := fun i m => m_Mo_multipliesBy_2 (nI o) (nI pl) (nI i) m) (K := fun m => m_Mo_multipliesBy_24 (nI o) (nI pl) (nI 0) m) 326 0 589 (fun _ _ => lN 0) (fun i F hi hF => by
      show m_Mo_multipliesBy_2 _ _ _ _ = m_Mo_multipliesBy_2 _ _ _ _
      rw [e_Mo_multipliesBy_2, bLt hi (by omega), gi hi (by omega), kl (by omega), nI_p1, wL_u, Nat.zero_add]) (fun F => by
      show m_Mo_multipliesBy_2 _ _ _ _ = _
      rw [e_Mo_multipliesBy_2, bLf (by omega) (by omega)])
  have F0 : FB μ (wL μ 326 (rowL 0 589 (fun _ _ => lN 0) (μ.2 326))) := FB.L
  obtain ⟨μ1, e1, e2, e3, e4⟩ := s_mb_24 ho hpl hw 19 0 (fun _ _ => lN 0) _ rfl (hC.fb F0) (hT.fb F0) (hP.fr (Fr.wL (S := f326) rfl) (by omega) (by omega)) (hf.fr F0.1 (by omega)) (hg.fr F0.1 (by omega)) (fun t ht j hj => by
    rw [wL_s, Nat.zero_add, rowL0 (by omega)]) (show (wL μ 326 _).1 306 27 = _ from h27)
  rw [e_Mo_multipliesBy, z0]
  cases hN : PVo f g with
  | none =>
    obtain ⟨a1, a2⟩ := e3 hN
    exact ⟨μ1, a1, (F0.tr e1).fc, e2, fun _ => a2, fun b z => by cases z⟩
  | some b =>
    obtain ⟨a1, a2, a3⟩ := e4 b hN
    have F1 := (F0.tr e1).fc (o := o)
    refine ⟨wL μ1 324 (rowL o 589 (fun i _ => μ1.2 326 i) (μ1.2 324)), by rw [a1, s_mb_169 ho], ⟨⟨F1.1.1.t2 (Fr.wL (Or.inr rfl)), F1.1.2⟩, fun j hj => ?_⟩, e2.fr (Fr.wL (S := fun k => k = 324) rfl) (by omega) (by omega), fun z => (by cases z), ?_⟩
    · rw [wL_s, rowL_out (by omega)]
      exact F1.2 j hj
    · rintro b' ⟨⟩
      refine ⟨fun t ht j hj => ?_, a3⟩
      rw [wL_s, rowL_in (by omega)]
      have := a2 t ht j hj
      rwa [Nat.zero_add] at this
end MUB
