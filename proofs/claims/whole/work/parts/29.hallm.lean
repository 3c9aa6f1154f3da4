/-! products of types: the reference's side -/
def zB (A : List Int) : Bool := (List.range 31).all fun k => decide (rp A k = lN 0)
theorem hasB_z {f : Nat → Int64} {A : List Int} (h : ∀ j, j < 31 → f j = rp A j) : hasB f = !zB A := by
  unfold zB hasB
  rcases degF_spec f 31 with ⟨e, z⟩ | ⟨d, hd, e, z, -⟩
  · rw [e]
    have : ((List.range 31).all fun k => decide (rp A k = lN 0)) = true := List.all_eq_true.mpr (fun k hk => by
      have hk2 := List.mem_range.mp hk
      rw [← h k hk2, z k hk2]
      exact decide_eq_true rfl)
    rw [this]
    decide
  · rw [e, nI_lt0 (by omega)]
    have : ((List.range 31).all fun k => decide (rp A k = lN 0)) = false := by
      rw [Bool.eq_false_iff]
      intro q
      have := of_decide_eq_true (List.all_eq_true.mp q d (List.mem_range.mpr hd))
      exact z ((h d hd).trans this)
    rw [this]
/-- rows of all types in one row of longs -/
def TB (c : Nat) (F : Nat → List Int) (μ : Mm) : Prop := ∀ u, u < 19 → ∀ j, j < 31 → μ.2 c (u * 31 + j) = rp (F u) j
theorem TB.fr {c : Nat} {F : Nat → List Int} {S : Nat → Prop} {μ μ' : Mm} (h : TB c F μ) (g : Fr S μ μ') (h1 : ¬ S c) : TB c F μ' := by
  unfold TB
  rw [(g c h1).2]
  exact h
theorem TB.ext {c : Nat} {F G : Nat → List Int} {μ : Mm} (h : TB c F μ) (e : ∀ u, u < 19 → F u = G u) : TB c G μ := fun u hu j hj => by rw [h u hu j hj, e u hu]
theorem TB.eq {c : Nat} {F G : Nat → List Int} {μ : Mm} (h : TB c F μ) (e : ∀ u, u < 19 → eqP (F u) (G u) = true) : TB c G μ := fun u hu j hj => (h u hu j hj).trans (rp_eq (e u hu) hj)
/-- a strip that stands upright -/
def stF (l m : Nat) : Nat → Nat → Nat → Option Nat
  | 0, _, n => some n
  | f + 1, i, n => if colN l i < colN m i then none else if colN l i - colN l (i + 1) < colN l i - colN m i then none else stF l m f (i + 1) (n + (colN l i - colN m i))
def stN (l m : Nat) : Option Nat := stF l m 5 1 0
def stA (l m : Nat) : Nat → Nat → List Int → List Int
  | 0, _, A => A
  | f + 1, i, A => stA l m f (i + 1) (mulP A (chM ((colN l i : Int) - colN l (i + 1)) ((colN l i : Int) - colN m i)))
def stP (l m n : Nat) : List Int := shP (upN l m n).toNat (stA l m 5 1 [1])
theorem st_ok : ∀ l, l < 19 → ∀ m, m < 19 → (match stN l m with | none => true | some n => decide (0 ≤ upN l m n) && decide (n < 6)) = true := by decide +kernel
theorem s_strip_5 {l m : Nat} (hl : l < 19) (hm : m < 19) {μ : Mm} (hT : MT μ) : ∀ (f i n : Nat), i + f = 6 → 1 ≤ i → m_Mo_strip_5 (nI l) (nI m) (nI n) (nI i) μ = some (some (.int (oc (stF l m f i n))), μ)
  | 0, i, n, e, hi => by
    obtain rfl : i = 6 := by omega
    rw [e_Mo_strip_5, bLt (by omega) (by omega)]
    rfl
  | f + 1, i, n, e, hi => by
    have c1 := col_lt hl (i := i) (by omega)
    have c2 := col_lt hm (i := i) (by omega)
    have c3 := col_lt hl (i := i + 1) (by omega)
    have c4 := col_down l hl i (by omega) hi
    unfold stF
    rw [e_Mo_strip_5, bLf (by omega) (by omega), s_Mo_column hT hl hi (by omega), cI_s, s_Mo_column hT hm hi (by omega), cI_s]
    by_cases q : colN l i < colN m i
    · rw [if_pos q, iI_n (colN l i), iI_n (colN m i), iI_sub, iI_ltn (by omega) (by omega) (by omega), bt (decide_eq_true (by omega))]
      rfl
    · rw [if_neg q, nI_sub (by omega), bLf (by omega) (by omega), s_Mo_column hT hl hi (by omega), cI_s, nI_p1, s_Mo_column hT hl (by omega) (by omega), cI_s, nI_sub c4]
      by_cases q2 : colN l i - colN l (i + 1) < colN l i - colN m i
      · rw [if_pos q2, bLt q2 (by omega)]
        rfl
      · rw [if_neg q2, bLf (by omega) (by omega), nI_add, s_strip_5 hl hm hT f (i + 1) _ (by omega) (by omega)]
theorem s_strip {l m : Nat} (hl : l < 19) (hm : m < 19) {μ : Mm} (hT : MT μ) : m_Mo_strip (nI l) (nI m) μ = some (some (.int (oc (stN l m))), μ) := by
  rw [e_Mo_strip, s_strip_5 hl hm hT 5 1 0 rfl (by omega)]
  rfl
theorem s_mst_31 {l m : Nat} (hl : l < 19) (hm : m < 19) : ∀ (f i : Nat) (A : List Int) (u : Int) (μ : Mm), i + f = 6 → 1 ≤ i → 0 ≤ boU l m f i u → boU l m f i u ≤ 100 → CT μ → MT μ → HL 310 A μ → ∃ μ', m_Mo_makesStrip_31 (nI l) (nI m) (iI u) (nI i) μ = some (none, μ') ∧ Fr f310 μ μ' ∧ HL 310 (shP (boU l m f i u).toNat (stA l m f i A)) μ'
  | 0, i, A, u, μ, e, hi, u1, u2, hC, hT, h => by
    obtain rfl : i = 6 := by omega
    have u1' : 0 ≤ u := u1
    have u2' : u ≤ 100 := u2
    obtain ⟨n, rfl⟩ : ∃ n : Nat, u = n := ⟨u.toNat, by omega⟩
    obtain ⟨μ1, g1, g2, g3⟩ := s_shifts (b := n) h (by omega)
    refine ⟨μ1, ?_, g2.w (fun c hc => Or.inl hc), g3⟩
    rw [e_Mo_makesStrip_31, bLt (by omega) (by omega), ← iI_n, g1, cV_s]
  | f + 1, i, A, u, μ, e, hi, u1, u2, hC, hT, h => by
    have c1 := col_lt hl (i := i) (by omega)
    have c2 := col_lt hm (i := i) (by omega)
    have c3 := col_lt hl (i := i + 1) (by omega)
    have c4 := col_down l hl i (by omega) hi
    obtain ⟨μ1, g1, g2, g3⟩ := s_timesChoices hC h (a := ((colN l i : Int) - colN l (i + 1))) (b := ((colN l i : Int) - colN m i)) (by omega) (by omega) (by omega) (by omega) (by omega)
    obtain ⟨μ2, k1, k2, k3⟩ := s_mst_31 hl hm f (i + 1) _ (u - ((colN l i : Int) - colN m i) * (((colN l i : Int) - colN l (i + 1)) - ((colN l i : Int) - colN m i))) μ1 (by omega) (by omega) u1 u2 (hC.fr g2 (fun c a b => by omega) (by omega)) (hT.fr g2 (by omega) (by omega) (by omega)) g3
    refine ⟨μ2, ?_, g2.t2 k2, k3⟩
    rw [e_Mo_makesStrip_31, bLf (by omega) (by omega), s_Mo_column hT hl hi (by omega), cI_s, nI_p1, s_Mo_column hT hl (by omega) (by omega), cI_s, s_Mo_column hT hl hi (by omega), cI_s, s_Mo_column hT hm hi (by omega), cI_s, iI_n (colN l i), iI_n (colN l (i + 1)), iI_n (colN m i), iI_sub, iI_sub, g1, cV_s, iI_sub, iI_mul, iI_sub, k1]
theorem s_makesStrip {l m n : Nat} (hl : l < 19) (hm : m < 19) (hs : stN l m = some n) {μ : Mm} (hC : CT μ) (hT : MT μ) : ∃ μ', m_Mo_makesStrip (nI l) (nI m) (nI n) μ = some (none, μ') ∧ Fr f310 μ μ' ∧ HL 310 (stP l m n) μ' := by
  have ho := st_ok l hl m hm
  rw [hs] at ho
  obtain ⟨o1, o2⟩ := Bool.and_eq_true_iff.mp ho
  have o1 := of_decide_eq_true o1
  have o2 := of_decide_eq_true o2
  obtain ⟨-, u2⟩ := up_ok l hl m hm n o2
  obtain ⟨μ1, g1, g2, g3⟩ := s_ones ln310 μ
  have hT1 := hT.fr g2 (by omega) (by omega) (by omega)
  have hC1 := hC.fr g2 (fun c a b => by omega) (by omega)
  obtain ⟨μ2, k1, k2, k3⟩ := s_mst_31 hl hm 5 1 [1] _ μ1 rfl (by omega) o1 u2 hC1 hT1 g3
  have e : nI (hvyN l) - nI (hvyN m) - nI n * (nI n - nI 1) / nI 2 = iI ((hvyN l : Int) - hvyN m - ((n * (n - 1) / 2 : Nat) : Int)) := by
    have hm2 : n * (n - 1) ≤ 5 * 5 := Nat.mul_le_mul (by omega) (by omega)
    rw [nI_pm, nI_div (by omega) (by omega), iI_n, iI_n, iI_n (n * (n - 1) / 2), iI_sub, iI_sub]
  refine ⟨μ2, ?_, (g2.w (fun c hc => Or.inl hc)).t2 k2, k3⟩
  rw [e_Mo_makesStrip, g1, cV_s, s_Mo_heavy hT1 hl, cI_s, s_Mo_heavy hT1 hm, cI_s, gd_h ne2, e, k1]
/-- times so many ones -/
def acF (n : Nat) (F : Nat → List Int) (l : Nat) : Nat → List Int
  | 0 => []
  | m + 1 => if zB (F m) = false ∧ stN l m = some n then addP (acF n F l m) (mulP (stP l m n) (F m)) else acF n F l m
theorem ln315 : lnL 315 = 589 := by decide
theorem ln314 : lnL 314 = 589 := by decide
theorem ln316 : lnL 316 = 589 := by decide
abbrev fTo (k : Nat) : Prop := k = 310 ∨ k = 311 ∨ k = 315
theorem s_to_51 {n m : Nat} (hn : n < 6) (hm : m < 19) {F : Nat → List Int} (hz : zB (F m) = false) : ∀ (f l : Nat) (μ : Mm), l + f = 19 → CT μ → MT μ → TB 314 F μ → TB 315 (fun u => if u < l then acF n F u (m + 1) else acF n F u m) μ → ∃ μ', m_Mo_timesOnes_51 (nI n) (nI m) (nI l) μ = m_Mo_timesOnes_24 (nI n) (nI (m + 1)) μ' ∧ Fr fTo μ μ' ∧ TB 315 (fun u => acF n F u (m + 1)) μ'
  | 0, l, μ, e, hC, hT, hF, h => by
    obtain rfl : l = 19 := by omega
    refine ⟨μ, ?_, Fr.rf, h.ext (fun u hu => if_pos hu)⟩
    rw [e_Mo_timesOnes_51, bLf (by omega) (by omega), nI_p1]
  | f + 1, l, μ, e, hC, hT, hF, h => by
    have hl : l < 19 := by omega
    have q3 : decide (oc (stN l m) = nI n) = decide (stN l m = some n) := by
      have ho := st_ok l hl m hm
      cases hs : stN l m with
      | none =>
        rw [decide_eq_false (show ¬ (none : Option Nat) = some n from fun z => by cases z)]
        apply decide_eq_false
        intro z
        have := d_e1 (a := n) (by omega)
        exact of_decide_eq_false this z.symm
      | some k =>
        rw [hs] at ho
        have := of_decide_eq_true (Bool.and_eq_true_iff.mp ho).2
        show decide (nI k = nI n) = _
        rw [d_eq (by omega) (by omega)]
        by_cases z : k = n
        · rw [decide_eq_true z, decide_eq_true (by rw [z])]
        · rw [decide_eq_false z, decide_eq_false (fun y => z (Option.some.inj y))]
    by_cases q : stN l m = some n
    · obtain ⟨μ1, g1, g2, g3⟩ := s_makesStrip hl hm q hC hT
      have h2 := lp_C (Lo := fun i μ' => m_Mo_timesOnes_80 (nI n) (nI m) (nI l) (nI i) μ') (Li := fun i j μ' => m_Mo_timesOnes_90 (nI n) (nI m) (nI l) (nI i) (nI j) μ') (K := fun μ' => m_Mo_timesOnes_51 (nI n) (nI m) (nI (l + 1)) μ') (μ := μ1) 315 (l * 31) (μ1.2 310) (fun j => μ1.2 314 (m * 31 + j)) (fun i f hi => by
        show m_Mo_timesOnes_80 _ _ _ (nI i) _ = _
        rw [e_Mo_timesOnes_80, bLt hi (by omega)]) (fun i hi => by
        by_cases z : μ1.2 310 i = lN 0
        · refine Or.inr ⟨z, fun f => ?_⟩
          show m_Mo_timesOnes_90 _ _ _ (nI i) (nI 0) _ = m_Mo_timesOnes_80 _ _ _ (nI (i + 1)) _
          rw [e_Mo_timesOnes_90, nI_add i 0, bLt (by omega) (by omega), gi hi (by omega), kl (by omega), wL_o (by omega), lgc_eq, bt (decide_eq_true z), nI_p1]
        · refine Or.inl ⟨fun j f hij => ?_, fun f => ?_⟩
          · show m_Mo_timesOnes_90 _ _ _ (nI i) (nI j) _ = m_Mo_timesOnes_90 _ _ _ (nI i) (nI (j + 1)) _
            rw [e_Mo_timesOnes_90, nI_add i j, bLt hij (by omega), gi hi (by omega), kl (by omega), wL_o (by omega), lgc_eq, bf (decide_eq_false z), nI_mul l 31, nI_add (l * 31) i, nI_add (l * 31 + i) j, gi (by omega) (by omega), gi hi (by omega), nI_mul m 31, nI_add (m * 31) j, gi (by omega) (by omega), gi (by omega) (by omega), kl (by omega), kl (by omega), wL_u, wL_s, wL_o (by omega), nI_p1]
          · show m_Mo_timesOnes_90 _ _ _ (nI i) (nI (31 - i)) _ = m_Mo_timesOnes_80 _ _ _ (nI (i + 1)) _
            rw [e_Mo_timesOnes_90, nI_add i (31 - i), bLf (by omega) (by omega), nI_p1]) (fun f => by
        show m_Mo_timesOnes_80 _ _ _ (nI 31) _ = _
        rw [e_Mo_timesOnes_80, bLf (by omega) (by omega), nI_p1])
      have F2 : Fr fTo μ (wL μ1 315 (cvRow (l * 31) (μ1.2 310) (fun j => μ1.2 314 (m * 31 + j)) (μ1.2 315))) := (g2.w (fun c hc => by omega)).t2 (Fr.wL (by omega))
      have hF1 := hF.fr g2 (by omega)
      have h1 := h.fr g2 (by omega)
      have hK : TB 315 (fun u => if u < l + 1 then acF n F u (m + 1) else acF n F u m) (wL μ1 315 (cvRow (l * 31) (μ1.2 310) (fun j => μ1.2 314 (m * 31 + j)) (μ1.2 315))) := fun u hu j hj => by
        rw [wL_s]
        show _ = rp (if u < l + 1 then acF n F u (m + 1) else acF n F u m) j
        by_cases c1 : u = l
        · subst c1
          have : _ = rp (if u < u then acF n F u (m + 1) else acF n F u m) j := h1 u hu j hj
          rw [if_neg (by omega)] at this
          have eA : acF n F u (m + 1) = addP (acF n F u m) (mulP (stP u m n) (F m)) := if_pos ⟨hz, q⟩
          rw [cvRow_in hj, this, if_pos (by omega), eA, rp_add, rp_mul]
          congr 1
          exact pmul_congr (fun i hi => g3 i (by omega)) (fun i hi => hF1 m hm i (by omega))
        · have : _ = rp (if u < l then acF n F u (m + 1) else acF n F u m) j := h1 u hu j hj
          rw [cvRow_out (by omega), this]
          by_cases c2 : u < l
          · rw [if_pos c2, if_pos (by omega)]
          · rw [if_neg c2, if_neg (by omega)]
      obtain ⟨μ3, k1, k2, k3⟩ := s_to_51 hn hm hz f (l + 1) _ (by omega) (hC.fr F2 (fun c a b => by omega) (by omega)) (hT.fr F2 (by omega) (by omega) (by omega)) (hF.fr F2 (by omega)) hK
      refine ⟨μ3, ?_, F2.t2 k2, k3⟩
      rw [e_Mo_timesOnes_51, bLt hl (by omega), s_strip hl hm hT, cI_s, q3, bt (decide_eq_true q), g1, cV_s, h2, k1]
    · obtain ⟨μ3, k1, k2, k3⟩ := s_to_51 hn hm hz f (l + 1) μ (by omega) hC hT hF (h.ext (fun u hu => by
        by_cases c1 : u = l
        · subst c1
          rw [if_neg (by omega), if_pos (by omega)]
          exact (if_neg (fun z => q z.2)).symm
        · by_cases c2 : u < l
          · rw [if_pos c2, if_pos (by omega)]
          · rw [if_neg c2, if_neg (by omega)]))
      refine ⟨μ3, ?_, k2, k3⟩
      rw [e_Mo_timesOnes_51, bLt hl (by omega), s_strip hl hm hT, cI_s, q3, bf (decide_eq_false q), nI_p1, k1]
abbrev fTp (k : Nat) : Prop := k = 310 ∨ k = 311 ∨ k = 314 ∨ k = 315
theorem s_to_24 {n : Nat} (hn : n < 6) {F : Nat → List Int} : ∀ (f m : Nat) (μ : Mm), m + f = 19 → CT μ → MT μ → TB 314 F μ → TB 315 (fun u => acF n F u m) μ → ∃ μ', m_Mo_timesOnes_24 (nI n) (nI m) μ = some (none, μ') ∧ Fr fTp μ μ' ∧ TB 314 (fun u => acF n F u 19) μ'
  | 0, m, μ, e, hC, hT, hF, h => by
    obtain rfl : m = 19 := by omega
    have h3 := lp_L (L := fun i m => m_Mo_timesOnes_176 (nI i) m) (K := kN) (μ := μ) 314 0 589 (fun i _ => μ.2 315 i) (fun i f hi _ => by
      show m_Mo_timesOnes_176 (nI i) _ = m_Mo_timesOnes_176 (nI (i + 1)) _
      rw [e_Mo_timesOnes_176, bLt hi (by omega), gi hi (by omega), gi hi (by omega), nI_p1, kl (by omega), wL_u, wL_o (by omega), Nat.zero_add]) (fun f => by
      show m_Mo_timesOnes_176 (nI 589) _ = _
      rw [e_Mo_timesOnes_176, bLf (by omega) (by omega)])
    refine ⟨wL μ 314 (rowL 0 589 (fun i _ => μ.2 315 i) (μ.2 314)), ?_, Fr.wL (by omega), fun u hu j hj => ?_⟩
    · rw [e_Mo_timesOnes_24, bLf (by omega) (by omega)]
      exact h3
    · rw [wL_s, rowL0 (by omega)]
      exact h u hu j hj
  | f + 1, m, μ, e, hC, hT, hF, h => by
    have hm : m < 19 := by omega
    have hd : decide (degF (fun k => μ.2 314 (m * 31 + k)) 31 = (-5 : Int32)) = zB (F m) := by
      rw [hasB_5, hasB_z (fun j hj => hF m hm j hj), Bool.not_not]
    cases hz : zB (F m)
    · obtain ⟨μ1, g1, g2, g3⟩ := s_to_51 hn hm hz 19 0 μ rfl hC hT hF (h.ext (fun u hu => (if_neg (Nat.not_lt_zero u)).symm))
      obtain ⟨μ2, k1, k2, k3⟩ := s_to_24 hn f (m + 1) μ1 (by omega) (hC.fr g2 (fun c a b => by omega) (by omega)) (hT.fr g2 (by omega) (by omega) (by omega)) (hF.fr g2 (by omega)) g3
      refine ⟨μ2, ?_, (g2.w (fun c hc => by omega)).t2 k2, k3⟩
      rw [e_Mo_timesOnes_24, bLt hm (by omega), nI_mul, s_Mo_degree (by rw [ln314]; omega) (by rw [ln314]; omega), cI_s, hd, hz, cond_false, g1, k1]
    · obtain ⟨μ2, k1, k2, k3⟩ := s_to_24 hn f (m + 1) μ (by omega) hC hT hF (h.ext (fun u hu => (if_neg (fun z => by rw [hz] at z; cases z.1)).symm))
      refine ⟨μ2, ?_, k2, k3⟩
      rw [e_Mo_timesOnes_24, bLt hm (by omega), nI_mul, s_Mo_degree (by rw [ln314]; omega) (by rw [ln314]; omega), cI_s, hd, hz, cond_true, nI_p1, k1]
theorem s_timesOnes {n : Nat} (hn : n < 6) {F : Nat → List Int} {μ : Mm} (hC : CT μ) (hT : MT μ) (hF : TB 314 F μ) : ∃ μ', m_Mo_timesOnes (nI n) μ = some (none, μ') ∧ Fr fTp μ μ' ∧ TB 314 (fun u => acF n F u 19) μ' := by
  have h1 := lp_L (L := fun i m => m_Mo_timesOnes_2 (nI n) (nI i) m) (K := fun m => m_Mo_timesOnes_24 (nI n) (nI 0) m) (μ := μ) 315 0 589 (fun _ _ => lN 0) (fun i f hi _ => by
    show m_Mo_timesOnes_2 _ (nI i) _ = m_Mo_timesOnes_2 _ (nI (i + 1)) _
    rw [e_Mo_timesOnes_2, bLt hi (by omega), gi hi (by omega), nI_p1, kl (by omega), wL_u, Nat.zero_add]) (fun f => by
    show m_Mo_timesOnes_2 _ (nI 589) _ = _
    rw [e_Mo_timesOnes_2, bLf (by omega) (by omega)])
  have F1 : Fr (fun k => k = 315) μ (wL μ 315 (rowL 0 589 (fun _ _ => lN 0) (μ.2 315))) := Fr.wL rfl
  obtain ⟨μ2, k1, k2, k3⟩ := s_to_24 hn 19 0 _ rfl (hC.fr F1 (fun c a b => by omega) (by omega)) (hT.fr F1 (by omega) (by omega) (by omega)) (hF.fr F1 (by omega)) (fun u hu j hj => by
    rw [wL_s, rowL0 (by omega)]
    exact (rp_nil j).symm)
  exact ⟨μ2, (e_Mo_timesOnes _ μ).trans (h1.trans k1), (F1.w (fun c hc => by omega)).t2 k2, k3⟩
/-- times the ones of all columns -/
def tcF (n : Nat) : Nat → Nat → (Nat → List Int) → (Nat → List Int)
  | 0, _, F => F
  | f + 1, i, F => if 0 < colN n i then tcF n f (i + 1) (fun u => acF (colN n i) F u 19) else F
def tcN (m n : Nat) : Nat → List Int := tcF n 5 1 (fun u => if u = m then [1] else [])
theorem s_tc_34 {n : Nat} (hn : n < 19) : ∀ (f i : Nat) (F : Nat → List Int) (μ : Mm), i + f = 6 → 1 ≤ i → CT μ → MT μ → TB 314 F μ → ∃ μ', m_Mo_timesColumns_34 (nI n) (nI i) μ = some (none, μ') ∧ Fr fTp μ μ' ∧ TB 314 (tcF n f i F) μ'
  | 0, i, F, μ, e, hi, hC, hT, h => by
    obtain rfl : i = 6 := by omega
    refine ⟨μ, ?_, Fr.rf, h⟩
    rw [e_Mo_timesColumns_34, bLt (by omega) (by omega)]
  | f + 1, i, F, μ, e, hi, hC, hT, h => by
    have c1 := col_lt hn (i := i) (by omega)
    unfold tcF
    by_cases q : 0 < colN n i
    · obtain ⟨μ1, g1, g2, g3⟩ := s_timesOnes c1 hC hT h
      obtain ⟨μ2, k1, k2, k3⟩ := s_tc_34 hn f (i + 1) _ μ1 (by omega) (by omega) (hC.fr g2 (fun c a b => by omega) (by omega)) (hT.fr g2 (by omega) (by omega) (by omega)) g3
      rw [if_pos q]
      refine ⟨μ2, ?_, g2.t2 k2, k3⟩
      rw [e_Mo_timesColumns_34, bLf (by omega) (by omega), s_Mo_column hT hn hi (by omega), cI_s, bLt q (by omega), s_Mo_column hT hn hi (by omega), cI_s, g1, cV_s, nI_p1, k1]
    · rw [if_neg q]
      refine ⟨μ, ?_, Fr.rf, h⟩
      rw [e_Mo_timesColumns_34, bLf (by omega) (by omega), s_Mo_column hT hn hi (by omega), cI_s, bLf (by omega) (by omega)]
theorem s_timesColumns {m n : Nat} (hm : m < 19) (hn : n < 19) {μ : Mm} (hC : CT μ) (hT : MT μ) : ∃ μ', m_Mo_timesColumns (nI m) (nI n) μ = some (none, μ') ∧ Fr fTp μ μ' ∧ TB 314 (tcN m n) μ' := by
  have h1 := lp_L (L := fun i μ' => m_Mo_timesColumns_2 (nI m) (nI n) (nI i) μ') (K := fun μ' => m_Mo_timesColumns_34 (nI n) (nI 1) (sL μ' 314 (m * 31) (lN 1))) (μ := μ) 314 0 589 (fun _ _ => lN 0) (fun i f hi _ => by
    show m_Mo_timesColumns_2 _ _ (nI i) _ = m_Mo_timesColumns_2 _ _ (nI (i + 1)) _
    rw [e_Mo_timesColumns_2, bLt hi (by omega), gi hi (by omega), nI_p1, kl (by omega), wL_u, Nat.zero_add]) (fun f => by
    show m_Mo_timesColumns_2 _ _ (nI 589) _ = _
    rw [e_Mo_timesColumns_2, bLf (by omega) (by omega), nI_mul, gi (by omega) (by omega), kl (by omega)])
  have F1 : Fr (fun k => k = 314) μ (sL (wL μ 314 (rowL 0 589 (fun _ _ => lN 0) (μ.2 314))) 314 (m * 31) (lN 1)) := (Fr.wL (S := fun k => k = 314) rfl).t2 (Fr.sL rfl)
  obtain ⟨μ2, k1, k2, k3⟩ := s_tc_34 hn 5 1 (fun u => if u = m then [1] else []) _ rfl (by omega) (hC.fr F1 (fun c a b => by omega) (by omega)) (hT.fr F1 (by omega) (by omega) (by omega)) (fun u hu j hj => by
    rw [sL_s, wL_s]
    show _ = rp (if u = m then [1] else []) j
    by_cases q : u = m
    · rw [if_pos q, q]
      cases j with
      | zero => rw [Nat.add_zero, uL_s]; decide
      | succ j => rw [uL_o (by omega), rowL0 (by omega), rp_s, rp_nil]
    · rw [if_neg q, uL_o (by omega), rowL0 (by omega), rp_nil])
  exact ⟨μ2, (e_Mo_timesColumns _ _ μ).trans (h1.trans k1), (F1.w (fun c hc => by omega)).t2 k2, k3⟩
