/-! shares and the mean: both sides -/
def shV (g t : Nat) : UInt32 := FP.fdiv (FP.i2f (nI (cnF g t none (lenG g) 0 0))) (FP.i2f (nI (lenG g)))
theorem sh_ok : ∀ g, g < 32 → ∀ t, t < 19 → okF (shV g t) = true ∧ n32 (shV g t) = true ∧ n32 (FP.fmul (shV g t) (1148846080 : UInt32)) = true := by decide +kernel
theorem al_ok : ∀ g, g < 32 → decide (nI 0 < Op.cmpValue (FP.fcmp (FP.i2f (nI (lenG g))) FP.fconst0) CmpOp.l) = true := by decide +kernel
def mnF (g : Nat) : Nat → Nat → UInt32 → Option UInt32
  | 0, _, v => some v
  | f + 1, i, v => if n32 (FP.fadd v (FP.i2f (nI (q6 (LG g i) % 128)))) = true then mnF g f (i + 1) (FP.fadd v (FP.i2f (nI (q6 (LG g i) % 128)))) else none
def mnB (g : Nat) (o : Option UInt32) : Bool := match o with
  | some v => n32 (FP.fdiv v (FP.i2f (nI (lenG g)))) && okF (FP.fdiv v (FP.i2f (nI (lenG g))))
  | none => false
theorem mn_ok : ∀ g, g < 32 → mnB g (mnF g (lenG g) 0 FP.fconst0) = true := by decide +kernel
section SHR
variable {g : Nat} {μ : Mm}
theorem both_shareOf (hT : MT μ) (hG : GI g μ) {t : Nat} (ht : t < 19) : ∃ μ1 μ2, m_TI_shareOf (nI t) μ = some (some (.float (shV g t)), μ1) ∧ MT μ1 ∧ m_Mo_shareOf (nI t) μ1 = some (some (.float (shV g t)), μ2) ∧ GI g μ2 ∧ Fr fG μ μ2 ∧ ∀ i, (i < 14 ∨ 21 < i) → μ2.1 306 i = μ.1 306 i := by
  obtain ⟨o1, o2, o3⟩ := sh_ok g hG.1 t ht
  obtain ⟨μ1, k1, k2, k3, k4, μ2, m1, m2, m3, m4, m5⟩ := both_count hT hG ht none (fun u h => by cases h)
  rw [show oc none = (-1 : Int32) from rfl] at k3 m1
  refine ⟨μ1, μ2, ?_, k4, ?_, m3, m4, m5⟩
  · rw [e_TI_shareOf, k1, cV_s, e_Gr_subgroupCount, cI_s, k2.1, bt (al_ok g hG.1), k3, cI_s]
    exact gd_h o2
  · rw [e_Mo_shareOf, m1, cI_s, m2]
    exact gd_h o2
/-- promise 20: share -/
theorem both_share (hT : MT μ) (hG : GI g μ) (x : Int32) : Bgl μ (m_TI_share x) (m_Mo_share x) := by
  rcases both_find x with ⟨t, ht, hf⟩ | hf
  · obtain ⟨μ1, μ2, a1, a2, a3, a4, a5, a6⟩ := both_shareOf hT hG ht
    obtain ⟨r, c1, c2⟩ := both_bitsF (sh_ok g hG.1 t ht).1 μ1 μ2
    refine ⟨r.toInt64, μ1, μ2, g, ?_, ?_, a4, a5, a6⟩
    · rw [e_TI_share, (hf μ).1, cI_s, bf (t_ge ht), a1, cF_s, c1, cI_s]
    · rw [e_Mo_share, (hf μ1).2 a2, cI_s, bf (d_e1 (by omega)), a3, cF_s, c2, cI_s]
  · refine ⟨(-9223372036854775808 : Int64), μ, μ, g, ?_, ?_, hG, Fr.rf, fun _ _ => rfl⟩
    · rw [e_TI_share, (hf μ).1, cI_s]
      exact bt d_neg
    · rw [e_Mo_share, (hf μ).2 hT, cI_s]
      exact bt neg1
/-- promise 21: thousandths -/
theorem both_thousandths (hT : MT μ) (hG : GI g μ) (x : Int32) : Bg μ (m_TI_thousandths x) (m_Mo_thousandths x) := by
  rcases both_find x with ⟨t, ht, hf⟩ | hf
  · obtain ⟨μ1, μ2, a1, a2, a3, a4, a5, a6⟩ := both_shareOf hT hG ht
    obtain ⟨o1, o2, o3⟩ := sh_ok g hG.1 t ht
    refine ⟨FP.f2i (FP.fmul (shV g t) (1148846080 : UInt32)), μ1, μ2, g, ?_, ?_, a4, a5, a6⟩
    · rw [e_TI_thousandths, (hf μ).1, cI_s, bf (t_ge ht), a1, cF_s, gd_h o3]
    · rw [e_Mo_thousandths, (hf μ1).2 a2, cI_s, bf (d_e1 (by omega)), a3, cF_s, gd_h o3]
  · refine Bg.same hG (r := (-1 : Int32)) ?_ ?_
    · rw [e_TI_thousandths, (hf μ).1, cI_s]
      exact bt d_neg
    · rw [e_Mo_thousandths, (hf μ).2 hT, cI_s]
      exact bt neg1
theorem pc_q6 {i : Nat} (hg : g < 32) (hi : i < lenG g) : pcF 32 (LG g i) = q6 (LG g i) % 128 := (q_all (lg_lt hg hi)).2.symm
theorem s_mean_19 (hg : g < 32) (hL : LCd g μ) {a : UInt32} : ∀ (f i : Nat) (v : UInt32), i + f = lenG g → mnF g f i v = some a → m_TI_mean_19 v (nI (lenG g)) (nI i) μ = bif decide (nI 0 < nI (lenG g)) then (gd (n32 (FP.fdiv a (FP.i2f (nI (lenG g))))) (cI (m_Bi_ofFloat (FP.fdiv a (FP.i2f (nI (lenG g)))) μ) fun v4 μ3 => some (some (.int v4), μ3))) else (cI (m_Bi_ofFloat FP.fconst0 μ) fun v2 μ1 => some (some (.int v2), μ1))
  | 0, i, v, e, h => by
    have l2 := (len_ok g hg).2
    obtain rfl : i = lenG g := by omega
    cases h
    rw [e_TI_mean_19, bLf (by omega) (by omega)]
  | f + 1, i, v, e, h => by
    have l2 := (len_ok g hg).2
    unfold mnF at h
    by_cases q : n32 (FP.fadd v (FP.i2f (nI (q6 (LG g i) % 128)))) = true
    · rw [if_pos q] at h
      rw [e_TI_mean_19, bLt (by omega) (by omega), e_Gr_subgroupAt, bf (nI_lt0 (by omega)), hL.1, bLt (by omega) (by omega), bLt (by omega) (by omega), gi (by omega) (by omega), kl (by omega), (hL.2 i (by omega)).1, cJ_s, s_bitCount (lg_lt hg (by omega)), cI_s, pc_q6 hg (by omega), gd_h q, nI_p1]
      exact s_mean_19 hg hL f (i + 1) _ (by omega) h
    · rw [if_neg q] at h
      cases h
theorem s_mean_8 (hg : g < 32) (hL : LMd g μ) {a : UInt32} : ∀ (f i : Nat) (v : UInt32), i + f = lenG g → mnF g f i v = some a → m_Mo_mean_8 v (nI i) μ = gd (n32 (FP.fdiv a (FP.i2f (nI (lenG g))))) (cI (m_jF_floatToIntBits (FP.fdiv a (FP.i2f (nI (lenG g)))) μ) fun v2 μ1 => some (some (.int v2), μ1))
  | 0, i, v, e, h => by
    have l2 := (len_ok g hg).2
    obtain rfl : i = lenG g := by omega
    cases h
    rw [e_Mo_mean_8, hL.1, bLf (by omega) (by omega)]
  | f + 1, i, v, e, h => by
    have l2 := (len_ok g hg).2
    have h1 := lg_lt hg (show i < lenG g by omega)
    unfold mnF at h
    by_cases q : n32 (FP.fadd v (FP.i2f (nI (q6 (LG g i) % 128)))) = true
    · rw [if_pos q] at h
      rw [e_Mo_mean_8, hL.1, bLt (by omega) (by omega), gi (by omega) (by omega), kl (by omega), hL.2 i (by omega), s_Mo_bits (by omega), cI_s, pc_q6 hg (by omega), gd_h q, nI_p1]
      exact s_mean_8 hg hL f (i + 1) _ (by omega) h
    · rw [if_neg q] at h
      cases h
/-- promise 24: mean -/
theorem both_mean (hG : GI g μ) : Bg μ m_TI_mean m_Mo_mean := by
  obtain ⟨l1, l2⟩ := len_ok g hG.1
  obtain ⟨μ1, k1, k2, k3, k4, k5, μ2, m1, m2, m3, m4, m5⟩ := both_lists hG
  have ho := mn_ok g hG.1
  cases hm : mnF g (lenG g) 0 FP.fconst0 with
  | none => rw [hm] at ho; cases ho
  | some a =>
    rw [hm] at ho
    obtain ⟨o1, o2⟩ := Bool.and_eq_true_iff.mp ho
    obtain ⟨r, c1, c2⟩ := both_bitsF o2 μ1 μ2
    refine ⟨r, μ1, μ2, g, ?_, ?_, m3, m4, m5⟩
    · rw [e_TI_mean, k1, cV_s, e_Gr_subgroupCount, cI_s, k5.1, s_mean_19 hG.1 k5 (lenG g) 0 _ (by omega) hm, bLt (by omega) (by omega), gd_h o1, c1, cI_s]
    · rw [e_Mo_mean, m1, cV_s, s_mean_8 hG.1 m2 (lenG g) 0 _ (by omega) hm, gd_h o1, c2, cI_s]
end SHR
