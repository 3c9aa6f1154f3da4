/-! sums of types (mixes): the class's side; copies of rows and shelves; image, back but for the group -/
abbrev mS (k : Nat) (c : Nat) : Prop := k + 2 ≤ c ∧ c < k + 21
def MX (k : Nat) (f : Nat → Nat → Int64) (μ : Mm) : Prop := ∀ t, t < 19 → ∀ j, j < 31 → μ.2 (k + 2 + t) j = f t j
theorem MX.fr {k : Nat} {f : Nat → Nat → Int64} {S : Nat → Prop} {μ μ' : Mm} (h : MX k f μ) (g : Fr S μ μ') (h1 : ∀ c, k + 2 ≤ c → c < k + 21 → ¬ S c) : MX k f μ' := fun t ht j hj => by
  rw [(g _ (h1 _ (by omega) (by omega))).2]
  exact h t ht j hj
theorem MX.ext {k : Nat} {f g : Nat → Nat → Int64} {μ : Mm} (h : MX k f μ) (e : ∀ t, t < 19 → ∀ j, j < 31 → f t j = g t j) : MX k g μ := fun t ht j hj => (h t ht j hj).trans (e t ht j hj)
abbrev kN (m : Mm) : Option Rs := some (none, m)
theorem mxT {k : Nat} (hk : Mx k = true) : (isO k 3 && (true && true)) = true := by rw [mx1 hk]; rfl
theorem s_Mi_writeZero {k : Nat} (hk : Mx k = true) (μ : Mm) : ∃ μ', m_Mi_writeZero k μ = some (none, μ') ∧ Fr (mS k) μ μ' ∧ MX k (fun _ _ => lN 0) μ' := by
  rw [e_Mi_writeZero]
  refine lp_E (L := fun i m => m_Mi_writeZero_2 k (nI i) m) (K := kN) (P := fun i m => Fr (mS k) μ m ∧ ∀ t, t < i → ∀ j, j < 31 → m.2 (k + 2 + t) j = lN 0) (n := 19) (fun i m hi hP => ?_) (fun m _ => ?_) ⟨Fr.rf, fun t ht => absurd ht (Nat.not_lt_zero t)⟩
  · obtain ⟨a, b, c⟩ := mx6 hk hi
    obtain ⟨g, g1, g2⟩ := s_writeZero b c (by omega) m
    refine ⟨wL m (k + 2 + i) g, ?_, hP.1.t2 (Fr.wL ⟨by omega, by omega⟩), fun t ht j hj => ?_⟩
    · show m_Mi_writeZero_2 k (nI i) m = m_Mi_writeZero_2 k (nI (i + 1)) _
      rw [e_Mi_writeZero_2, gd_h (mx1 hk), mx2 hk, gd_h (mx3 hk), mx4 hk, bLt hi (by omega), gd_h (mx1 hk), mx5 hk, gi hi (by omega), kl (by omega), a, g1, cV_s, nI_p1]
    · by_cases q : t = i
      · rw [q, wL_s, g2 j hj]
      · rw [wL_o (by omega), hP.2 t (by omega) j hj]
  · show m_Mi_writeZero_2 k (nI 19) m = _
    rw [e_Mi_writeZero_2, gd_h (mx1 hk), mx2 hk, gd_h (mx3 hk), mx4 hk, bLf (by omega) (by omega)]
theorem s_Mi_writeSingle {k : Nat} (hk : Mx k = true) {t : Nat} (ht : t < 19) (x : Int64) (μ : Mm) : ∃ μ', m_Mi_writeSingle k (nI t) x μ = some (none, μ') ∧ Fr (mS k) μ μ' ∧ MX k (fun u j => if u = t ∧ j = 0 then x else lN 0) μ' := by
  obtain ⟨μ1, h1, h2, h3⟩ := s_Mi_writeZero hk μ
  obtain ⟨a, b, c⟩ := mx6 hk ht
  refine ⟨sL μ1 (k + 2 + t) 0 x, ?_, h2.t2 (Fr.sL ⟨by omega, by omega⟩), fun u hu j hj => ?_⟩
  · rw [e_Mi_writeSingle, gd_h (mxT hk), h1, cV_s, gd_h (mxT hk), s_Mi_rowOf hk ht, cA_s, lnL_of b, c, gi (by omega) (by omega), kl (by omega)]
  · show _ = if u = t ∧ j = 0 then x else lN 0
    by_cases q : u = t
    · rw [q, sL_s]
      by_cases q2 : j = 0
      · rw [if_pos ⟨rfl, q2⟩, q2, uL_s]
      · rw [if_neg (fun z => q2 z.2), uL_o q2, h3 t ht j hj]
    · rw [if_neg (fun z => q z.1), sL_o (by omega), h3 u hu j hj]
theorem s_Mi_copyFrom {a b : Nat} (ha : Mx a = true) (hb : Mx b = true) (hab : a + 21 ≤ b ∨ b + 21 ≤ a) (μ : Mm) : ∃ μ', m_Mi_copyFrom a b μ = some (none, μ') ∧ Fr (mS a) μ μ' ∧ MX a (fun t j => μ.2 (b + 2 + t) j) μ' := by
  rw [e_Mi_copyFrom]
  refine lp_E (L := fun i m => m_Mi_copyFrom_2 a b (nI i) m) (K := kN) (P := fun i m => Fr (mS a) μ m ∧ ∀ t, t < i → ∀ j, j < 31 → m.2 (a + 2 + t) j = μ.2 (b + 2 + t) j) (n := 19) (fun i m hi hP => ?_) (fun m _ => ?_) ⟨Fr.rf, fun t ht => absurd ht (Nat.not_lt_zero t)⟩
  · obtain ⟨a1, a2, a3⟩ := mx6 ha hi
    obtain ⟨b1, b2, b3⟩ := mx6 hb hi
    obtain ⟨g, g1, g2⟩ := s_copy (a := b + 2 + i) (b := a + 2 + i) (by omega) b2 b3 a2 a3 (by omega) m
    refine ⟨wL m (a + 2 + i) g, ?_, hP.1.t2 (Fr.wL ⟨by omega, by omega⟩), fun t ht j hj => ?_⟩
    · show m_Mi_copyFrom_2 a b (nI i) m = m_Mi_copyFrom_2 a b (nI (i + 1)) _
      rw [e_Mi_copyFrom_2, gd_h (mx1 ha), mx2 ha, gd_h (mx3 ha), mx4 ha, bLt hi (by omega), gd_h (mxT hb), s_Mi_rowOf hb hi, cA_s, gd_h (mx1 ha), mx5 ha, gi hi (by omega), kl (by omega), a1, g1, cV_s, nI_p1]
    · by_cases q : t = i
      · rw [q, wL_s, g2 j hj, (hP.1 _ (by omega)).2]
      · rw [wL_o (by omega), hP.2 t (by omega) j hj]
  · show m_Mi_copyFrom_2 a b (nI 19) m = _
    rw [e_Mi_copyFrom_2, gd_h (mx1 ha), mx2 ha, gd_h (mx3 ha), mx4 ha, bLf (by omega) (by omega)]
theorem s_Mi_add {a b : Nat} (ha : Mx a = true) (hb : Mx b = true) (hab : a + 21 ≤ b ∨ b + 21 ≤ a) (x : Int64) (μ : Mm) : ∃ μ', m_Mi_add a b x μ = some (none, μ') ∧ Fr (mS a) μ μ' ∧ MX a (fun t j => μ.2 (a + 2 + t) j + μ.2 (b + 2 + t) j * x) μ' := by
  rw [e_Mi_add]
  have key := lp_E (L := fun i m => m_Mi_add_3 a b x (nI i) m) (K := kN) (P := fun i m => Fr (mS a) μ m ∧ (∀ t, t < i → ∀ j, j < 31 → m.2 (a + 2 + t) j = μ.2 (a + 2 + t) j + μ.2 (b + 2 + t) j * x) ∧ ∀ t, i ≤ t → m.2 (a + 2 + t) = μ.2 (a + 2 + t)) (n := 19) (m := μ) (fun i m hi hP => ?_) (fun m _ => ?_) ⟨Fr.rf, fun t ht => absurd ht (Nat.not_lt_zero t), fun _ _ => rfl⟩
  · obtain ⟨m', k1, k2, k3, -⟩ := key
    exact ⟨m', k1, k2, k3⟩
  · obtain ⟨a1, a2, a3⟩ := mx6 ha hi
    obtain ⟨b1, b2, b3⟩ := mx6 hb hi
    obtain ⟨g, g1, g2⟩ := s_add (t := x) (a := a + 2 + i) (b := b + 2 + i) (by omega) a2 a3 b2 b3 (by omega) m
    refine ⟨wL m (a + 2 + i) g, ?_, hP.1.t2 (Fr.wL ⟨by omega, by omega⟩), fun t ht j hj => ?_, fun t ht => ?_⟩
    · show m_Mi_add_3 a b x (nI i) m = m_Mi_add_3 a b x (nI (i + 1)) _
      rw [e_Mi_add_3, gd_h (mx1 ha), mx2 ha, gd_h (mx3 ha), mx4 ha, bLt hi (by omega), gd_h (mx1 ha), mx5 ha, gi hi (by omega), gd_h (mxT hb), s_Mi_rowOf hb hi, cA_s, kl (by omega), a1, g1, cV_s, nI_p1]
    · by_cases q : t = i
      · rw [q, wL_s, g2 j hj, hP.2.2 i (Nat.le_refl i), (hP.1 (b + 2 + i) (by omega)).2]
      · rw [wL_o (by omega), hP.2.1 t (by omega) j hj]
    · rw [wL_o (by omega), hP.2.2 t (by omega)]
  · show m_Mi_add_3 a b x (nI 19) m = _
    rw [e_Mi_add_3, gd_h (mx1 ha), mx2 ha, gd_h (mx3 ha), mx4 ha, bLf (by omega) (by omega)]
/-- the greatest size of a term -/
def grt (f : Nat → Nat → Int64) : Nat → Int32
  | 0 => (-5 : Int32)
  | t + 1 => if hasB (f t) then nI (sizN t) else grt f t
theorem s_Mi_greatest_8 {k : Nat} (hk : Mx k = true) {f : Nat → Nat → Int64} {μ : Mm} (h : MX k f μ) : ∀ t, t < 19 → m_Mi_greatest_8 k (nI t) μ = some (some (.int (grt f (t + 1))), μ)
  | 0, ht => by
    rw [e_Mi_greatest_8, bf (nI_lt0 (by omega)), gd_h (mxT hk), s_Mi_hasTerm hk ht, cI_s, b2i_n, nI_z1, hasB_congr (h 0 ht), s_Ty_size ht, cI_s, e_Mi_greatest_8, bt d_neg]
    show _ = some (some (Value.int (if hasB (f 0) then nI (sizN 0) else (-5 : Int32))), μ)
    cases hasB (f 0) <;> rfl
  | t + 1, ht => by
    rw [e_Mi_greatest_8, bf (nI_lt0 (by omega)), gd_h (mxT hk), s_Mi_hasTerm hk ht, cI_s, b2i_n, nI_m1, hasB_congr (h (t + 1) ht), s_Ty_size ht, cI_s, s_Mi_greatest_8 hk h t (by omega)]
    show _ = some (some (Value.int (if hasB (f (t + 1)) then nI (sizN (t + 1)) else grt f (t + 1))), μ)
    cases hasB (f (t + 1)) <;> rfl
theorem s_Mi_greatest {k : Nat} (hk : Mx k = true) {f : Nat → Nat → Int64} {μ : Mm} (h : MX k f μ) : m_Mi_greatest k μ = some (some (.int (grt f 19)), μ) := by
  rw [e_Mi_greatest, gd_h (mx1 hk), mx2 hk, gd_h (mx3 hk), mx4 hk, nI_sub (by omega), s_Mi_greatest_8 hk h 18 (by omega)]
/-- shelves copied: the class's -/
def Sg (a : Nat) : Bool := isO a 4 && (decide (sub a 2 = a + 1) && decide (lnI (a + 1) = 20))
theorem sg_all : ∀ a, a ∈ [266, 268, 270, 272, 298, 300, 302, 304] → Sg a = true := by decide +kernel
theorem sg_ok : ∀ a, a ∈ [266, 268, 270, 272, 298, 300, 302, 304] → ∀ b, b ∈ [266, 268, 270, 272, 298, 300, 302, 304] → (cpyOk (nI 0) (nI 0) (nI 20) (sub b 2) (sub a 2) && (true && true)) = true := by decide +kernel
theorem s_Sh_copyFrom {a b : Nat} (ha : a ∈ [266, 268, 270, 272, 298, 300, 302, 304]) (hb : b ∈ [266, 268, 270, 272, 298, 300, 302, 304]) (hab : a + 1 < b ∨ b + 1 < a) (μ : Mm) : ∃ μ', m_Sh_copyFrom a b μ = some (none, μ') ∧ Fr (fun k => k = a ∨ k = a + 1) μ μ' ∧ μ'.1 a 0 = μ.1 b 0 ∧ μ'.1 a 1 = μ.1 b 1 ∧ ∀ i, i < 20 → μ'.1 (a + 1) i = μ.1 (b + 1) i := by
  obtain ⟨p1, p2⟩ := Bool.and_eq_true_iff.mp (sg_all a ha)
  obtain ⟨p2, p3⟩ := Bool.and_eq_true_iff.mp p2
  obtain ⟨q1, q2⟩ := Bool.and_eq_true_iff.mp (sg_all b hb)
  obtain ⟨q2, q3⟩ := Bool.and_eq_true_iff.mp q2
  have hc := sg_ok a ha b hb
  have p2' := of_decide_eq_true p2
  have q2' := of_decide_eq_true q2
  have z : (isO a 4 && true) = true := by rw [p1]; rfl
  rw [e_Sh_copyFrom, gd_h q1, gd_h z, gd_h q1, gd_h z, gd_h q1, gd_h p1, gd_h hc, p2', q2']
  refine ⟨_, rfl, ((Fr.sI (S := fun k => k = a ∨ k = a + 1) (Or.inl rfl)).t2 (Fr.sI (Or.inl rfl))).t2 (Fr.sR (Or.inr rfl)), ?_, ?_, fun i hi => ?_⟩
  · rw [sR_o (by omega), sI_s, up_o (by omega), sI_s, up_s]
  · rw [sR_o (by omega), sI_s, up_s, sI_o (by omega)]
  · rw [sR_s, sI_o (by omega), sI_o (by omega)]
    unfold va_cpy
    rw [kl (by omega), kl (by omega), if_pos ⟨Nat.zero_le i, by omega⟩, Nat.zero_add]
    rfl
theorem shB : ∀ b, b ∈ [266, 298] → ∀ s, s < 4 → b + 2 * s ∈ [266, 268, 270, 272, 298, 300, 302, 304] := by decide +kernel
theorem shA : ∀ b, b ∈ [266, 298] → (Nat.ble (shK (b - 1)) 5 && (decide (shN (b - 1) = 4) && (decide (lnQ (b - 1) = 4) && (List.range 4).all fun s => decide (sub (b - 1) s = b + 2 * s) && isO (b + 2 * s) 4))) = true := by decide +kernel
theorem s_copyShelves {a b : Nat} (ha : a ∈ [266, 298]) (hb : b ∈ [266, 298]) (hab : a + 8 ≤ b ∨ b + 8 ≤ a) (μ : Mm) : ∃ μ', m_TI_copyShelves (b - 1) (a - 1) μ = some (none, μ') ∧ Fr (fun k => a ≤ k ∧ k < a + 8) μ μ' ∧ ∀ s, s < 4 → μ'.1 (a + 2 * s) 0 = μ.1 (b + 2 * s) 0 ∧ μ'.1 (a + 2 * s) 1 = μ.1 (b + 2 * s) 1 ∧ ∀ i, i < 20 → μ'.1 (a + 2 * s + 1) i = μ.1 (b + 2 * s + 1) i := by
  obtain ⟨a1, a2⟩ := Bool.and_eq_true_iff.mp (shA a ha)
  obtain ⟨a2, a3⟩ := Bool.and_eq_true_iff.mp a2
  obtain ⟨a3, a4⟩ := Bool.and_eq_true_iff.mp a3
  obtain ⟨b1, b2⟩ := Bool.and_eq_true_iff.mp (shA b hb)
  obtain ⟨b2, b3⟩ := Bool.and_eq_true_iff.mp b2
  obtain ⟨b3, b4⟩ := Bool.and_eq_true_iff.mp b3
  have a2' := of_decide_eq_true a2
  have b2' := of_decide_eq_true b2
  have a3' := of_decide_eq_true a3
  have b3' := of_decide_eq_true b3
  have fa : ∀ s, s < 4 → sub (a - 1) s = a + 2 * s ∧ isO (a + 2 * s) 4 = true := fun s hs => by
    obtain ⟨x, y⟩ := Bool.and_eq_true_iff.mp (List.all_eq_true.mp a4 s (List.mem_range.mpr hs))
    exact ⟨of_decide_eq_true x, y⟩
  have fb : ∀ s, s < 4 → sub (b - 1) s = b + 2 * s ∧ isO (b + 2 * s) 4 = true := fun s hs => by
    obtain ⟨x, y⟩ := Bool.and_eq_true_iff.mp (List.all_eq_true.mp b4 s (List.mem_range.mpr hs))
    exact ⟨of_decide_eq_true x, y⟩
  rw [e_TI_copyShelves]
  refine lp_E (L := fun i m => m_TI_copyShelves_2 (b - 1) (a - 1) (nI i) m) (K := kN) (P := fun i m => Fr (fun k => a ≤ k ∧ k < a + 8) μ m ∧ ∀ s, s < i → m.1 (a + 2 * s) 0 = μ.1 (b + 2 * s) 0 ∧ m.1 (a + 2 * s) 1 = μ.1 (b + 2 * s) 1 ∧ ∀ i, i < 20 → m.1 (a + 2 * s + 1) i = μ.1 (b + 2 * s + 1) i) (n := 4) (fun i m hi hP => ?_) (fun m _ => ?_) ⟨Fr.rf, fun t ht => absurd ht (Nat.not_lt_zero t)⟩
  · obtain ⟨m1, g1, g2, g3, g4, g5⟩ := s_Sh_copyFrom (shB a ha i hi) (shB b hb i hi) (by omega) m
    have z : (isO (a + 2 * i) 4 && (true && true)) = true := by rw [(fa i hi).2]; rfl
    refine ⟨m1, ?_, hP.1.t2 (g2.w (fun k hk => by omega)), fun s hs => ?_⟩
    · show m_TI_copyShelves_2 (b - 1) (a - 1) (nI i) m = m_TI_copyShelves_2 (b - 1) (a - 1) (nI (i + 1)) m1
      rw [e_TI_copyShelves_2, gd_h b1, b2', bLt hi (by omega), gd_h a1, a2', bLt hi (by omega), a3', gi hi (by omega), b3', gi hi (by omega), kl (by omega), (fa i hi).1, (fb i hi).1, gd_h z, g1, cV_s, nI_p1]
    · by_cases q : s = i
      · subst q
        have f1 := (hP.1 (b + 2 * s) (by omega)).1
        have f2 := (hP.1 (b + 2 * s + 1) (by omega)).1
        exact ⟨by rw [g3, f1], by rw [g4, f1], fun j hj => by rw [g5 j hj, f2]⟩
      · have f1 := (g2 (a + 2 * s) (by omega)).1
        have f2 := (g2 (a + 2 * s + 1) (by omega)).1
        obtain ⟨h1, h2, h3⟩ := hP.2 s (by omega)
        exact ⟨by rw [f1, h1], by rw [f1, h2], fun j hj => by rw [f2, h3 j hj]⟩
  · show m_TI_copyShelves_2 (b - 1) (a - 1) (nI 4) m = _
    rw [e_TI_copyShelves_2, gd_h b1, b2', bLf (by omega) (by omega)]
/-- the reference's copies: image, back behind the group -/
theorem s_Mo_image_18 (μ : Mm) : ∃ μ', m_Mo_image_18 (nI 0) μ = some (some (.int (μ.1 306 16)), μ') ∧ Fr (fun k => 332 ≤ k ∧ k < 336) μ μ' ∧ (∀ j, j < 589 → μ'.2 332 j = μ.2 327 j) ∧ (∀ s, s < 4 → μ'.1 333 s = μ.1 328 s ∧ μ'.1 334 s = μ.1 329 s) ∧ ∀ j, j < 80 → μ'.1 335 j = μ.1 330 j := by
  have h1 := lp_L (L := fun i m => m_Mo_image_18 (nI i) m) (K := fun m => m_Mo_image_45 (nI 0) m) (μ := μ) 332 0 589 (fun i _ => μ.2 327 i) (fun i f hi _ => by
    show m_Mo_image_18 (nI i) _ = m_Mo_image_18 (nI (i + 1)) _
    rw [e_Mo_image_18, bLt hi (by omega), gi hi (by omega), gi hi (by omega), kl (by omega), nI_p1, wL_u, wL_o (by omega), Nat.zero_add]) (fun f => by
    show m_Mo_image_18 (nI 589) _ = _
    rw [e_Mo_image_18, bLf (by omega) (by omega)])
  obtain ⟨m2, k1, k2, k3⟩ := lp_E (L := fun i m => m_Mo_image_45 (nI i) m) (K := fun m => m_Mo_image_82 (nI 0) m) (P := fun i m => Fr (fun k => k = 333 ∨ k = 334) (wL μ 332 (rowL 0 589 (fun i _ => μ.2 327 i) (μ.2 332))) m ∧ ∀ s, s < i → m.1 333 s = μ.1 328 s ∧ m.1 334 s = μ.1 329 s) (n := 4) (m := wL μ 332 (rowL 0 589 (fun i _ => μ.2 327 i) (μ.2 332))) (fun i m hi hP => by
    refine ⟨sI (sI m 333 i (m.1 328 i)) 334 i ((sI m 333 i (m.1 328 i)).1 329 i), ?_, hP.1.t2 ((Fr.sI (Or.inl rfl)).t2 (Fr.sI (Or.inr rfl))), fun s hs => ?_⟩
    · show m_Mo_image_45 (nI i) m = m_Mo_image_45 (nI (i + 1)) _
      rw [e_Mo_image_45, bLt hi (by omega), gi hi (by omega), gi hi (by omega), gi hi (by omega), gi hi (by omega), kl (by omega), nI_p1]
    · rw [sI_o (by omega), sI_s, sI_s, sI_o (by omega), sI_o (by omega), (hP.1 328 (by omega)).1, (hP.1 329 (by omega)).1]
      by_cases q : s = i
      · rw [q, up_s, up_s]
        exact ⟨rfl, rfl⟩
      · rw [up_o q, up_o q]
        exact hP.2 s (by omega)) (fun m _ => by
    show m_Mo_image_45 (nI 4) m = _
    rw [e_Mo_image_45, bLf (by omega) (by omega)]) ⟨Fr.rf, fun t ht => absurd ht (Nat.not_lt_zero t)⟩
  have h3 := lp_I (L := fun i m => m_Mo_image_82 (nI i) m) (K := fun m => some (some (.int (m.1 306 16)), m)) (μ := m2) 335 0 80 (fun i _ => m2.1 330 i) (fun i f hi _ => by
    show m_Mo_image_82 (nI i) _ = m_Mo_image_82 (nI (i + 1)) _
    rw [e_Mo_image_82, bLt hi (by omega), gi hi (by omega), gi hi (by omega), kl (by omega), nI_p1, sR_u, sR_o (by omega), Nat.zero_add]) (fun f => by
    show m_Mo_image_82 (nI 80) _ = _
    rw [e_Mo_image_82, bLf (by omega) (by omega)])
  have F1 : Fr (fun k => 332 ≤ k ∧ k < 336) μ m2 := (Fr.wL (by omega)).t2 (k2.w (fun k hk => by omega))
  refine ⟨sR m2 335 (rowI 0 80 (fun i _ => m2.1 330 i) (m2.1 335)), h1.trans (k1.trans (h3.trans ?_)), F1.t2 (Fr.sR (by omega)), fun j hj => ?_, fun s hs => ?_, fun j hj => ?_⟩
  · show some (some (Value.int ((sR m2 335 _).1 306 16)), _) = _
    rw [sR_o (by omega), (F1 306 (by omega)).1]
  · rw [sR_2, (k2 332 (by omega)).2, wL_s]
    unfold rowL
    rw [if_pos ⟨Nat.zero_le j, by omega⟩]
    rfl
  · rw [sR_o (by omega), sR_o (by omega)]
    exact k3 s hs
  · rw [sR_s, ← (F1 330 (by omega)).1]
    unfold rowI
    rw [if_pos ⟨Nat.zero_le j, by omega⟩]
    rfl
theorem s_Mo_back_25 (μ : Mm) : ∃ μ', m_Mo_back_25 (nI 0) μ = some (some (.int (μ.1 306 16)), μ') ∧ Fr (fun k => 327 ≤ k ∧ k < 331) μ μ' ∧ (∀ j, j < 589 → μ'.2 327 j = μ.2 332 j) ∧ (∀ s, s < 4 → μ'.1 328 s = μ.1 333 s ∧ μ'.1 329 s = μ.1 334 s) ∧ ∀ j, j < 80 → μ'.1 330 j = μ.1 335 j := by
  have h1 := lp_L (L := fun i m => m_Mo_back_25 (nI i) m) (K := fun m => m_Mo_back_52 (nI 0) m) (μ := μ) 327 0 589 (fun i _ => μ.2 332 i) (fun i f hi _ => by
    show m_Mo_back_25 (nI i) _ = m_Mo_back_25 (nI (i + 1)) _
    rw [e_Mo_back_25, bLt hi (by omega), gi hi (by omega), gi hi (by omega), kl (by omega), nI_p1, wL_u, wL_o (by omega), Nat.zero_add]) (fun f => by
    show m_Mo_back_25 (nI 589) _ = _
    rw [e_Mo_back_25, bLf (by omega) (by omega)])
  obtain ⟨m2, k1, k2, k3⟩ := lp_E (L := fun i m => m_Mo_back_52 (nI i) m) (K := fun m => m_Mo_back_89 (nI 0) m) (P := fun i m => Fr (fun k => k = 328 ∨ k = 329) (wL μ 327 (rowL 0 589 (fun i _ => μ.2 332 i) (μ.2 327))) m ∧ ∀ s, s < i → m.1 328 s = μ.1 333 s ∧ m.1 329 s = μ.1 334 s) (n := 4) (m := wL μ 327 (rowL 0 589 (fun i _ => μ.2 332 i) (μ.2 327))) (fun i m hi hP => by
    refine ⟨sI (sI m 328 i (m.1 333 i)) 329 i ((sI m 328 i (m.1 333 i)).1 334 i), ?_, hP.1.t2 ((Fr.sI (Or.inl rfl)).t2 (Fr.sI (Or.inr rfl))), fun s hs => ?_⟩
    · show m_Mo_back_52 (nI i) m = m_Mo_back_52 (nI (i + 1)) _
      rw [e_Mo_back_52, bLt hi (by omega), gi hi (by omega), gi hi (by omega), gi hi (by omega), gi hi (by omega), kl (by omega), nI_p1]
    · rw [sI_o (by omega), sI_s, sI_s, sI_o (by omega), sI_o (by omega), (hP.1 333 (by omega)).1, (hP.1 334 (by omega)).1]
      by_cases q : s = i
      · rw [q, up_s, up_s]
        exact ⟨rfl, rfl⟩
      · rw [up_o q, up_o q]
        exact hP.2 s (by omega)) (fun m _ => by
    show m_Mo_back_52 (nI 4) m = _
    rw [e_Mo_back_52, bLf (by omega) (by omega)]) ⟨Fr.rf, fun t ht => absurd ht (Nat.not_lt_zero t)⟩
  have h3 := lp_I (L := fun i m => m_Mo_back_89 (nI i) m) (K := fun m => some (some (.int (m.1 306 16)), m)) (μ := m2) 330 0 80 (fun i _ => m2.1 335 i) (fun i f hi _ => by
    show m_Mo_back_89 (nI i) _ = m_Mo_back_89 (nI (i + 1)) _
    rw [e_Mo_back_89, bLt hi (by omega), gi hi (by omega), gi hi (by omega), kl (by omega), nI_p1, sR_u, sR_o (by omega), Nat.zero_add]) (fun f => by
    show m_Mo_back_89 (nI 80) _ = _
    rw [e_Mo_back_89, bLf (by omega) (by omega)])
  have F1 : Fr (fun k => 327 ≤ k ∧ k < 331) μ m2 := (Fr.wL (by omega)).t2 (k2.w (fun k hk => by omega))
  refine ⟨sR m2 330 (rowI 0 80 (fun i _ => m2.1 335 i) (m2.1 330)), h1.trans (k1.trans (h3.trans ?_)), F1.t2 (Fr.sR (by omega)), fun j hj => ?_, fun s hs => ?_, fun j hj => ?_⟩
  · show some (some (Value.int ((sR m2 330 _).1 306 16)), _) = _
    rw [sR_o (by omega), (F1 306 (by omega)).1]
  · rw [sR_2, (k2 327 (by omega)).2, wL_s]
    unfold rowL
    rw [if_pos ⟨Nat.zero_le j, by omega⟩]
    rfl
  · rw [sR_o (by omega), sR_o (by omega)]
    exact k3 s hs
  · rw [sR_s, ← (F1 335 (by omega)).1]
    unfold rowI
    rw [if_pos ⟨Nat.zero_le j, by omega⟩]
    rfl
/-- how many shelves hold a row -/
def held (v : Sv) : Nat → Nat → Nat → Nat
  | 0, _, c => c
  | f + 1, s, c => held v f (s + 1) (if (v s).1 = 0 then c else c + 1)
theorem s_TI_shelvesHeld_4 {v : Sv} {μ : Mm} (hV : VS v) (h : SC 266 v μ) : ∀ (f s c : Nat), s + f = 4 → m_TI_shelvesHeld_4 (nI c) (nI s) μ = some (some (.int (nI (held v f s c))), μ)
  | 0, s, c, e => by
    obtain rfl : s = 4 := by omega
    rw [e_TI_shelvesHeld_4, bLf (by omega) (by omega)]
    rfl
  | f + 1, s, c, e => by
    have hs : s < 4 := by omega
    have z : sub 265 s = 266 + 2 * s := (show ∀ s, s < 4 → sub 265 s = 266 + 2 * s by decide +kernel) s hs
    rw [e_TI_shelvesHeld_4, bLt hs (by omega), gi hs (by omega), kl (by omega), z, gd_h (isT hs), s_Sh_holds hV h hs, cI_s, b2i_n, nI_p1, nI_p1]
    show _ = some (some (Value.int (nI (held v f (s + 1) (if (v s).1 = 0 then c else c + 1)))), μ)
    by_cases q : (v s).1 = 0
    · rw [decide_eq_true q, if_pos q]
      exact s_TI_shelvesHeld_4 hV h f (s + 1) _ (by omega)
    · rw [decide_eq_false q, if_neg q]
      exact s_TI_shelvesHeld_4 hV h f (s + 1) _ (by omega)
theorem s_Mo_count_72 {v : Sv} {μ : Mm} (hV : VS v) (h : SM 328 329 330 v μ) : ∀ (f s c : Nat), s + f = 4 → m_Mo_count_72 (nI c) (nI s) μ = some (some (.int (nI (held v f s c))), μ)
  | 0, s, c, e => by
    obtain rfl : s = 4 := by omega
    rw [e_Mo_count_72, bLf (by omega) (by omega)]
    rfl
  | f + 1, s, c, e => by
    have hs : s < 4 := by omega
    rw [e_Mo_count_72, bLt hs (by omega), s_Mo_holds hV h hs, cI_s, b2i_n, nI_p1, nI_p1, nI_add]
    show _ = some (some (Value.int (nI (held v f (s + 1) (if (v s).1 = 0 then c else c + 1)))), μ)
    by_cases q : (v s).1 = 0
    · rw [decide_eq_true q, if_pos q]
      exact s_Mo_count_72 hV h f (s + 1) _ (by omega)
    · rw [decide_eq_false q, if_neg q]
      exact s_Mo_count_72 hV h f (s + 1) _ (by omega)
