/-! count, image, back: both sides -/
abbrev fIm (k : Nat) : Prop := k = 0 ∨ (278 ≤ k ∧ k < 306) ∨ k = 306 ∨ (332 ≤ k ∧ k < 336)
/-- what an image holds -/
def IMd (μ : Mm) : Prop := μ.1 0 7 = nI 1 ∧ ∃ g, g < 32 ∧ (μ.1 0 8 = nI (tG g) ∧ μ.1 0 9 = nI (pG g)) ∧ (μ.1 306 38 = nI (tG g) ∧ μ.1 306 39 = nI (pG g)) ∧ (∃ v, VS v ∧ SC 298 v μ ∧ SM 333 334 335 v μ) ∧ ∃ f, RC 278 332 f μ
def IM (μ : Mm) : Prop := (μ.1 0 7 = nI 0 ∧ μ.1 306 38 = (-1 : Int32)) ∨ IMd μ
theorem IM.fr {S : Nat → Prop} {μ μ' : Mm} (h : IM μ) (F : Fr S μ μ') (h0 : ¬ S 0) (h1 : ∀ k, 278 ≤ k → k < 306 → ¬ S k) (h2 : ∀ k, 332 ≤ k → k < 336 → ¬ S k) (h3 : ∀ j, 38 ≤ j → j < 40 → μ'.1 306 j = μ.1 306 j) : IM μ' := by
  rcases h with ⟨a, b⟩ | ⟨a, g, hg, ⟨b, c⟩, ⟨d, e⟩, ⟨v, v1, v2, v3⟩, f, r⟩
  · exact Or.inl ⟨by rw [(F 0 h0).1]; exact a, by rw [h3 38 (by omega) (by omega)]; exact b⟩
  · refine Or.inr ⟨by rw [(F 0 h0).1]; exact a, g, hg, ⟨by rw [(F 0 h0).1]; exact b, by rw [(F 0 h0).1]; exact c⟩, ⟨by rw [h3 38 (by omega) (by omega)]; exact d, by rw [h3 39 (by omega) (by omega)]; exact e⟩, ⟨v, v1, v2.fr F (fun k x y => h1 k (by omega) (by omega)), v3.fr F (h2 333 (by omega) (by omega)) (h2 334 (by omega) (by omega)) (h2 335 (by omega) (by omega))⟩, f, r.fr F (fun k x y => h1 k (by omega) (by omega)) (h2 332 (by omega) (by omega))⟩
section IMG
variable {g : Nat} {v : Sv} {f : Vt} {μ : Mm}
/-- promise 34: image -/
theorem both_image (hG : GI g μ) (hV : VS v) (hC : SC 266 v μ) (hM : SM 328 329 330 v μ) (hR : RC 246 327 f μ) : ∃ (r : Int32) (μ1 μ2 : Mm), m_TI_image μ = some (some (.int r), μ1) ∧ m_Mo_image μ1 = some (some (.int r), μ2) ∧ Fr fIm μ μ2 ∧ (∀ j, j < 38 → μ2.1 306 j = μ.1 306 j) ∧ IMd μ2 := by
  obtain ⟨hg, ⟨⟨c0, c1, c2, -⟩, -⟩, ⟨⟨d0, d1, d2, -⟩, -⟩, -⟩ := hG
  obtain ⟨μa, ea⟩ : ∃ z, z = sI (sI (sI μ 0 7 (nI 1)) 0 8 (nI (tG g))) 0 9 (nI (pG g)) := ⟨_, rfl⟩
  obtain ⟨μb, b1, b2, b3⟩ := s_Mi_copyFrom mx276 mx244 (Or.inr (by decide)) μa
  obtain ⟨μc, k1, k2, k3⟩ := s_copyShelves (a := 298) (b := 266) (by decide) (by decide) (Or.inr (by decide)) μb
  have Fa : Fr (fun k => k = 0) μ μa := by
    rw [ea]
    exact ((Fr.sI (S := fun k => k = 0) rfl).t2 (Fr.sI rfl)).t2 (Fr.sI rfl)
  have Fc : Fr (fun k => k = 0 ∨ (278 ≤ k ∧ k < 306)) μ μc := ((Fa.w (fun k hk => Or.inl hk)).t2 (b2.w (fun k hk => by omega))).t2 (k2.w (fun k hk => by omega))
  have t0 : m_TI_image μ = some (some (.int (nI (nG g))), μc) := by
    rw [e_TI_image, gd_h isb_1, e_Gr_typeHeld, cI_s, show (sI μ 0 7 (nI 1)).1 61 0 = nI (tG g) by rw [sI_o (by omega)]; exact c0, e_Gr_primeHeld, cI_s, show (sI (sI μ 0 7 (nI 1)) 0 8 (nI (tG g))).1 61 1 = nI (pG g) by rw [sI_o (by omega), sI_o (by omega)]; exact c1, ← ea, b1, cV_s, k1, cV_s, e_Gr_elements, cI_s, (Fc 61 (by omega)).1, c2]
  obtain ⟨μd, ed⟩ : ∃ z, z = sI (sI μc 306 38 (nI (tG g))) 306 39 (nI (pG g)) := ⟨_, rfl⟩
  have Fd : Fr (fun k => k = 306) μc μd := by
    rw [ed]
    exact (Fr.sI (S := fun k => k = 306) rfl).t2 (Fr.sI rfl)
  have m306 : ∀ j, j < 38 → μd.1 306 j = μ.1 306 j := fun j hj => by
    rw [ed, sI_s, up_o (by omega), sI_s, up_o (by omega), (Fc 306 (by omega)).1]
  obtain ⟨μe, n1, n2, n3, n4, n5⟩ := s_Mo_image_18 μd
  have t1 : m_Mo_image μc = some (some (.int (nI (nG g))), μe) := by
    rw [e_Mo_image, show μc.1 306 14 = nI (tG g) by rw [(Fc 306 (by omega)).1]; exact d0, show (sI μc 306 38 (nI (tG g))).1 306 15 = nI (pG g) by rw [sI_s, up_o (by omega), (Fc 306 (by omega)).1]; exact d1, ← ed, n1, m306 16 (by omega), d2]
  have F : Fr fIm μ μe := ((Fc.w (fun k hk => by omega)).t2 (Fd.w (fun k hk => by omega))).t2 (n2.w (fun k hk => by omega))
  have e0 : ∀ j, μe.1 0 j = μa.1 0 j := fun j => by rw [(n2 0 (by omega)).1, (Fd 0 (by omega)).1, (k2 0 (by omega)).1, (b2 0 (by omega)).1]
  refine ⟨_, μc, μe, t0, t1, F, fun j hj => by rw [(n2 306 (by omega)).1, m306 j hj], ?_, g, hg, ⟨?_, ?_⟩, ⟨?_, ?_⟩, ⟨v, hV, ?_, ?_⟩, f, ?_⟩
  · rw [e0, ea, sI_s, up_o (by omega), sI_s, up_o (by omega), sI_s, up_s]
  · rw [e0, ea, sI_s, up_o (by omega), sI_s, up_s]
  · rw [e0, ea, sI_s, up_s]
  · rw [(n2 306 (by omega)).1, ed, sI_s, up_o (by omega), sI_s, up_s]
  · rw [(n2 306 (by omega)).1, ed, sI_s, up_s]
  · intro s hs
    obtain ⟨x1, x2, x3⟩ := k3 s hs
    obtain ⟨y1, y2, y3⟩ := hC s hs
    have mv : ∀ k, 298 ≤ k → k < 306 → μe.1 k = μc.1 k := fun k a b => by rw [(n2 k (by omega)).1, (Fd k (by omega)).1]
    have fb : ∀ k, 266 ≤ k → k < 274 → μb.1 k = μ.1 k := fun k a b => by rw [(b2 k (by omega)).1, (Fa k (by omega)).1]
    refine ⟨?_, ?_, fun i hi => ?_⟩
    · rw [mv _ (by omega) (by omega), x1, fb _ (by omega) (by omega)]
      exact y1
    · rw [mv _ (by omega) (by omega), x2, fb _ (by omega) (by omega)]
      exact y2
    · have := (hV s hs).2.1
      rw [mv _ (by omega) (by omega), x3 i (by omega), fb _ (by omega) (by omega)]
      exact y3 i hi
  · intro s hs
    obtain ⟨x1, x2⟩ := n4 s hs
    obtain ⟨y1, y2, y3⟩ := hM s hs
    have fb : ∀ k, 328 ≤ k → k < 331 → μd.1 k = μ.1 k := fun k a b => by rw [(Fd k (by omega)).1, (Fc k (by omega)).1]
    refine ⟨?_, ?_, fun i hi => ?_⟩
    · rw [x1, fb _ (by omega) (by omega)]
      exact y1
    · rw [x2, fb _ (by omega) (by omega)]
      exact y2
    · have := (hV s hs).2.1
      rw [n5 _ (by omega), fb _ (by omega) (by omega)]
      exact y3 i hi
  · intro t ht k hk
    obtain ⟨x1, x2⟩ := hR t ht k hk
    refine ⟨?_, ?_⟩
    · rw [(n2 (278 + t) (by omega)).2, (Fd (278 + t) (by omega)).2, (k2 (278 + t) (by omega)).2]
      have : μb.2 (276 + 2 + t) k = μa.2 (244 + 2 + t) k := b3 t ht k hk
      rw [show 276 + 2 + t = 278 + t by omega, show 244 + 2 + t = 246 + t by omega, (Fa (246 + t) (by omega)).2] at this
      rw [this]
      exact x1
    · rw [n3 _ (by omega), (Fd 327 (by omega)).2, (Fc 327 (by omega)).2]
      exact x2
abbrev fBk (k : Nat) : Prop := fGr k ∨ (246 ≤ k ∧ k < 265) ∨ (266 ≤ k ∧ k < 274) ∨ fTk k ∨ (327 ≤ k ∧ k < 331)
/-- promise 35: back -/
theorem both_back (hT : MT μ) (hG : GI g μ) (hV : VS v) (hC : SC 266 v μ) (hM : SM 328 329 330 v μ) (hR : RC 246 327 f μ) (hI : IM μ) : ∃ (r : Int32) (μ1 μ2 : Mm), m_TI_back μ = some (some (.int r), μ1) ∧ m_Mo_back μ1 = some (some (.int r), μ2) ∧ Fr fBk μ μ2 ∧ (∀ i, (i < 14 ∨ 21 < i) → μ2.1 306 i = μ.1 306 i) ∧ (∃ h, GI h μ2) ∧ (∃ w, VS w ∧ SC 266 w μ2 ∧ SM 328 329 330 w μ2) ∧ ∃ q, RC 246 327 q μ2 := by
  rcases hI with ⟨a, b⟩ | ⟨a, h, hh, ⟨b, c⟩, ⟨d, e⟩, ⟨w, w1, w2, w3⟩, q, hq⟩
  · refine ⟨(-3 : Int32), μ, μ, ?_, ?_, Fr.rf, fun _ _ => rfl, ⟨g, hG⟩, ⟨v, hV, hC, hM⟩, f, hR⟩
    · rw [e_TI_back, a, bEt rfl]
    · rw [e_Mo_back, b, bt (by decide)]
  · obtain ⟨μa, a1, a2, a3, a4, a5⟩ := both_take hh hT hG
    obtain ⟨μb, b1, b2, b3⟩ := s_Mi_copyFrom mx244 mx276 (Or.inl (by decide)) μa
    obtain ⟨μc, k1, k2, k3⟩ := s_copyShelves (a := 266) (b := 298) (by decide) (by decide) (Or.inl (by decide)) μb
    have Fc : Fr (fun k => fGr k ∨ (246 ≤ k ∧ k < 274)) μ μc := ((a2.w (fun k hk => Or.inl hk)).t2 (b2.w (fun k hk => by omega))).t2 (k2.w (fun k hk => by omega))
    have Fb : Fr (fun k => 246 ≤ k ∧ k < 274) μa μc := (b2.w (fun k hk => by omega)).t2 (k2.w (fun k hk => by omega))
    have gC : GC h μc := a3.fr Fb (fun k x y => by omega)
    have lC : LC h μc := a4.fr Fb (by omega) (fun k x y => by omega)
    have t0 : m_TI_back μ = some (some (.int (nI (nG h))), μc) := by
      rw [e_TI_back, a, bEf (by omega) (by omega) (by omega), b, c, a1, cV_s, b1, cV_s, k1, cV_s, e_Gr_elements, cI_s, gC.1.2.2.1]
    have hTc : MT μc := hT.fr Fc (by omega) (by omega) (by omega)
    obtain ⟨μd, m1, m2, m3, m4, m5⟩ := a5 μc hTc
    obtain ⟨μe, n1, n2, n3, n4, n5⟩ := s_Mo_back_25 μd
    have gM : GM h μe := m3.fr n2 (by omega) (by omega)
    have lM : LM h μe := m4.fr n2 (by omega) (by omega)
    have t1 : m_Mo_back μc = some (some (.int (nI (nG h))), μe) := by
      rw [e_Mo_back, show μc.1 306 38 = nI (tG h) by rw [(Fc 306 (by omega)).1]; exact d, bf (d_e1 (by have := (g_1 h hh).1.1; omega)), show μc.1 306 39 = nI (pG h) by rw [(Fc 306 (by omega)).1]; exact e, m1, cV_s, n1, m3.1.2.2.1]
    have F : Fr fBk μ μe := (((a2.w (fun k hk => Or.inl hk)).t2 ((b2.w (fun k hk => by omega)).t2 (k2.w (fun k hk => by omega)))).t2 (m2.w (fun k hk => by omega))).t2 (n2.w (fun k hk => by omega))
    have Fde : Fr (fun k => fTk k ∨ (327 ≤ k ∧ k < 331)) μc μe := (m2.w (fun k hk => Or.inl hk)).t2 (n2.w (fun k hk => Or.inr hk))
    refine ⟨_, μc, μe, t0, t1, F, fun i hi => by rw [(n2 306 (by omega)).1, m5 i hi, (Fc 306 (by omega)).1], ⟨h, hh, gC.fr Fde (fun k x y => by omega), gM, lC.fr Fde (by omega) (fun k x y => by omega), lM⟩, ⟨w, w1, ?_, ?_⟩, q, ?_⟩
    · intro s hs
      obtain ⟨x1, x2, x3⟩ := k3 s hs
      obtain ⟨y1, y2, y3⟩ := w2 s hs
      have mv : ∀ k, 266 ≤ k → k < 274 → μe.1 k = μc.1 k := fun k a b => (Fde k (by omega)).1
      have fb : ∀ k, 298 ≤ k → k < 306 → μb.1 k = μ.1 k := fun k a b => by rw [(b2 k (by omega)).1, (a2 k (by omega)).1]
      refine ⟨?_, ?_, fun i hi => ?_⟩
      · rw [mv _ (by omega) (by omega), x1, fb _ (by omega) (by omega)]
        exact y1
      · rw [mv _ (by omega) (by omega), x2, fb _ (by omega) (by omega)]
        exact y2
      · have := (w1 s hs).2.1
        rw [mv _ (by omega) (by omega), x3 i (by omega), fb _ (by omega) (by omega)]
        exact y3 i hi
    · intro s hs
      obtain ⟨x1, x2⟩ := n4 s hs
      obtain ⟨y1, y2, y3⟩ := w3 s hs
      have fb : ∀ k, 332 ≤ k → k < 336 → μd.1 k = μ.1 k := fun k a b => by rw [(m2 k (by omega)).1, (Fc k (by omega)).1]
      refine ⟨?_, ?_, fun i hi => ?_⟩
      · rw [x1, fb _ (by omega) (by omega)]
        exact y1
      · rw [x2, fb _ (by omega) (by omega)]
        exact y2
      · have := (w1 s hs).2.1
        rw [n5 _ (by omega), fb _ (by omega) (by omega)]
        exact y3 i hi
    · intro t ht k hk
      obtain ⟨x1, x2⟩ := hq t ht k hk
      refine ⟨?_, ?_⟩
      · rw [(n2 (246 + t) (by omega)).2, (m2 (246 + t) (by omega)).2, (k2 (246 + t) (by omega)).2]
        have : μb.2 (244 + 2 + t) k = μa.2 (276 + 2 + t) k := b3 t ht k hk
        rw [show 276 + 2 + t = 278 + t by omega, show 244 + 2 + t = 246 + t by omega, (a2 (278 + t) (by omega)).2] at this
        rw [this]
        exact x1
      · rw [n3 _ (by omega), (m2 332 (by omega)).2, (Fc 332 (by omega)).2]
        exact x2
/-- promise 36: count -/
theorem both_counts {c : Nat → Nat} {n : Nat} (hT : MT μ) (hG : GI g μ) (hV : VS v) (hC : SC 266 v μ) (hM : SM 328 329 330 v μ) (hR : RC 246 327 f μ) (h1 : TC c n μ) (h2 : TM c n μ) (x : Int32) : ∃ r : Int32, m_TI_count x μ = some (some (.int r), μ) ∧ m_Mo_count x μ = some (some (.int r), μ) := by
  obtain ⟨hg, ⟨⟨c0, c1, c2, -⟩, -⟩, ⟨⟨d0, d1, d2, -⟩, -⟩, -⟩ := hG
  obtain ⟨⟨ht, -⟩, -⟩ := g_1 g hg
  rw [e_TI_count, e_Mo_count]
  cases decide (x = nI 0)
  · cases decide (x = nI 0 + 1)
    · cases decide (x = nI 0 + 1 + 1)
      · cases decide (x = nI 0 + 1 + 1 + 1)
        · cases decide (x = nI 0 + 1 + 1 + 1 + 1)
          · cases decide (x = nI 0 + 1 + 1 + 1 + 1 + 1)
            · exact ⟨_, rfl, rfl⟩
            · refine ⟨nI (held v 4 0 0), ?_, ?_⟩
              · show cI (m_TI_shelvesHeld μ) _ = _
                rw [e_TI_shelvesHeld, s_TI_shelvesHeld_4 hV hC 4 0 0 rfl, cI_s]
              · show m_Mo_count_72 _ _ _ = _
                exact s_Mo_count_72 hV hM 4 0 0 rfl
          · refine ⟨nI n, ?_, ?_⟩
            · show cI (m_Su_tapeLength μ) _ = _
              rw [e_Su_tapeLength, cI_s, h1.2.1]
            · show some (some (Value.int (μ.1 306 23)), μ) = _
              rw [h2.2.1]
        · refine ⟨nI (trm f 19 0 0), ?_, ?_⟩
          · show cI (m_Mi_terms 244 μ) _ = _
            rw [s_Mi_terms hR, cI_s]
          · show cI (m_Mo_terms μ) _ = _
            rw [s_Mo_terms hR, cI_s]
      · refine ⟨nI (nG g), ?_, ?_⟩
        · show cI (m_Gr_elements μ) _ = _
          rw [e_Gr_elements, cI_s, c2]
        · show some (some (Value.int (μ.1 306 16)), μ) = _
          rw [d2]
    · refine ⟨nI (pG g), ?_, ?_⟩
      · show cI (m_Gr_primeHeld μ) _ = _
        rw [e_Gr_primeHeld, cI_s, c1]
      · show some (some (Value.int (μ.1 306 15)), μ) = _
        rw [d1]
  · refine ⟨nI (numN (tG g)), ?_, ?_⟩
    · show cI (m_Gr_typeHeld μ) _ = _
      rw [e_Gr_typeHeld, cI_s, c0, s_Ty_number ht, cI_s]
    · show gd _ _ = _
      rw [d0, gi ht (by omega), kl (by omega), hT.1 _ ht]
end IMG
