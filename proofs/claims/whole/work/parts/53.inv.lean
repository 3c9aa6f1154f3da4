/-! what always holds of the class and the reference together; every call keeps it -/
def Inv (μ : Mm) : Prop := (MT μ ∧ CT μ) ∧ CH μ ∧ HP μ ∧ (∃ v, VS v ∧ SC 266 v μ ∧ SM 328 329 330 v μ) ∧ (∃ f, RC 246 327 f μ) ∧ (∃ c n, TC c n μ ∧ TM c n μ) ∧ (∃ g, GI g μ) ∧ IM μ
def GoI (μ : Mm) (f g : Mm → Option Rs) : Prop := ∃ (r : Int32) (μ1 μ2 : Mm), f μ = some (some (.int r), μ1) ∧ g μ1 = some (some (.int r), μ2) ∧ Inv μ2
def GoL (μ : Mm) (f g : Mm → Option Rs) : Prop := ∃ (r : Int64) (μ1 μ2 : Mm), f μ = some (some (.long r), μ1) ∧ g μ1 = some (some (.long r), μ2) ∧ Inv μ2
theorem GI.k {g : Nat} {S : Nat → Prop} {μ μ' : Mm} (h : GI g μ) (F : Fr S μ μ') (h1 : ∀ k, (61 ≤ k ∧ k < 69) ∨ k = 319 ∨ k = 321 → ¬ S k) (h2 : ∀ j, 14 ≤ j → j < 22 → μ'.1 306 j = μ.1 306 j) : GI g μ' := by
  refine ⟨h.1, h.2.1.fr F (fun k a b => h1 k (by omega)), ?_, h.2.2.2.1.fr F (h1 61 (by omega)) (fun k a b => h1 k (by omega)), ?_⟩
  · obtain ⟨⟨a, b, c, d⟩, e⟩ := h.2.2.1
    exact ⟨⟨by rw [h2 14 (by omega) (by omega)]; exact a, by rw [h2 15 (by omega) (by omega)]; exact b, by rw [h2 16 (by omega) (by omega)]; exact c, by rw [h2 18 (by omega) (by omega)]; exact d⟩, fun i hi => by rw [(F 319 (h1 319 (by omega))).1]; exact e i hi⟩
  · have := h.2.2.2.2
    unfold LM LMd at this ⊢
    rw [h2 21 (by omega) (by omega), (F 321 (h1 321 (by omega))).2]
    exact this
theorem inv_of {S : Nat → Prop} {μ μ' : Mm} (h : Inv μ) (F : Fr S μ μ') (hm : ∀ k, (3 ≤ k ∧ k < 39) ∨ (307 ≤ k ∧ k < 310) ∨ k = 312 → ¬ S k)
    (hCH : CH μ' ∨ ∀ k, k = 1 ∨ (40 ≤ k ∧ k < 59) → ¬ S k)
    (hHP : HP μ' ∨ (¬ S 313 ∧ μ'.1 306 11 = μ.1 306 11))
    (hSh : (∃ v, VS v ∧ SC 266 v μ' ∧ SM 328 329 330 v μ') ∨ ∀ k, (266 ≤ k ∧ k < 274) ∨ (328 ≤ k ∧ k < 331) → ¬ S k)
    (hRC : (∃ f, RC 246 327 f μ') ∨ ∀ k, (246 ≤ k ∧ k < 265) ∨ k = 327 → ¬ S k)
    (hTp : (∃ c n, TC c n μ' ∧ TM c n μ') ∨ ((∀ k, k = 69 ∨ k = 70 ∨ k = 322 → ¬ S k) ∧ μ'.1 306 23 = μ.1 306 23))
    (hGI : (∃ g, GI g μ') ∨ ((∀ k, (61 ≤ k ∧ k < 69) ∨ k = 319 ∨ k = 321 → ¬ S k) ∧ ∀ j, 14 ≤ j → j < 22 → μ'.1 306 j = μ.1 306 j))
    (hIM : IM μ' ∨ ((∀ k, k = 0 ∨ (278 ≤ k ∧ k < 306) ∨ (332 ≤ k ∧ k < 336) → ¬ S k) ∧ ∀ j, 38 ≤ j → j < 40 → μ'.1 306 j = μ.1 306 j)) : Inv μ' := by
  obtain ⟨⟨a1, a2⟩, a3, a4, ⟨v, v1, v2, v3⟩, ⟨f, a5⟩, ⟨c, n, a6, a7⟩, ⟨g, a8⟩, a9⟩ := h
  refine ⟨⟨a1.fr F (hm 307 (by omega)) (hm 308 (by omega)) (hm 309 (by omega)), a2.fr F (fun k x y => hm k (by omega)) (hm 312 (by omega))⟩, ?_, ?_, ?_, ?_, ?_, ?_, ?_⟩
  · exact hCH.elim id (fun z => a3.fr F (z 1 (by omega)) (fun k x y => z k (by omega)))
  · rcases hHP with z | ⟨z1, z2⟩
    · exact z
    · unfold HP PR at a4 ⊢
      rw [z2, (F 313 z1).2]
      exact a4
  · exact hSh.elim id (fun z => ⟨v, v1, v2.fr F (fun k x y => z k (by omega)), v3.fr F (z 328 (by omega)) (z 329 (by omega)) (z 330 (by omega))⟩)
  · exact hRC.elim id (fun z => ⟨f, a5.fr F (fun k x y => z k (by omega)) (z 327 (by omega))⟩)
  · exact hTp.elim id (fun z => ⟨c, n, a6.k F (z.1 69 (by omega)) (z.1 70 (by omega)), a7.k F z.2 (z.1 322 (by omega))⟩)
  · exact hGI.elim id (fun z => ⟨g, a8.k F z.1 z.2⟩)
  · exact hIM.elim id (fun z => a9.fr F (z.1 0 (by omega)) (fun k x y => z.1 k (by omega)) (fun k x y => z.1 k (by omega)) z.2)
section GO
variable {μ : Mm}
theorem k_cP {μ' : Mm} (h : Inv μ) (F : Fr cP μ μ') : Inv μ' := inv_of h F (fun k hk => by omega) (Or.inr (fun k hk => by omega)) (Or.inr ⟨by omega, by rw [(F 306 (by omega)).1]⟩) (Or.inr (fun k hk => by omega)) (Or.inr (fun k hk => by omega)) (Or.inr ⟨fun k hk => by omega, by rw [(F 306 (by omega)).1]⟩) (Or.inr ⟨fun k hk => by omega, fun j _ _ => by rw [(F 306 (by omega)).1]⟩) (Or.inr ⟨fun k hk => by omega, fun j _ _ => by rw [(F 306 (by omega)).1]⟩)
theorem go_Bl {f g : Mm → Option Rs} (h : Inv μ) (b : Bl cP μ f g) : GoL μ f g := by
  obtain ⟨r, μ1, μ2, e1, e2, F⟩ := b
  exact ⟨r, μ1, μ2, e1, e2, k_cP h F⟩
theorem go_Bw {f g : Mm → Option Rs} (h : Inv μ) (b : Bw μ f g) : GoL μ f g := by
  obtain ⟨r, μ1, μ2, e1, e2, F, hc⟩ := b
  exact ⟨r, μ1, μ2, e1, e2, inv_of h F (fun k hk => by omega) (Or.inl hc) (Or.inr ⟨by omega, by rw [(F 306 (by omega)).1]⟩) (Or.inr (fun k hk => by omega)) (Or.inr (fun k hk => by omega)) (Or.inr ⟨fun k hk => by omega, by rw [(F 306 (by omega)).1]⟩) (Or.inr ⟨fun k hk => by omega, fun j _ _ => by rw [(F 306 (by omega)).1]⟩) (Or.inr ⟨fun k hk => by omega, fun j _ _ => by rw [(F 306 (by omega)).1]⟩)⟩
theorem go_Bh {f g : Mm → Option Rs} (h : Inv μ) (b : Bh μ f g) : GoL μ f g := by
  obtain ⟨r, μ1, μ2, e1, e2, F, hj, hp⟩ := b
  exact ⟨r, μ1, μ2, e1, e2, inv_of h F (fun k hk => by omega) (Or.inr (fun k hk => by omega)) (Or.inl hp) (Or.inr (fun k hk => by omega)) (Or.inr (fun k hk => by omega)) (Or.inr ⟨fun k hk => by omega, hj 23 (by omega)⟩) (Or.inr ⟨fun k hk => by omega, fun j _ _ => hj j (by omega)⟩) (Or.inr ⟨fun k hk => by omega, fun j _ _ => hj j (by omega)⟩)⟩
theorem k_fG {μ' : Mm} {x : Nat} (h : Inv μ) (F : Fr fG μ μ') (hg : GI x μ') (hj : ∀ i, (i < 14 ∨ 21 < i) → μ'.1 306 i = μ.1 306 i) : Inv μ' := inv_of h F (fun k hk => by omega) (Or.inr (fun k hk => by omega)) (Or.inr ⟨by omega, hj 11 (by omega)⟩) (Or.inr (fun k hk => by omega)) (Or.inr (fun k hk => by omega)) (Or.inr ⟨fun k hk => by omega, hj 23 (by omega)⟩) (Or.inl ⟨x, hg⟩) (Or.inr ⟨fun k hk => by omega, fun j _ _ => hj j (by omega)⟩)
theorem go_Bg {f g : Mm → Option Rs} (h : Inv μ) (b : Bg μ f g) : GoI μ f g := by
  obtain ⟨r, μ1, μ2, x, e1, e2, hg, F, hj⟩ := b
  exact ⟨r, μ1, μ2, e1, e2, k_fG h F hg hj⟩
theorem go_Bgl {f g : Mm → Option Rs} (h : Inv μ) (b : Bgl μ f g) : GoL μ f g := by
  obtain ⟨r, μ1, μ2, x, e1, e2, hg, F, hj⟩ := b
  exact ⟨r, μ1, μ2, e1, e2, k_fG h F hg hj⟩
theorem go_Bo {v : Sv} {f g : Mm → Option Rs} (h : Inv μ) (b : Bo v μ f g) : GoI μ f g := by
  obtain ⟨r, μ1, μ2, v', e1, e2, a, c, d, F⟩ := b
  have F : Fr (fun k => (266 ≤ k ∧ k < 274) ∨ k = 275 ∨ (328 ≤ k ∧ k < 332)) μ μ2 := F
  exact ⟨r, μ1, μ2, e1, e2, inv_of h F (fun k hk => by omega) (Or.inr (fun k hk => by omega)) (Or.inr ⟨by omega, by rw [(F 306 (by omega)).1]⟩) (Or.inl ⟨v', a, c, d⟩) (Or.inr (fun k hk => by omega)) (Or.inr ⟨fun k hk => by omega, by rw [(F 306 (by omega)).1]⟩) (Or.inr ⟨fun k hk => by omega, fun j _ _ => by rw [(F 306 (by omega)).1]⟩) (Or.inr ⟨fun k hk => by omega, fun j _ _ => by rw [(F 306 (by omega)).1]⟩)⟩
theorem go_s {f g : Mm → Option Rs} (h : Inv μ) (b : ∃ r : Int32, f μ = some (some (.int r), μ) ∧ g μ = some (some (.int r), μ)) : GoI μ f g := by
  obtain ⟨r, e1, e2⟩ := b
  exact ⟨r, μ, μ, e1, e2, h⟩
theorem go_sl {f g : Mm → Option Rs} (h : Inv μ) (b : ∃ r : Int64, f μ = some (some (.long r), μ) ∧ g μ = some (some (.long r), μ)) : GoL μ f g := by
  obtain ⟨r, e1, e2⟩ := b
  exact ⟨r, μ, μ, e1, e2, h⟩
theorem go_feed (h : Inv μ) (x : Int32) : GoI μ (m_TI_feed x) (m_Mo_feed x) := by
  obtain ⟨c, n, h1, h2⟩ := h.2.2.2.2.2.1
  obtain ⟨r, μ1, μ2, c', n', e1, e2, t1, t2, F, hj⟩ := both_feed h1 h2 x
  exact ⟨r, μ1, μ2, e1, e2, inv_of h F (fun k hk => by omega) (Or.inr (fun k hk => by omega)) (Or.inr ⟨by omega, hj 11 (by omega)⟩) (Or.inr (fun k hk => by omega)) (Or.inr (fun k hk => by omega)) (Or.inl ⟨c', n', t1, t2⟩) (Or.inr ⟨fun k hk => by omega, fun j _ _ => hj j (by omega)⟩) (Or.inr ⟨fun k hk => by omega, fun j _ _ => hj j (by omega)⟩)⟩
theorem go_read (h : Inv μ) : GoI μ m_TI_read m_Mo_read := by
  obtain ⟨c, n, h1, h2⟩ := h.2.2.2.2.2.1
  obtain ⟨f, hR⟩ := h.2.2.2.2.1
  obtain ⟨r, μ1, μ2, f', e1, e2, t0, t3, t1, t2, F, hj⟩ := both_read hR h.1.2 h.1.1 h.2.2.1 h1 h2
  exact ⟨r, μ1, μ2, e1, e2, inv_of h F (fun k hk => by omega) (Or.inr (fun k hk => by omega)) (Or.inl t3) (Or.inr (fun k hk => by omega)) (Or.inl ⟨f', t0⟩) (Or.inl ⟨_, _, t1, t2⟩) (Or.inr ⟨fun k hk => by omega, fun j _ _ => hj j (by omega) (by omega)⟩) (Or.inr ⟨fun k hk => by omega, fun j _ _ => hj j (by omega) (by omega)⟩)⟩
theorem go_image (h : Inv μ) : GoI μ m_TI_image m_Mo_image := by
  obtain ⟨v, v1, v2, v3⟩ := h.2.2.2.1
  obtain ⟨f, hR⟩ := h.2.2.2.2.1
  obtain ⟨g, hG⟩ := h.2.2.2.2.2.2.1
  obtain ⟨r, μ1, μ2, e1, e2, F, hj, hI⟩ := both_image hG v1 v2 v3 hR
  exact ⟨r, μ1, μ2, e1, e2, inv_of h F (fun k hk => by omega) (Or.inr (fun k hk => by omega)) (Or.inr ⟨by omega, hj 11 (by omega)⟩) (Or.inr (fun k hk => by omega)) (Or.inr (fun k hk => by omega)) (Or.inr ⟨fun k hk => by omega, hj 23 (by omega)⟩) (Or.inr ⟨fun k hk => by omega, fun j _ _ => hj j (by omega)⟩) (Or.inl (Or.inr hI))⟩
theorem go_back (h : Inv μ) : GoI μ m_TI_back m_Mo_back := by
  obtain ⟨v, v1, v2, v3⟩ := h.2.2.2.1
  obtain ⟨f, hR⟩ := h.2.2.2.2.1
  obtain ⟨g, hG⟩ := h.2.2.2.2.2.2.1
  obtain ⟨r, μ1, μ2, e1, e2, F, hj, a, b, c⟩ := both_back h.1.1 hG v1 v2 v3 hR h.2.2.2.2.2.2.2
  exact ⟨r, μ1, μ2, e1, e2, inv_of h F (fun k hk => by omega) (Or.inr (fun k hk => by omega)) (Or.inr ⟨by omega, hj 11 (by omega)⟩) (Or.inl b) (Or.inl c) (Or.inr ⟨fun k hk => by omega, hj 23 (by omega)⟩) (Or.inl a) (Or.inr ⟨fun k hk => by omega, fun j _ _ => hj j (by omega)⟩)⟩
theorem go_count (h : Inv μ) (x : Int32) : GoI μ (m_TI_count x) (m_Mo_count x) := by
  obtain ⟨v, v1, v2, v3⟩ := h.2.2.2.1
  obtain ⟨f, hR⟩ := h.2.2.2.2.1
  obtain ⟨g, hG⟩ := h.2.2.2.2.2.2.1
  obtain ⟨c, n, h1, h2⟩ := h.2.2.2.2.2.1
  exact go_s h (both_counts h.1.1 hG v1 v2 v3 hR h1 h2 x)
theorem go_type (h : Inv μ) (x0 : Int32) : GoI μ (m_TI_type x0) (m_Mo_type x0) := by
  exact go_s h (both_type h.1.1 x0)
theorem go_of (h : Inv μ) (x0 : Int32) (x1 : Int32) : GoI μ (m_TI_of x0 x1) (m_Mo_of x0 x1) := by
  exact go_s h (both_of h.1.1 x0 x1)
theorem go_in (h : Inv μ) (x0 : Int32) (x1 : Int32) : GoI μ (m_TI_in x0 x1) (m_Mo_in_II x0 x1) := by
  exact go_s h (both_in h.1.1 x0 x1)
theorem go_choices (h : Inv μ) (x0 : Int32) (x1 : Int32) (x2 : Int32) : GoL μ (m_TI_choices x0 x1 x2) (m_Mo_choices x0 x1 x2) := by
  exact go_Bl h (both_choices h.1.2 x0 x1 x2)
theorem go_subgroups (h : Inv μ) (x0 : Int32) (x1 : Int32) (x2 : Int32) : GoL μ (m_TI_subgroups x0 x1 x2) (m_Mo_subgroups x0 x1 x2) := by
  exact go_Bl h (both_subgroups h.1.2 h.1.1 x0 x1 x2)
theorem go_hall (h : Inv μ) (x0 : Int32) (x1 : Int32) (x2 : Int32) (x3 : Int32) : GoL μ (m_TI_hall x0 x1 x2 x3) (m_Mo_hall x0 x1 x2 x3) := by
  exact go_Bh h (both_hall h.1.2 h.1.1 h.2.2.1 x0 x1 x2 x3)
theorem go_whole (h : Inv μ) (x0 : Int32) (x1 : Int32) (x2 : Int32) : GoL μ (m_TI_whole x0 x1 x2) (m_Mo_whole_III x0 x1 x2) := by
  exact go_Bw h (both_whole h.1.2 h.1.1 h.2.1 x0 x1 x2)
theorem go_value (h : Inv μ) (x0 : Int32) (x1 : Int32) (x2 : Int32) : GoL μ (m_TI_value x0 x1 x2) (m_Mo_value x0 x1 x2) := by
  exact go_Bw h (both_value h.1.2 h.1.1 h.2.1 x0 x1 x2)
theorem go_group (h : Inv μ) (x0 : Int32) (x1 : Int32) : GoI μ (m_TI_group x0 x1) (m_Mo_group x0 x1) := by
  obtain ⟨g, hG⟩ := h.2.2.2.2.2.2.1
  exact go_Bg h (both_group h.1.1 hG x0 x1)
theorem go_sum (h : Inv μ) (x0 : Int32) (x1 : Int32) : GoI μ (m_TI_sum x0 x1) (m_Mo_sum x0 x1) := by
  obtain ⟨g, hG⟩ := h.2.2.2.2.2.2.1
  exact go_s h (both_sum hG x0 x1)
theorem go_times (h : Inv μ) (x0 : Int32) (x1 : Int32) : GoI μ (m_TI_times x0 x1) (m_Mo_times x0 x1) := by
  obtain ⟨g, hG⟩ := h.2.2.2.2.2.2.1
  exact go_s h (both_times hG x0 x1)
theorem go_order (h : Inv μ) (x0 : Int32) : GoI μ (m_TI_order x0) (m_Mo_order x0) := by
  obtain ⟨g, hG⟩ := h.2.2.2.2.2.2.1
  exact go_s h (both_order hG x0)
theorem go_figure (h : Inv μ) (x0 : Int32) (x1 : Int32) : GoI μ (m_TI_figure x0 x1) (m_Mo_figure x0 x1) := by
  obtain ⟨g, hG⟩ := h.2.2.2.2.2.2.1
  exact go_s h (both_figure hG x0 x1)
theorem go_span (h : Inv μ) (x0 : Int64) : GoL μ (m_TI_span x0) (m_Mo_span x0) := by
  obtain ⟨g, hG⟩ := h.2.2.2.2.2.2.1
  exact go_sl h (both_span hG x0)
theorem go_meet (h : Inv μ) (x0 : Int64) (x1 : Int64) : GoL μ (m_TI_meet x0 x1) (m_Mo_meet x0 x1) := by
  obtain ⟨g, hG⟩ := h.2.2.2.2.2.2.1
  exact go_sl h (both_meet hG x0 x1)
theorem go_told (h : Inv μ) (x0 : Int64) (x1 : Int32) : GoI μ (m_TI_told x0 x1) (m_Mo_told x0 x1) := by
  obtain ⟨g, hG⟩ := h.2.2.2.2.2.2.1
  exact go_Bg h (both_told h.1.1 hG x0 x1)
theorem go_list (h : Inv μ) (x0 : Int32) : GoL μ (m_TI_list x0) (m_Mo_list x0) := by
  obtain ⟨g, hG⟩ := h.2.2.2.2.2.2.1
  exact go_Bgl h (both_list hG x0)
theorem go_listed (h : Inv μ) (x0 : Int32) (x1 : Int32) : GoI μ (m_TI_listed x0 x1) (m_Mo_listed x0 x1) := by
  obtain ⟨g, hG⟩ := h.2.2.2.2.2.2.1
  exact go_Bg h (both_listed h.1.1 hG x0 x1)
theorem go_share (h : Inv μ) (x0 : Int32) : GoL μ (m_TI_share x0) (m_Mo_share x0) := by
  obtain ⟨g, hG⟩ := h.2.2.2.2.2.2.1
  exact go_Bgl h (both_share h.1.1 hG x0)
theorem go_thousandths (h : Inv μ) (x0 : Int32) : GoI μ (m_TI_thousandths x0) (m_Mo_thousandths x0) := by
  obtain ⟨g, hG⟩ := h.2.2.2.2.2.2.1
  exact go_Bg h (both_thousandths h.1.1 hG x0)
theorem go_weight (h : Inv μ) (x0 : Int32) (x1 : Int32) (x2 : Int32) : GoL μ (m_TI_weight x0 x1 x2) (m_Mo_weight x0 x1 x2) := by
  exact go_Bl h (both_weight h.1.1 x0 x1 x2)
theorem go_weights (h : Inv μ) (x0 : Int32) (x1 : Int32) (x2 : Int32) : GoL μ (m_TI_weights x0 x1 x2) (m_Mo_weights x0 x1 x2) := by
  exact go_Bl h (both_weights h.1.1 x0 x1 x2)
theorem go_mean (h : Inv μ) : GoI μ (m_TI_mean) (m_Mo_mean) := by
  obtain ⟨g, hG⟩ := h.2.2.2.2.2.2.1
  exact go_Bg h (both_mean hG)
theorem go_term (h : Inv μ) (x0 : Int32) (x1 : Int32) : GoI μ (m_TI_term x0 x1) (m_Mo_term x0 x1) := by
  obtain ⟨f, hR⟩ := h.2.2.2.2.1
  exact go_s h (both_term hR h.1.1 x0 x1)
theorem go_coefficient (h : Inv μ) (x0 : Int32) (x1 : Int32) : GoL μ (m_TI_coefficient x0 x1) (m_Mo_coefficient x0 x1) := by
  obtain ⟨f, hR⟩ := h.2.2.2.2.1
  exact go_sl h (both_coefficient hR x0 x1)
theorem go_shelf (h : Inv μ) (x0 : Int32) (x1 : Int32) (x2 : Int32) : GoI μ (m_TI_shelf x0 x1 x2) (m_Mo_shelf x0 x1 x2) := by
  obtain ⟨v, v1, v2, v3⟩ := h.2.2.2.1
  exact go_Bo h (both_shelf h.1.1 v1 v2 v3 x0 x1 x2)
theorem go_put (h : Inv μ) (x0 : Int32) (x1 : Int32) (x2 : Int32) : GoI μ (m_TI_put x0 x1 x2) (m_Mo_put x0 x1 x2) := by
  obtain ⟨v, v1, v2, v3⟩ := h.2.2.2.1
  exact go_Bo h (both_put h.1.1 v1 v2 v3 x0 x1 x2)
theorem go_get (h : Inv μ) (x0 : Int32) (x1 : Int32) : GoI μ (m_TI_get x0 x1) (m_Mo_get x0 x1) := by
  obtain ⟨v, v1, v2, v3⟩ := h.2.2.2.1
  exact go_Bo h (both_get h.1.1 v1 v2 v3 x0 x1)
theorem go_move (h : Inv μ) (x0 : Int32) (x1 : Int32) (x2 : Int32) (x3 : Int32) (x4 : Int32) : GoI μ (m_TI_move x0 x1 x2 x3 x4) (m_Mo_move x0 x1 x2 x3 x4) := by
  obtain ⟨v, v1, v2, v3⟩ := h.2.2.2.1
  exact go_Bo h (both_move h.1.1 v1 v2 v3 x0 x1 x2 x3 x4)
theorem go_all (h : Inv μ) (x0 : Int32) (x1 : Int32) : GoI μ (m_TI_all x0 x1) (m_Mo_all x0 x1) := by
  obtain ⟨v, v1, v2, v3⟩ := h.2.2.2.1
  exact go_Bo h (both_all h.1.1 v1 v2 v3 x0 x1)
end GO
