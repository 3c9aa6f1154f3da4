/-! the start: what new objects hold is held by both sides -/
theorem st_g : tG 0 = 0 ∧ pG 0 = 2 ∧ nG 0 = 1 ∧ npG 0 = 0 ∧ adG 0 0 0 = 0 ∧ raG 0 0 = 0 := by decide +kernel
theorem st_ch : ∀ i, i < 36 → ∀ j, j < 31 → 7 ≤ j → rp (chL i) j = lN 0 := by decide +kernel
theorem st_z : ∀ k, 307 ≤ k → Zi k = fun _ => (0 : Int32) := fun k hk => by
  have h2 : isO k 4 = false := by
    by_cases q : k < NN
    · have K : ∀ k, k < 336 → 307 ≤ k → isO k 4 = false := by decide +kernel
      exact K k q hk
    · cases h : isO k 4 with
      | false => rfl
      | true => exact absurd (sh_lt (by rw [isO_e h]; decide)) q
  funext j
  unfold Zi
  rw [show Nat.beq k 0 = false by rw [← Bool.not_eq_true, Nat.beq_eq]; omega, show Nat.beq k 61 = false by rw [← Bool.not_eq_true, Nat.beq_eq]; omega, show Nat.beq k 306 = false by rw [← Bool.not_eq_true, Nat.beq_eq]; omega, h2]
  rfl
abbrev fSt (k : Nat) : Prop := fGw k ∨ k = 312
theorem inv_start {μ : Mm} (F : Fr fSt μz μ) (hj : ∀ j, j ≠ 3 → μ.1 306 j = μz.1 306 j) (hT : MT μ) (hR : RT 6 0 0 μ) : Inv μ := by
  obtain ⟨g1, g2, g3, g4, g5, g6⟩ := st_g
  have z1 : ∀ k, ¬ fSt k → μ.1 k = Zi k := fun k hk => (F k hk).1
  have z2 : ∀ k, 38 < k → ¬ fSt k → μ.2 k = fun _ => (0 : Int64) := fun k h hk => by
    rw [(F k hk).2]
    exact Zl_0 h
  have s4 : ∀ s, s < 4 → (Zi (266 + 2 * s) 0 = (-1 : Int32) ∧ Zi (266 + 2 * s) 1 = (0 : Int32)) := by decide +kernel
  refine ⟨⟨hT, hR.ct fun i hi j hjj => ?_⟩, Or.inl ?_, Or.inl ?_, ⟨fun _ => (0, 0, fun _ => 0), ?_, ?_, ?_⟩, ⟨fun _ _ => lN 0, ?_⟩, ⟨fun _ => 999, 0, ⟨TT_0, ?_, fun i hi => absurd hi (Nat.not_lt_zero i)⟩, ⟨TT_0, ?_, fun i hi => absurd hi (Nat.not_lt_zero i)⟩⟩, ⟨0, by omega, ⟨⟨?_, ?_, ?_, ?_⟩, ?_, ?_, ?_⟩, ⟨⟨?_, ?_, ?_, ?_⟩, ?_⟩, Or.inl ?_, Or.inl ?_⟩, Or.inl ⟨?_, ?_⟩⟩
  · rw [(F (3 + i) (by omega)).2]
    show cut 7 (Zl (3 + i)) j = _
    have e : ∀ j, Zl (3 + i) j = if j < 7 then tCh i j else 0 := fun j => by
      unfold Zl
      rw [show Nat.ble 3 (3 + i) = true by rw [Nat.ble_eq]; omega, show Nat.ble (3 + i) 38 = true by rw [Nat.ble_eq]; omega]
      show (if j < 7 then tCh (3 + i - 3) j else 0) = _
      rw [Nat.add_sub_cancel_left]
    unfold cut
    rw [e]
    by_cases q : j < 7
    · rw [if_pos q, if_pos q]
      rfl
    · rw [if_neg q, st_ch i hi j hjj (by omega)]
  · rw [z1 1 (by omega)]; rfl
  · rw [hj 11 (by omega)]; rfl
  · exact fun s hs => ⟨Nat.zero_le _, Nat.zero_le _, fun _ => rfl, fun i hi => absurd hi (Nat.not_lt_zero i)⟩
  · intro s hs
    refine ⟨?_, ?_, fun i hi => absurd hi (Nat.not_lt_zero i)⟩
    · rw [z1 _ (by omega), (s4 s hs).1]; rfl
    · rw [z1 _ (by omega), (s4 s hs).2]; rfl
  · intro s hs
    refine ⟨?_, ?_, fun i hi => absurd hi (Nat.not_lt_zero i)⟩
    · rw [z1 328 (by omega), st_z 328 (by omega)]; rfl
    · rw [z1 329 (by omega), st_z 329 (by omega)]; rfl
  · intro t ht k hk
    refine ⟨?_, ?_⟩
    · rw [z2 (246 + t) (by omega) (by omega)]; rfl
    · rw [z2 327 (by omega) (by omega)]; rfl
  · rw [z1 69 (by omega)]; rfl
  · rw [hj 23 (by omega)]; rfl
  · rw [z1 61 (by omega), g1]; rfl
  · rw [z1 61 (by omega), g2]; rfl
  · rw [z1 61 (by omega), g3]; rfl
  · rw [z1 61 (by omega), g4]; rfl
  · intro i hi
    rw [g4] at hi
    exact absurd hi (Nat.not_lt_zero i)
  · intro a ha b hb
    rw [g3] at ha hb
    obtain rfl : a = 0 := by omega
    obtain rfl : b = 0 := by omega
    rw [z1 64 (by omega), g5]; rfl
  · intro a ha
    rw [g3] at ha
    obtain rfl : a = 0 := by omega
    rw [z1 65 (by omega), g6]; rfl
  · rw [hj 14 (by omega), g1]; rfl
  · rw [hj 15 (by omega), g2]; rfl
  · rw [hj 16 (by omega), g3]; rfl
  · rw [hj 18 (by omega), g4]; rfl
  · intro i hi
    rw [g4] at hi
    exact absurd hi (Nat.not_lt_zero i)
  · rw [z1 61 (by omega)]; rfl
  · rw [hj 21 (by omega)]; rfl
  · rw [z1 0 (by omega)]; rfl
  · rw [hj 38 (by omega)]; rfl
theorem GT_z : GT (gwT 0) μz := GT_0 rfl (fun j hj => by
  show Zi 309 j = nI 0
  rw [st_z 309 (by omega)]
  rfl)
