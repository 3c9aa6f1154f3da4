/-! what stands at the law's entry -/
theorem lt1 {w : Jvm.Cond} (j : Nat) (e : tables_1_1[j]? = some w) : w ∈ lw_tbl := List.mem_append_right _ (show w ∈ tables_1 from List.mem_append_left _ (List.mem_of_getElem? e))
theorem lt2 {w : Jvm.Cond} (j : Nat) (e : tables_1_2[j]? = some w) : w ∈ lw_tbl := List.mem_append_right _ (show w ∈ tables_1 from List.mem_append_right _ (List.mem_append_left _ (List.mem_of_getElem? e)))
theorem lt3 {w : Jvm.Cond} (j : Nat) (e : tables_1_3[j]? = some w) : w ∈ lw_tbl := List.mem_append_right _ (show w ∈ tables_1 from List.mem_append_right _ (List.mem_append_right _ (List.mem_of_getElem? e)))
theorem ac_t {args : Array Value} {s : State} {ty : FieldType} (h : (Jvm.Cond.arrayClass ty).before args s = true) : ∃ cA : ClassId, ArrOfT s cA ty ∧ s.vm.findClass ("[" ++ ty.toString) = some cA := by
  obtain ⟨c, k, comp, h1, h2, h3⟩ := Cond.arrayClass_spec h
  exact ⟨c, fun N z => ⟨(fun k h => by cases h), k, h2, comp, h3⟩, h1⟩
theorem ac_a {args : Array Value} {s : State} {t : FieldType} (h : (Jvm.Cond.arrayOver (.array t)).before args s = true) : ∃ cA : ClassId, ArrOfT s cA (.array t) ∧ va_RA s cA (.array t) := by
  obtain ⟨comp, c, k, h1, h2, h3, h4, h5⟩ := arrayOverA_spec h
  exact ⟨c, fun N z => ⟨(fun k h => by cases h), k, h3, comp, h4⟩, h5⟩
theorem ac_o {args : Array Value} {s : State} {C : String} (h : (Jvm.Cond.arrayOver (.object C)).before args s = true) : ∃ cA : ClassId, ArrOfT s cA (.object C) ∧ va_RA s cA (.object C) := by
  obtain ⟨comp, c, k, h1, h2, h3, h4, h5⟩ := Cond.arrayOver_spec h
  exact ⟨c, fun N z => ⟨(fun k h => by cases h), k, h3, comp, h4⟩, k, comp, h3, h4, h1, h5⟩
theorem en_K {b : Nat} {s : State} (hts : ∀ w ∈ lw_tbl, w.before #[Value.ref b] s = true) : ∃ (D : va_G) (AC : Nat → ClassId), K6 D AC s := by
  have ht : ∀ w ∈ LW, w.before #[Value.ref b] s = true := fun w hw => hts w (List.mem_filter.mp hw).1
  obtain ⟨c0, i0, k0⟩ := u_known (n := 12) ht clw0 (hts _ (lt1 12 rfl))
  obtain ⟨c1, i1, k1⟩ := u_known (n := 5) ht clw1 (hts _ (lt1 20 rfl))
  obtain ⟨c2, i2, k2⟩ := u_known (n := 13) ht clw2 (hts _ (lt1 48 rfl))
  obtain ⟨c3, i3, k3⟩ := u_known (n := 1) ht clw3 (hts _ (lt1 105 rfl))
  obtain ⟨c4, i4, k4⟩ := u_known (n := 3) ht clw4 (hts _ (lt1 151 rfl))
  obtain ⟨c5, i5, k5⟩ := u_known (n := 9) ht clw5 (hts _ (lt1 95 rfl))
  obtain ⟨a0, x0, y0⟩ := ac_t (hts _ (lt1 93 rfl))
  obtain ⟨a1, x1, y1⟩ := ac_t (hts _ (lt1 46 rfl))
  obtain ⟨a2, x2, y2⟩ := ac_t (hts _ (lt1 143 rfl))
  have h3 := hts _ (lt1 29 rfl)
  have h4 := hts _ (lt1 104 rfl)
  have h5 := hts _ (lt1 150 rfl)
  obtain ⟨a3, x3, y3⟩ := ac_a h3
  obtain ⟨a4, x4, y4⟩ := ac_o h4
  obtain ⟨a5, x5, y5⟩ := ac_o h5
  refine ⟨(fun k => ([c0, c1, c2, c3, c4, c5] : List ClassId).getD k c0, fun k => ([i0, i1, i2, i3, i4, i5] : List (Nat → Nat)).getD k i0), fun k => ([a0, a1, a2, a3, a4, a5] : List ClassId).getD k a0, ⟨fun k q hq => ?_, fun k q hq => ?_⟩, over_moved (Vm.Alike.refl s.vm) h3, va_AO.of h4, va_AO.of h5, fun q hq => ?_⟩
  · have hk : k < 6 := (List.getElem?_eq_some_iff.mp hq).1
    rcases (show k = 0 ∨ k = 1 ∨ k = 2 ∨ k = 3 ∨ k = 4 ∨ k = 5 by omega) with rfl | rfl | rfl | rfl | rfl | rfl
    · have e : some (("TypesInside", fT0, 12) : vw_C) = some q := hq
      cases e
      exact k0
    · have e : some (("TypesInside$Counts", fT1, 5) : vw_C) = some q := hq
      cases e
      exact k1
    · have e : some (("TypesInside$Group", fT2, 13) : vw_C) = some q := hq
      cases e
      exact k2
    · have e : some (("TypesInside$Mix", fT3, 1) : vw_C) = some q := hq
      cases e
      exact k3
    · have e : some (("TypesInside$Shelf", fT4, 3) : vw_C) = some q := hq
      cases e
      exact k4
    · have e : some (("TypesInside$Sums", fT5, 9) : vw_C) = some q := hq
      cases e
      exact k5
  · have hk : k < 6 := (List.getElem?_eq_some_iff.mp hq).1
    rcases (show k = 0 ∨ k = 1 ∨ k = 2 ∨ k = 3 ∨ k = 4 ∨ k = 5 by omega) with rfl | rfl | rfl | rfl | rfl | rfl
    · have e : some ((a0, .int) : ClassId × FieldType) = some q := hq
      cases e
      exact ⟨x0, y0⟩
    · have e : some ((a1, .long) : ClassId × FieldType) = some q := hq
      cases e
      exact ⟨x1, y1⟩
    · have e : some ((a2, .boolean) : ClassId × FieldType) = some q := hq
      cases e
      exact ⟨x2, y2⟩
    · have e : some ((a3, .array .long) : ClassId × FieldType) = some q := hq
      cases e
      exact ⟨x3, y3⟩
    · have e : some ((a4, .object "TypesInside$Mix") : ClassId × FieldType) = some q := hq
      cases e
      exact ⟨x4, y4⟩
    · have e : some ((a5, .object "TypesInside$Shelf") : ClassId × FieldType) = some q := hq
      cases e
      exact ⟨x5, y5⟩
  · simp only [nestL, List.mem_cons, List.not_mem_nil, or_false] at hq
    rcases hq with rfl | rfl | rfl | rfl | rfl | rfl
    · exact va_Nw.of rfl (hts _ (lt1 21 rfl))
    · exact va_Nw.of rfl (hts _ (lt1 49 rfl))
    · exact va_Nw.of rfl (hts _ (lt1 96 rfl))
    · exact va_Nw.of rfl (hts _ (lt1 106 rfl))
    · exact va_Nw.of rfl (hts _ (lt1 145 rfl))
    · exact va_Nw.of rfl (hts _ (lt1 152 rfl))
theorem en_N {b : Nat} {s : State} {A : Nat → Prop} (hts : ∀ w ∈ lw_tbl, w.before #[Value.ref b] s = true) (hgv : (Jvm.Cond.and given_1 narrow_1).before #[Value.ref b] s = true) (hA : ∀ a : Nat, a < s.heap.size → ¬ A a) : ∃ tn : Nat, Nst A tn s s.heap := by
  have hs := flat_of_before _ hgv
  have ha : (Jvm.Cond.arrayOf (.static "TypesInside$Types" "NUMBERS" "[I") .int).before #[Value.ref b] s = true := hs _ (by decide +kernel)
  have hn : (Jvm.Cond.eq (.length (.static "TypesInside$Types" "NUMBERS" "[I")) (.int 19)).before #[Value.ref b] s = true := hs _ (by decide +kernel)
  have e0 : (Jvm.Cond.eq (.elem (.static "TypesInside$Types" "NUMBERS" "[I") (.int 0)) (.int 0)).before #[Value.ref b] s = true := hs _ (by decide +kernel)
  have e1 : (Jvm.Cond.eq (.elem (.static "TypesInside$Types" "NUMBERS" "[I") (.int 1)) (.int 1)).before #[Value.ref b] s = true := hs _ (by decide +kernel)
  have e2 : (Jvm.Cond.eq (.elem (.static "TypesInside$Types" "NUMBERS" "[I") (.int 2)) (.int 2)).before #[Value.ref b] s = true := hs _ (by decide +kernel)
  have e3 : (Jvm.Cond.eq (.elem (.static "TypesInside$Types" "NUMBERS" "[I") (.int 3)) (.int 11)).before #[Value.ref b] s = true := hs _ (by decide +kernel)
  have e4 : (Jvm.Cond.eq (.elem (.static "TypesInside$Types" "NUMBERS" "[I") (.int 4)) (.int 3)).before #[Value.ref b] s = true := hs _ (by decide +kernel)
  have e5 : (Jvm.Cond.eq (.elem (.static "TypesInside$Types" "NUMBERS" "[I") (.int 5)) (.int 21)).before #[Value.ref b] s = true := hs _ (by decide +kernel)
  have e6 : (Jvm.Cond.eq (.elem (.static "TypesInside$Types" "NUMBERS" "[I") (.int 6)) (.int 111)).before #[Value.ref b] s = true := hs _ (by decide +kernel)
  have e7 : (Jvm.Cond.eq (.elem (.static "TypesInside$Types" "NUMBERS" "[I") (.int 7)) (.int 4)).before #[Value.ref b] s = true := hs _ (by decide +kernel)
  have e8 : (Jvm.Cond.eq (.elem (.static "TypesInside$Types" "NUMBERS" "[I") (.int 8)) (.int 31)).before #[Value.ref b] s = true := hs _ (by decide +kernel)
  have e9 : (Jvm.Cond.eq (.elem (.static "TypesInside$Types" "NUMBERS" "[I") (.int 9)) (.int 22)).before #[Value.ref b] s = true := hs _ (by decide +kernel)
  have e10 : (Jvm.Cond.eq (.elem (.static "TypesInside$Types" "NUMBERS" "[I") (.int 10)) (.int 211)).before #[Value.ref b] s = true := hs _ (by decide +kernel)
  have e11 : (Jvm.Cond.eq (.elem (.static "TypesInside$Types" "NUMBERS" "[I") (.int 11)) (.int 1111)).before #[Value.ref b] s = true := hs _ (by decide +kernel)
  have e12 : (Jvm.Cond.eq (.elem (.static "TypesInside$Types" "NUMBERS" "[I") (.int 12)) (.int 5)).before #[Value.ref b] s = true := hs _ (by decide +kernel)
  have e13 : (Jvm.Cond.eq (.elem (.static "TypesInside$Types" "NUMBERS" "[I") (.int 13)) (.int 41)).before #[Value.ref b] s = true := hs _ (by decide +kernel)
  have e14 : (Jvm.Cond.eq (.elem (.static "TypesInside$Types" "NUMBERS" "[I") (.int 14)) (.int 32)).before #[Value.ref b] s = true := hs _ (by decide +kernel)
  have e15 : (Jvm.Cond.eq (.elem (.static "TypesInside$Types" "NUMBERS" "[I") (.int 15)) (.int 311)).before #[Value.ref b] s = true := hs _ (by decide +kernel)
  have e16 : (Jvm.Cond.eq (.elem (.static "TypesInside$Types" "NUMBERS" "[I") (.int 16)) (.int 221)).before #[Value.ref b] s = true := hs _ (by decide +kernel)
  have e17 : (Jvm.Cond.eq (.elem (.static "TypesInside$Types" "NUMBERS" "[I") (.int 17)) (.int 2111)).before #[Value.ref b] s = true := hs _ (by decide +kernel)
  have e18 : (Jvm.Cond.eq (.elem (.static "TypesInside$Types" "NUMBERS" "[I") (.int 18)) (.int 11111)).before #[Value.ref b] s = true := hs _ (by decide +kernel)
  obtain ⟨t, h1, h2⟩ := va_Tof (tm := (.static "TypesInside$Types" "NUMBERS" "[I")) (ty := .int) (N := 19) (f := fun j => .int (nums j)) (by decide) ha (va_eqt hn) (fun j hj => by
    rcases (show j = 0 ∨ j = 1 ∨ j = 2 ∨ j = 3 ∨ j = 4 ∨ j = 5 ∨ j = 6 ∨ j = 7 ∨ j = 8 ∨ j = 9 ∨ j = 10 ∨ j = 11 ∨ j = 12 ∨ j = 13 ∨ j = 14 ∨ j = 15 ∨ j = 16 ∨ j = 17 ∨ j = 18 by omega) with rfl | rfl | rfl | rfl | rfl | rfl | rfl | rfl | rfl | rfl | rfl | rfl | rfl | rfl | rfl | rfl | rfl | rfl | rfl
    · exact va_eqt e0
    · exact va_eqt e1
    · exact va_eqt e2
    · exact va_eqt e3
    · exact va_eqt e4
    · exact va_eqt e5
    · exact va_eqt e6
    · exact va_eqt e7
    · exact va_eqt e8
    · exact va_eqt e9
    · exact va_eqt e10
    · exact va_eqt e11
    · exact va_eqt e12
    · exact va_eqt e13
    · exact va_eqt e14
    · exact va_eqt e15
    · exact va_eqt e16
    · exact va_eqt e17
    · exact va_eqt e18
    ) hA
  exact ⟨t, va_Zof (hts _ (lt1 211 rfl)) (hts _ (lt1 7 rfl)) h1 hA, h2⟩
theorem D_rot {A : Nat → Prop} {x : Nat × va_E} {a : va_W} (h : va_D A (a ++ [x])) : va_D A (x :: a) := by
  obtain ⟨h1, h2⟩ := D_to h
  have hp : ((a ++ [x]).map (fun x => x.1)).Perm ((x :: a).map (fun x => x.1)) := (List.perm_append_singleton x a).map _
  exact D_from (hp.nodup_iff.mp h1) (fun q hq => h2 q (hp.mem_iff.mpr hq))
theorem free0 {H H0 : Heap} {A0 : Nat → Prop} {wc : va_W} {locs : List Loc} (hD : va_D A0 wc) (hS : va_S A0 H0 H locs) (hA : ∀ q, H0.size ≤ q → A0 q) : ∀ q, va_A wc H.size q → A0 q := free2 (X := []) (wc := wc) hD hS hA
theorem D_into {A B : Nat → Prop} {a : va_W} (h : va_D A a) (hAB : ∀ q, A q → B q) : va_D B a := h.weaken (fun _ q _ g => hAB q.1 g)
/-! what the new object holds -/
/-- the memory behind the constructor, with the reference's table of choices beside it (a cell that isn't there) -/
def μs : Mm := wL μz 312 (fun j => rp (chL (j / 31)) (j % 31))
theorem cE_wL {AC : Nat → ClassId} {ad : Nat → Nat} {μ : Mm} {k : Nat} {f : Nat → Int64} {i : Nat} (h : i ≠ k) : cE AC ad (wL μ k f) i = cE AC ad μ i := by simp [cE, wL, va_up, h]
theorem wl_s (AC : Nat → ClassId) (ad : Nat → Nat) : wl kA AC ad μs = wl (rng 0 306) AC ad μz := by
  rw [rng_0]
  show (List.range 306).map _ = (List.range 306).map _
  exact List.map_congr_left fun k hk => by
    have h : k < 306 := List.mem_range.mp hk
    show (ad k, cE AC ad (wL μz 312 _) k) = (ad k, cE AC ad μz k)
    rw [cE_wL (by omega)]
theorem J_start : J 0 μs := by
  obtain ⟨g1, g2, g3, g4, g5, g6⟩ := st_g
  have z1 : ∀ k, μs.1 k = Zi k := fun k => rfl
  have z2 : ∀ k, k ≠ 312 → μs.2 k = Zl k := fun k hk => wL_o hk
  refine ⟨by omega, fun i hi => ⟨fun j hj => ?_, fun k hk => ?_⟩, ⟨⟨?_, ?_, ?_, ?_⟩, ?_, ?_, ?_⟩, Or.inl ?_⟩
  · rw [z2 (3 + i) (by omega)]
    show cut 7 (Zl (3 + i)) j = _
    have e : ∀ j, Zl (3 + i) j = if j < 7 then tCh i j else 0 := fun j => by
      unfold Zl
      rw [show Nat.ble 3 (3 + i) = true by rw [Nat.ble_eq]; omega, show Nat.ble (3 + i) 38 = true by rw [Nat.ble_eq]; omega]
      show (if j < 7 then tCh (3 + i - 3) j else 0) = _
      rw [Nat.add_sub_cancel_left]
    unfold cut
    rw [e]
    by_cases q : j < 7
    · rw [if_pos q, if_pos q]
      rfl
    · rw [if_neg q, st_ch i hi j hj (by omega)]
  · show (wL μz 312 _).2 312 (31 * i + k) = _
    rw [wL_s]
    show rp (chL ((31 * i + k) / 31)) ((31 * i + k) % 31) = _
    rw [show (31 * i + k) / 31 = i by omega, show (31 * i + k) % 31 = k by omega]
  · rw [z1 61, g1]; rfl
  · rw [z1 61, g2]; rfl
  · rw [z1 61, g3]; rfl
  · rw [z1 61, g4]; rfl
  · intro i hi
    rw [g4] at hi
    exact absurd hi (Nat.not_lt_zero i)
  · intro a ha b hb
    rw [g3] at ha hb
    obtain rfl : a = 0 := by omega
    obtain rfl : b = 0 := by omega
    rw [z1 64, g5]; rfl
  · intro a ha
    rw [g3] at ha
    obtain rfl : a = 0 := by omega
    rw [z1 65, g6]; rfl
  · rw [z1 61]; rfl
