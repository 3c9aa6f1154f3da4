/-! setUp: some group comes into hand -/
theorem zw503 : Jvm.Cond.code ⟨"TypesInsideLaw", "some", "([III)I"⟩ method_3_code 3 (some FieldType.int) ∈ LW := lc3 23 rfl rfl
theorem zw501 : Jvm.Cond.methodLink "TypesInsideLaw" 13 ⟨"TypesInsideLaw", "some", "([III)I"⟩ ∈ LW := lc3 21 rfl rfl
theorem zw502 : Jvm.Cond.static ⟨"TypesInsideLaw", "some", "([III)I"⟩ ∈ LW := lc3 22 rfl rfl
theorem zw203 : Jvm.Cond.methodLink "TypesInsideLaw" 17 ⟨"TypesInside", "type", "(I)I"⟩ ∈ LW := lc1 203 rfl rfl
theorem zw510 : Jvm.Cond.methodLink "TypesInsideLaw" 23 ⟨"TypesInside", "group", "(II)I"⟩ ∈ LW := lc3 30 rfl rfl
theorem zw460 : Jvm.Cond.methodLink "TypesInsideLaw" 27 ⟨"TypesInside", "count", "(I)I"⟩ ∈ LW := lc2 220 rfl rfl
theorem zd_La_setUp_0 : decode method_4_code 0 = .ok (.aload_n 1, 1) := by decide +kernel
theorem zd_La_setUp_1 : decode method_4_code 1 = .ok (.iload_n 2, 1) := by decide +kernel
theorem zd_La_setUp_2 : decode method_4_code 2 = .ok (.iconst 4, 1) := by decide +kernel
theorem zd_La_setUp_3 : decode method_4_code 3 = .ok (.invokestatic 13, 3) := by decide +kernel
theorem zd_La_setUp_6 : decode method_4_code 6 = .ok (.ifCond .ne 7, 3) := by decide +kernel
theorem zd_La_setUp_9 : decode method_4_code 9 = .ok (.iconst 3, 1) := by decide +kernel
theorem zd_La_setUp_10 : decode method_4_code 10 = .ok (.goto 18, 3) := by decide +kernel
theorem zd_La_setUp_28 : decode method_4_code 28 = .ok (.istore_n 3, 1) := by decide +kernel
theorem zd_La_setUp_29 : decode method_4_code 29 = .ok (.aload_n 0, 1) := by decide +kernel
theorem zd_La_setUp_30 : decode method_4_code 30 = .ok (.aload_n 1, 1) := by decide +kernel
theorem zd_La_setUp_31 : decode method_4_code 31 = .ok (.iload_n 2, 1) := by decide +kernel
theorem zd_La_setUp_32 : decode method_4_code 32 = .ok (.iconst 1, 1) := by decide +kernel
theorem zd_La_setUp_33 : decode method_4_code 33 = .ok (.iadd, 1) := by decide +kernel
theorem zd_La_setUp_34 : decode method_4_code 34 = .ok (.iload_n 3, 1) := by decide +kernel
theorem zd_La_setUp_35 : decode method_4_code 35 = .ok (.iconst 2, 1) := by decide +kernel
theorem zd_La_setUp_36 : decode method_4_code 36 = .ok (.if_icmp .ne 8, 3) := by decide +kernel
theorem zd_La_setUp_44 : decode method_4_code 44 = .ok (.iload_n 3, 1) := by decide +kernel
theorem zd_La_setUp_45 : decode method_4_code 45 = .ok (.iconst 3, 1) := by decide +kernel
theorem zd_La_setUp_46 : decode method_4_code 46 = .ok (.if_icmp .ne 8, 3) := by decide +kernel
theorem zd_La_setUp_49 : decode method_4_code 49 = .ok (.bipush 7, 2) := by decide +kernel
theorem zd_La_setUp_51 : decode method_4_code 51 = .ok (.goto 4, 3) := by decide +kernel
theorem zd_La_setUp_55 : decode method_4_code 55 = .ok (.invokestatic 13, 3) := by decide +kernel
theorem zd_La_setUp_58 : decode method_4_code 58 = .ok (.invokevirtual 17, 3) := by decide +kernel
theorem zd_La_setUp_61 : decode method_4_code 61 = .ok (.istore 4, 2) := by decide +kernel
theorem zd_La_setUp_63 : decode method_4_code 63 = .ok (.aload_n 0, 1) := by decide +kernel
theorem zd_La_setUp_64 : decode method_4_code 64 = .ok (.iload 4, 2) := by decide +kernel
theorem zd_La_setUp_66 : decode method_4_code 66 = .ok (.iload_n 3, 1) := by decide +kernel
theorem zd_La_setUp_67 : decode method_4_code 67 = .ok (.invokevirtual 23, 3) := by decide +kernel
theorem zd_La_setUp_70 : decode method_4_code 70 = .ok (.ifCond .ge 11, 3) := by decide +kernel
theorem zd_La_setUp_81 : decode method_4_code 81 = .ok (.aload_n 0, 1) := by decide +kernel
theorem zd_La_setUp_82 : decode method_4_code 82 = .ok (.iconst 0, 1) := by decide +kernel
theorem zd_La_setUp_83 : decode method_4_code 83 = .ok (.invokevirtual 27, 3) := by decide +kernel
theorem zd_La_setUp_86 : decode method_4_code 86 = .ok (.ireturn, 1) := by decide +kernel
theorem zd_La_setUp_13 : decode method_4_code 13 = .ok (.aload_n 1, 1) := by decide +kernel
theorem zd_La_setUp_14 : decode method_4_code 14 = .ok (.iload_n 2, 1) := by decide +kernel
theorem zd_La_setUp_15 : decode method_4_code 15 = .ok (.iconst 4, 1) := by decide +kernel
theorem zd_La_setUp_16 : decode method_4_code 16 = .ok (.invokestatic 13, 3) := by decide +kernel
theorem zd_La_setUp_19 : decode method_4_code 19 = .ok (.iconst 1, 1) := by decide +kernel
theorem zd_La_setUp_20 : decode method_4_code 20 = .ok (.if_icmp .ne 7, 3) := by decide +kernel
theorem zd_La_setUp_23 : decode method_4_code 23 = .ok (.iconst 5, 1) := by decide +kernel
theorem zd_La_setUp_24 : decode method_4_code 24 = .ok (.goto 4, 3) := by decide +kernel
theorem zd_La_setUp_54 : decode method_4_code 54 = .ok (.iconst 4, 1) := by decide +kernel
theorem zd_La_setUp_27 : decode method_4_code 27 = .ok (.iconst 2, 1) := by decide +kernel
theorem zd_La_setUp_39 : decode method_4_code 39 = .ok (.bipush 19, 2) := by decide +kernel
theorem zd_La_setUp_41 : decode method_4_code 41 = .ok (.goto 14, 3) := by decide +kernel
/-- where the block and the script stand -/
def PreZ (D : va_G) (AC : Nat → ClassId) (ad : Nat → Nat) (tn : Nat) (μ : Mm) (b L : Nat) (xs : Nat → Int32) : State → Prop := fun U => PreM kA D AC ad tn μ U ∧ va_X b L xs U U.heap ∧ b < U.heap.size ∧ ¬ Ar kA ad b
theorem blindS {D : va_G} {AC : Nat → ClassId} {ad : Nat → Nat} {tn : Nat} {μ : Mm} {b L : Nat} {xs : Nat → Int32} (As : List Value) : FrameBlind (va_Pc As (PreZ D AC ad tn μ b L xs)) := fun a U g mk q => ⟨q.1, (blindM (ks := kA) As a U g mk ⟨q.1, q.2.1⟩).2, va_X.moved (u := U) (U := U.calling g mk a) (Vm.Alike.refl U.vm) q.2.2.1, q.2.2.2⟩
theorem g_s3 : ∀ t, t < 7 → (tG (19 + t) = t ∧ pG (19 + t) = 3) ∧ (19 + t < 32 ∧ t < 19) := by decide +kernel
set_option maxHeartbeats 4000000 in
theorem c_setUp_s3 (l : Launch) (D : va_G) (AC : Nat → ClassId) (ad : Nat → Nat) (tn b L : Nat) (hL : L < 2 ^ 30) (xs : Nat → Int32) {μ : Mm} {h t : Nat} (hJ : J h μ) (hr : someV L xs 0 (nI 4) = nI 0) (ht : t < 7) (hr2 : someV L xs 1 (nI 7) = nI t) : ∃ μ', J (19 + t) μ' ∧ Met l ⟨"TypesInsideLaw", "setUp", "(LTypesInside;[II)I"⟩ (ws_ ⟨"TypesInsideLaw", "setUp", "(LTypesInside;[II)I"⟩ method_4_code 5 (some .int)) (rmX 6 300) (va_Pc [.ref (ad 0), .ref b, .int (nI 0)] (PreZ D AC ad tn μ b L xs)) (QM (Ar kA ad) (fun H => Wd kA D AC ad μ' H) (some (.int (nI (numN (tG (19 + t))))))) 0 0 (Ar kA ad) := by
  obtain ⟨⟨q1, q2⟩, q3, q4⟩ := g_s3 t ht
  obtain ⟨ν1, k1, hJ⟩ := a_type q4 hJ
  obtain ⟨ν2, k2, hJ⟩ := a_group (g := 19 + t) q3 hJ
  obtain ⟨ν3, k3, hJ⟩ := a_count0 hJ
  rw [q1, q2] at k2
  refine ⟨ν3, hJ, ?_⟩
  refine Met.ofW (cc := method_4_code) (maxL := 5) (ret := (some .int)) (by decide) rfl ?_
  intro p e s m args below meth c s₁ B hml hv
  obtain ⟨rfl, ⟨hW, hK, hN, hi⟩, hX, hbl, hbA⟩ := hv
  have hA : ∀ q, Ar kA ad q → Ar kA ad q := fun _ h => h
  have hS : va_S (Ar kA ad) s.heap s.heap [] := va_S.rf
  have hts0 := atoms_spec (ws := ws_ ⟨"TypesInsideLaw", "setUp", "(LTypesInside;[II)I"⟩ method_4_code 5 (some .int)) B.pre
  have X : Cx p s m ([.ref (ad 0), .ref b, .int (nI 0)] : List Value).toArray meth c "TypesInsideLaw" method_4_code 5 (some .int) := ⟨B.exec, B.bytes, hml, findClass_of_methodNamed B.named, fun w hw => hts0 w (List.mem_cons_of_mem _ hw), B.returns, B.notSynchronized⟩
  have hx := X.1
  have hb := X.2.1
  have hl := lv_entry ([.ref (ad 0), .ref b, .int (nI 0)] : List Value) (n := 5) (Nat.le_of_ble_eq_true rfl)
  rw [lg_entry_eq]
  generalize (lg_sl ([.ref (ad 0), .ref b, .int (nI 0)] : List Value) ++ List.replicate (5 - (lg_sl ([.ref (ad 0), .ref b, .int (nI 0)] : List Value)).length) Slot.unset).toArray = ls at hl ⊢
  have hl : lv_has ls 5 [(0, .ref (ad 0)), (1, .ref b), (2, .int (nI 0))] := hl
  have hR1 : 6 ≤ (rmX 6 300).frames := Nat.le_of_ble_eq_true rfl
  have hR2 : 240 ≤ (rmX 6 300).locals := Nat.le_of_ble_eq_true rfl
  have hR3 : 2 ≤ (rmX 6 300).frames := Nat.le_of_ble_eq_true rfl
  have hR4 : 46 ≤ (rmX 6 300).locals := Nat.le_of_ble_eq_true rfl
  have hcs : 0 + 0 ≤ (rmX 6 300).cells ∧ 0 + 0 ≤ (rmX 6 300).slots := ⟨Nat.le_of_ble_eq_true rfl, Nat.le_of_ble_eq_true rfl⟩
  refine lv_aload_n hx hb zd_La_setUp_0 rfl (lv_at hl 1 rfl) ?_
  refine lv_iload_n hx hb zd_La_setUp_1 rfl (lv_at hl 2 rfl) ?_
  refine lv_iconst (v := nI 4) hx hb zd_La_setUp_2 (by decide) ?_
  refine callX (v := someV L xs 0 (nI 4)) (rest := []) X hX hbl hbA hS (c_some l b L hL xs _ 0 (by omega) 4 (by omega) (by omega)) zw503 zw501 zw0 zw502 zh_La_some rfl hR3 hR4 hcs hl.1 rfl (Nat.le_of_ble_eq_true rfl) zd_La_setUp_3 (fun locs hS => ?_)
  refine lv_if_ne (tgt := 13) hx hb zd_La_setUp_6 (by decide) (fun c_ => absurd c_ (fun z => z (by rw [hr]; decide))) (fun _ => ?_)
  refine lv_iconst (v := nI 3) hx hb zd_La_setUp_9 (by decide) ?_
  refine lv_goto (tgt := 28) hx hb zd_La_setUp_10 (by decide) ?_
  refine lv_istore_n (lv' := [(3, .int (nI 3)), (0, .ref (ad 0)), (1, .ref b), (2, .int (nI 0))]) hx hb zd_La_setUp_28 rfl hl (by decide) rfl (fun ls hl => ?_)
  refine lv_aload_n hx hb zd_La_setUp_29 rfl (lv_at hl 1 rfl) ?_
  refine lv_aload_n hx hb zd_La_setUp_30 rfl (lv_at hl 2 rfl) ?_
  refine lv_iload_n hx hb zd_La_setUp_31 rfl (lv_at hl 3 rfl) ?_
  refine lv_iconst (v := nI 1) hx hb zd_La_setUp_32 (by decide) ?_
  refine lv_iadd hx hb zd_La_setUp_33 ?_
  rw [show (nI 0) + (nI 1) = nI 1 from by decide]
  refine lv_iload_n hx hb zd_La_setUp_34 rfl (lv_at hl 0 rfl) ?_
  refine lv_iconst (v := nI 2) hx hb zd_La_setUp_35 (by decide) ?_
  refine lv_icmp_ne (tgt := 44) hx hb zd_La_setUp_36 (by decide) (fun _ => ?_) (fun c_ => absurd c_ (by decide))
  refine lv_iload_n hx hb zd_La_setUp_44 rfl (lv_at hl 0 rfl) ?_
  refine lv_iconst (v := nI 3) hx hb zd_La_setUp_45 (by decide) ?_
  refine lv_icmp_ne (tgt := 54) hx hb zd_La_setUp_46 (by decide) (fun c_ => absurd c_ (fun z => z rfl)) (fun _ => ?_)
  refine lv_bipush (v := nI 7) hx hb zd_La_setUp_49 (by decide) ?_
  refine lv_goto (tgt := 55) hx hb zd_La_setUp_51 (by decide) ?_
  refine callX (v := someV L xs 1 (nI 7)) (rest := [.ref (ad 0)]) X hX hbl hbA hS (c_some l b L hL xs _ 1 (by omega) 7 (by omega) (by omega)) zw503 zw501 zw0 zw502 zh_La_some rfl hR3 hR4 hcs hl.1 rfl (Nat.le_of_ble_eq_true rfl) zd_La_setUp_55 (fun locs hS => ?_)
  rw [show someV L xs 1 (nI 7) = nI t from hr2]
  refine cR (c0 := 69) (k := 0) (as := [.int (nI t)]) (B := 5) (ci := 0) (rest := []) (st1 := [.int (nI (numN t))]) X hK hN hA hi hW hS (by decide) rfl (Nat.le_of_ble_eq_true rfl) k1 rfl (List.mem_range.mpr (by decide)) rfl zw203 rfl (Nat.le_of_ble_eq_true rfl) hR1 hR2 hcs hl.1 rfl (Nat.le_of_ble_eq_true rfl) zd_La_setUp_58 rfl (fun H locs hW hS => ?_)
  refine lv_istore (lv' := [(4, .int (nI (numN t))), (3, .int (nI 3)), (0, .ref (ad 0)), (1, .ref b), (2, .int (nI 0))]) hx hb zd_La_setUp_61 hl (by decide) rfl (fun ls hl => ?_)
  refine lv_aload_n hx hb zd_La_setUp_63 rfl (lv_at hl 2 rfl) ?_
  refine lv_iload hx hb zd_La_setUp_64 (lv_at hl 0 rfl) ?_
  refine lv_iload_n hx hb zd_La_setUp_66 rfl (lv_at hl 1 rfl) ?_
  refine cR (c0 := 76) (k := 0) (as := [.int (nI (numN t)), .int (nI 3)]) (B := 5) (ci := 0) (rest := []) (st1 := [.int (nI (nG (19 + t)))]) X hK hN hA hi hW hS (by decide) rfl (Nat.le_of_ble_eq_true rfl) k2 rfl (List.mem_range.mpr (by decide)) rfl zw510 rfl (Nat.le_of_ble_eq_true rfl) hR1 hR2 hcs hl.1 rfl (Nat.le_of_ble_eq_true rfl) zd_La_setUp_67 rfl (fun H locs hW hS => ?_)
  refine lv_if_ge (tgt := 81) hx hb zd_La_setUp_70 (by decide) (fun _ => ?_) (fun c_ => absurd (nI_pos' (n := nG (19 + t)) (by have := (g_1 (19 + t) q3).2.2.1; omega)) c_)
  refine lv_aload_n hx hb zd_La_setUp_81 rfl (lv_at hl 2 rfl) ?_
  refine lv_iconst (v := nI 0) hx hb zd_La_setUp_82 (by decide) ?_
  refine cR (c0 := 81) (k := 0) (as := [.int (nI 0)]) (B := 5) (ci := 0) (rest := []) (st1 := [.int (nI (numN (tG (19 + t))))]) X hK hN hA hi hW hS (by decide) rfl (Nat.le_of_ble_eq_true rfl) k3 rfl (List.mem_range.mpr (by decide)) rfl zw460 rfl (Nat.le_of_ble_eq_true rfl) hR1 hR2 hcs hl.1 rfl (Nat.le_of_ble_eq_true rfl) zd_La_setUp_83 rfl (fun H locs hW hS => ?_)
  exact em_i X hW hS zd_La_setUp_86
theorem g_s5 : ∀ t, t < 4 → (tG (26 + t) = t ∧ pG (26 + t) = 5) ∧ (26 + t < 32 ∧ t < 19) := by decide +kernel
set_option maxHeartbeats 4000000 in
theorem c_setUp_s5 (l : Launch) (D : va_G) (AC : Nat → ClassId) (ad : Nat → Nat) (tn b L : Nat) (hL : L < 2 ^ 30) (xs : Nat → Int32) {μ : Mm} {h t : Nat} (hJ : J h μ) (hr : someV L xs 0 (nI 4) = nI 1) (ht : t < 4) (hr2 : someV L xs 1 (nI 4) = nI t) : ∃ μ', J (26 + t) μ' ∧ Met l ⟨"TypesInsideLaw", "setUp", "(LTypesInside;[II)I"⟩ (ws_ ⟨"TypesInsideLaw", "setUp", "(LTypesInside;[II)I"⟩ method_4_code 5 (some .int)) (rmX 6 300) (va_Pc [.ref (ad 0), .ref b, .int (nI 0)] (PreZ D AC ad tn μ b L xs)) (QM (Ar kA ad) (fun H => Wd kA D AC ad μ' H) (some (.int (nI (numN (tG (26 + t))))))) 0 0 (Ar kA ad) := by
  obtain ⟨⟨q1, q2⟩, q3, q4⟩ := g_s5 t ht
  obtain ⟨ν1, k1, hJ⟩ := a_type q4 hJ
  obtain ⟨ν2, k2, hJ⟩ := a_group (g := 26 + t) q3 hJ
  obtain ⟨ν3, k3, hJ⟩ := a_count0 hJ
  rw [q1, q2] at k2
  refine ⟨ν3, hJ, ?_⟩
  refine Met.ofW (cc := method_4_code) (maxL := 5) (ret := (some .int)) (by decide) rfl ?_
  intro p e s m args below meth c s₁ B hml hv
  obtain ⟨rfl, ⟨hW, hK, hN, hi⟩, hX, hbl, hbA⟩ := hv
  have hA : ∀ q, Ar kA ad q → Ar kA ad q := fun _ h => h
  have hS : va_S (Ar kA ad) s.heap s.heap [] := va_S.rf
  have hts0 := atoms_spec (ws := ws_ ⟨"TypesInsideLaw", "setUp", "(LTypesInside;[II)I"⟩ method_4_code 5 (some .int)) B.pre
  have X : Cx p s m ([.ref (ad 0), .ref b, .int (nI 0)] : List Value).toArray meth c "TypesInsideLaw" method_4_code 5 (some .int) := ⟨B.exec, B.bytes, hml, findClass_of_methodNamed B.named, fun w hw => hts0 w (List.mem_cons_of_mem _ hw), B.returns, B.notSynchronized⟩
  have hx := X.1
  have hb := X.2.1
  have hl := lv_entry ([.ref (ad 0), .ref b, .int (nI 0)] : List Value) (n := 5) (Nat.le_of_ble_eq_true rfl)
  rw [lg_entry_eq]
  generalize (lg_sl ([.ref (ad 0), .ref b, .int (nI 0)] : List Value) ++ List.replicate (5 - (lg_sl ([.ref (ad 0), .ref b, .int (nI 0)] : List Value)).length) Slot.unset).toArray = ls at hl ⊢
  have hl : lv_has ls 5 [(0, .ref (ad 0)), (1, .ref b), (2, .int (nI 0))] := hl
  have hR1 : 6 ≤ (rmX 6 300).frames := Nat.le_of_ble_eq_true rfl
  have hR2 : 240 ≤ (rmX 6 300).locals := Nat.le_of_ble_eq_true rfl
  have hR3 : 2 ≤ (rmX 6 300).frames := Nat.le_of_ble_eq_true rfl
  have hR4 : 46 ≤ (rmX 6 300).locals := Nat.le_of_ble_eq_true rfl
  have hcs : 0 + 0 ≤ (rmX 6 300).cells ∧ 0 + 0 ≤ (rmX 6 300).slots := ⟨Nat.le_of_ble_eq_true rfl, Nat.le_of_ble_eq_true rfl⟩
  refine lv_aload_n hx hb zd_La_setUp_0 rfl (lv_at hl 1 rfl) ?_
  refine lv_iload_n hx hb zd_La_setUp_1 rfl (lv_at hl 2 rfl) ?_
  refine lv_iconst (v := nI 4) hx hb zd_La_setUp_2 (by decide) ?_
  refine callX (v := someV L xs 0 (nI 4)) (rest := []) X hX hbl hbA hS (c_some l b L hL xs _ 0 (by omega) 4 (by omega) (by omega)) zw503 zw501 zw0 zw502 zh_La_some rfl hR3 hR4 hcs hl.1 rfl (Nat.le_of_ble_eq_true rfl) zd_La_setUp_3 (fun locs hS => ?_)
  refine lv_if_ne (tgt := 13) hx hb zd_La_setUp_6 (by decide) (fun _ => ?_) (fun c_ => absurd c_ (show ¬ someV L xs 0 (nI 4) = 0 by rw [hr]; decide))
  refine lv_aload_n hx hb zd_La_setUp_13 rfl (lv_at hl 1 rfl) ?_
  refine lv_iload_n hx hb zd_La_setUp_14 rfl (lv_at hl 2 rfl) ?_
  refine lv_iconst (v := nI 4) hx hb zd_La_setUp_15 (by decide) ?_
  refine callX (v := someV L xs 0 (nI 4)) (rest := []) X hX hbl hbA hS (c_some l b L hL xs _ 0 (by omega) 4 (by omega) (by omega)) zw503 zw501 zw0 zw502 zh_La_some rfl hR3 hR4 hcs hl.1 rfl (Nat.le_of_ble_eq_true rfl) zd_La_setUp_16 (fun locs hS => ?_)
  refine lv_iconst (v := nI 1) hx hb zd_La_setUp_19 (by decide) ?_
  refine lv_icmp_ne (tgt := 27) hx hb zd_La_setUp_20 (by decide) (fun c_ => absurd c_ (fun z => z hr)) (fun _ => ?_)
  refine lv_iconst (v := nI 5) hx hb zd_La_setUp_23 (by decide) ?_
  refine lv_goto (tgt := 28) hx hb zd_La_setUp_24 (by decide) ?_
  refine lv_istore_n (lv' := [(3, .int (nI 5)), (0, .ref (ad 0)), (1, .ref b), (2, .int (nI 0))]) hx hb zd_La_setUp_28 rfl hl (by decide) rfl (fun ls hl => ?_)
  refine lv_aload_n hx hb zd_La_setUp_29 rfl (lv_at hl 1 rfl) ?_
  refine lv_aload_n hx hb zd_La_setUp_30 rfl (lv_at hl 2 rfl) ?_
  refine lv_iload_n hx hb zd_La_setUp_31 rfl (lv_at hl 3 rfl) ?_
  refine lv_iconst (v := nI 1) hx hb zd_La_setUp_32 (by decide) ?_
  refine lv_iadd hx hb zd_La_setUp_33 ?_
  rw [show (nI 0) + (nI 1) = nI 1 from by decide]
  refine lv_iload_n hx hb zd_La_setUp_34 rfl (lv_at hl 0 rfl) ?_
  refine lv_iconst (v := nI 2) hx hb zd_La_setUp_35 (by decide) ?_
  refine lv_icmp_ne (tgt := 44) hx hb zd_La_setUp_36 (by decide) (fun _ => ?_) (fun c_ => absurd c_ (by decide))
  refine lv_iload_n hx hb zd_La_setUp_44 rfl (lv_at hl 0 rfl) ?_
  refine lv_iconst (v := nI 3) hx hb zd_La_setUp_45 (by decide) ?_
  refine lv_icmp_ne (tgt := 54) hx hb zd_La_setUp_46 (by decide) (fun _ => ?_) (fun c_ => absurd c_ (by decide))
  refine lv_iconst (v := nI 4) hx hb zd_La_setUp_54 (by decide) ?_
  refine callX (v := someV L xs 1 (nI 4)) (rest := [.ref (ad 0)]) X hX hbl hbA hS (c_some l b L hL xs _ 1 (by omega) 4 (by omega) (by omega)) zw503 zw501 zw0 zw502 zh_La_some rfl hR3 hR4 hcs hl.1 rfl (Nat.le_of_ble_eq_true rfl) zd_La_setUp_55 (fun locs hS => ?_)
  rw [show someV L xs 1 (nI 4) = nI t from hr2]
  refine cR (c0 := 69) (k := 0) (as := [.int (nI t)]) (B := 5) (ci := 0) (rest := []) (st1 := [.int (nI (numN t))]) X hK hN hA hi hW hS (by decide) rfl (Nat.le_of_ble_eq_true rfl) k1 rfl (List.mem_range.mpr (by decide)) rfl zw203 rfl (Nat.le_of_ble_eq_true rfl) hR1 hR2 hcs hl.1 rfl (Nat.le_of_ble_eq_true rfl) zd_La_setUp_58 rfl (fun H locs hW hS => ?_)
  refine lv_istore (lv' := [(4, .int (nI (numN t))), (3, .int (nI 5)), (0, .ref (ad 0)), (1, .ref b), (2, .int (nI 0))]) hx hb zd_La_setUp_61 hl (by decide) rfl (fun ls hl => ?_)
  refine lv_aload_n hx hb zd_La_setUp_63 rfl (lv_at hl 2 rfl) ?_
  refine lv_iload hx hb zd_La_setUp_64 (lv_at hl 0 rfl) ?_
  refine lv_iload_n hx hb zd_La_setUp_66 rfl (lv_at hl 1 rfl) ?_
  refine cR (c0 := 76) (k := 0) (as := [.int (nI (numN t)), .int (nI 5)]) (B := 5) (ci := 0) (rest := []) (st1 := [.int (nI (nG (26 + t)))]) X hK hN hA hi hW hS (by decide) rfl (Nat.le_of_ble_eq_true rfl) k2 rfl (List.mem_range.mpr (by decide)) rfl zw510 rfl (Nat.le_of_ble_eq_true rfl) hR1 hR2 hcs hl.1 rfl (Nat.le_of_ble_eq_true rfl) zd_La_setUp_67 rfl (fun H locs hW hS => ?_)
  refine lv_if_ge (tgt := 81) hx hb zd_La_setUp_70 (by decide) (fun _ => ?_) (fun c_ => absurd (nI_pos' (n := nG (26 + t)) (by have := (g_1 (26 + t) q3).2.2.1; omega)) c_)
  refine lv_aload_n hx hb zd_La_setUp_81 rfl (lv_at hl 2 rfl) ?_
  refine lv_iconst (v := nI 0) hx hb zd_La_setUp_82 (by decide) ?_
  refine cR (c0 := 81) (k := 0) (as := [.int (nI 0)]) (B := 5) (ci := 0) (rest := []) (st1 := [.int (nI (numN (tG (26 + t))))]) X hK hN hA hi hW hS (by decide) rfl (Nat.le_of_ble_eq_true rfl) k3 rfl (List.mem_range.mpr (by decide)) rfl zw460 rfl (Nat.le_of_ble_eq_true rfl) hR1 hR2 hcs hl.1 rfl (Nat.le_of_ble_eq_true rfl) zd_La_setUp_83 rfl (fun H locs hW hS => ?_)
  exact em_i X hW hS zd_La_setUp_86
theorem g_s2 : ∀ t, t < 19 → (tG (t) = t ∧ pG (t) = 2) ∧ (t < 32 ∧ t < 19) := by decide +kernel
set_option maxHeartbeats 4000000 in
theorem c_setUp_s2 (l : Launch) (D : va_G) (AC : Nat → ClassId) (ad : Nat → Nat) (tn b L : Nat) (hL : L < 2 ^ 30) (xs : Nat → Int32) {μ : Mm} {h t : Nat} (hJ : J h μ) (h0 : ¬ someV L xs 0 (nI 4) = 0) (h1 : ¬ someV L xs 0 (nI 4) = nI 1) (ht : t < 19) (hr2 : someV L xs 1 (nI 19) = nI t) : ∃ μ', J (t) μ' ∧ Met l ⟨"TypesInsideLaw", "setUp", "(LTypesInside;[II)I"⟩ (ws_ ⟨"TypesInsideLaw", "setUp", "(LTypesInside;[II)I"⟩ method_4_code 5 (some .int)) (rmX 6 300) (va_Pc [.ref (ad 0), .ref b, .int (nI 0)] (PreZ D AC ad tn μ b L xs)) (QM (Ar kA ad) (fun H => Wd kA D AC ad μ' H) (some (.int (nI (numN (tG (t))))))) 0 0 (Ar kA ad) := by
  obtain ⟨⟨q1, q2⟩, q3, q4⟩ := g_s2 t ht
  obtain ⟨ν1, k1, hJ⟩ := a_type q4 hJ
  obtain ⟨ν2, k2, hJ⟩ := a_group (g := t) q3 hJ
  obtain ⟨ν3, k3, hJ⟩ := a_count0 hJ
  rw [q1, q2] at k2
  refine ⟨ν3, hJ, ?_⟩
  refine Met.ofW (cc := method_4_code) (maxL := 5) (ret := (some .int)) (by decide) rfl ?_
  intro p e s m args below meth c s₁ B hml hv
  obtain ⟨rfl, ⟨hW, hK, hN, hi⟩, hX, hbl, hbA⟩ := hv
  have hA : ∀ q, Ar kA ad q → Ar kA ad q := fun _ h => h
  have hS : va_S (Ar kA ad) s.heap s.heap [] := va_S.rf
  have hts0 := atoms_spec (ws := ws_ ⟨"TypesInsideLaw", "setUp", "(LTypesInside;[II)I"⟩ method_4_code 5 (some .int)) B.pre
  have X : Cx p s m ([.ref (ad 0), .ref b, .int (nI 0)] : List Value).toArray meth c "TypesInsideLaw" method_4_code 5 (some .int) := ⟨B.exec, B.bytes, hml, findClass_of_methodNamed B.named, fun w hw => hts0 w (List.mem_cons_of_mem _ hw), B.returns, B.notSynchronized⟩
  have hx := X.1
  have hb := X.2.1
  have hl := lv_entry ([.ref (ad 0), .ref b, .int (nI 0)] : List Value) (n := 5) (Nat.le_of_ble_eq_true rfl)
  rw [lg_entry_eq]
  generalize (lg_sl ([.ref (ad 0), .ref b, .int (nI 0)] : List Value) ++ List.replicate (5 - (lg_sl ([.ref (ad 0), .ref b, .int (nI 0)] : List Value)).length) Slot.unset).toArray = ls at hl ⊢
  have hl : lv_has ls 5 [(0, .ref (ad 0)), (1, .ref b), (2, .int (nI 0))] := hl
  have hR1 : 6 ≤ (rmX 6 300).frames := Nat.le_of_ble_eq_true rfl
  have hR2 : 240 ≤ (rmX 6 300).locals := Nat.le_of_ble_eq_true rfl
  have hR3 : 2 ≤ (rmX 6 300).frames := Nat.le_of_ble_eq_true rfl
  have hR4 : 46 ≤ (rmX 6 300).locals := Nat.le_of_ble_eq_true rfl
  have hcs : 0 + 0 ≤ (rmX 6 300).cells ∧ 0 + 0 ≤ (rmX 6 300).slots := ⟨Nat.le_of_ble_eq_true rfl, Nat.le_of_ble_eq_true rfl⟩
  refine lv_aload_n hx hb zd_La_setUp_0 rfl (lv_at hl 1 rfl) ?_
  refine lv_iload_n hx hb zd_La_setUp_1 rfl (lv_at hl 2 rfl) ?_
  refine lv_iconst (v := nI 4) hx hb zd_La_setUp_2 (by decide) ?_
  refine callX (v := someV L xs 0 (nI 4)) (rest := []) X hX hbl hbA hS (c_some l b L hL xs _ 0 (by omega) 4 (by omega) (by omega)) zw503 zw501 zw0 zw502 zh_La_some rfl hR3 hR4 hcs hl.1 rfl (Nat.le_of_ble_eq_true rfl) zd_La_setUp_3 (fun locs hS => ?_)
  refine lv_if_ne (tgt := 13) hx hb zd_La_setUp_6 (by decide) (fun _ => ?_) (fun c_ => absurd c_ h0)
  refine lv_aload_n hx hb zd_La_setUp_13 rfl (lv_at hl 1 rfl) ?_
  refine lv_iload_n hx hb zd_La_setUp_14 rfl (lv_at hl 2 rfl) ?_
  refine lv_iconst (v := nI 4) hx hb zd_La_setUp_15 (by decide) ?_
  refine callX (v := someV L xs 0 (nI 4)) (rest := []) X hX hbl hbA hS (c_some l b L hL xs _ 0 (by omega) 4 (by omega) (by omega)) zw503 zw501 zw0 zw502 zh_La_some rfl hR3 hR4 hcs hl.1 rfl (Nat.le_of_ble_eq_true rfl) zd_La_setUp_16 (fun locs hS => ?_)
  refine lv_iconst (v := nI 1) hx hb zd_La_setUp_19 (by decide) ?_
  refine lv_icmp_ne (tgt := 27) hx hb zd_La_setUp_20 (by decide) (fun _ => ?_) (fun c_ => absurd c_ h1)
  refine lv_iconst (v := nI 2) hx hb zd_La_setUp_27 (by decide) ?_
  refine lv_istore_n (lv' := [(3, .int (nI 2)), (0, .ref (ad 0)), (1, .ref b), (2, .int (nI 0))]) hx hb zd_La_setUp_28 rfl hl (by decide) rfl (fun ls hl => ?_)
  refine lv_aload_n hx hb zd_La_setUp_29 rfl (lv_at hl 1 rfl) ?_
  refine lv_aload_n hx hb zd_La_setUp_30 rfl (lv_at hl 2 rfl) ?_
  refine lv_iload_n hx hb zd_La_setUp_31 rfl (lv_at hl 3 rfl) ?_
  refine lv_iconst (v := nI 1) hx hb zd_La_setUp_32 (by decide) ?_
  refine lv_iadd hx hb zd_La_setUp_33 ?_
  rw [show (nI 0) + (nI 1) = nI 1 from by decide]
  refine lv_iload_n hx hb zd_La_setUp_34 rfl (lv_at hl 0 rfl) ?_
  refine lv_iconst (v := nI 2) hx hb zd_La_setUp_35 (by decide) ?_
  refine lv_icmp_ne (tgt := 44) hx hb zd_La_setUp_36 (by decide) (fun c_ => absurd c_ (fun z => z rfl)) (fun _ => ?_)
  refine lv_bipush (v := nI 19) hx hb zd_La_setUp_39 (by decide) ?_
  refine lv_goto (tgt := 55) hx hb zd_La_setUp_41 (by decide) ?_
  refine callX (v := someV L xs 1 (nI 19)) (rest := [.ref (ad 0)]) X hX hbl hbA hS (c_some l b L hL xs _ 1 (by omega) 19 (by omega) (by omega)) zw503 zw501 zw0 zw502 zh_La_some rfl hR3 hR4 hcs hl.1 rfl (Nat.le_of_ble_eq_true rfl) zd_La_setUp_55 (fun locs hS => ?_)
  rw [show someV L xs 1 (nI 19) = nI t from hr2]
  refine cR (c0 := 69) (k := 0) (as := [.int (nI t)]) (B := 5) (ci := 0) (rest := []) (st1 := [.int (nI (numN t))]) X hK hN hA hi hW hS (by decide) rfl (Nat.le_of_ble_eq_true rfl) k1 rfl (List.mem_range.mpr (by decide)) rfl zw203 rfl (Nat.le_of_ble_eq_true rfl) hR1 hR2 hcs hl.1 rfl (Nat.le_of_ble_eq_true rfl) zd_La_setUp_58 rfl (fun H locs hW hS => ?_)
  refine lv_istore (lv' := [(4, .int (nI (numN t))), (3, .int (nI 2)), (0, .ref (ad 0)), (1, .ref b), (2, .int (nI 0))]) hx hb zd_La_setUp_61 hl (by decide) rfl (fun ls hl => ?_)
  refine lv_aload_n hx hb zd_La_setUp_63 rfl (lv_at hl 2 rfl) ?_
  refine lv_iload hx hb zd_La_setUp_64 (lv_at hl 0 rfl) ?_
  refine lv_iload_n hx hb zd_La_setUp_66 rfl (lv_at hl 1 rfl) ?_
  refine cR (c0 := 76) (k := 0) (as := [.int (nI (numN t)), .int (nI 2)]) (B := 5) (ci := 0) (rest := []) (st1 := [.int (nI (nG (t)))]) X hK hN hA hi hW hS (by decide) rfl (Nat.le_of_ble_eq_true rfl) k2 rfl (List.mem_range.mpr (by decide)) rfl zw510 rfl (Nat.le_of_ble_eq_true rfl) hR1 hR2 hcs hl.1 rfl (Nat.le_of_ble_eq_true rfl) zd_La_setUp_67 rfl (fun H locs hW hS => ?_)
  refine lv_if_ge (tgt := 81) hx hb zd_La_setUp_70 (by decide) (fun _ => ?_) (fun c_ => absurd (nI_pos' (n := nG (t)) (by have := (g_1 (t) q3).2.2.1; omega)) c_)
  refine lv_aload_n hx hb zd_La_setUp_81 rfl (lv_at hl 2 rfl) ?_
  refine lv_iconst (v := nI 0) hx hb zd_La_setUp_82 (by decide) ?_
  refine cR (c0 := 81) (k := 0) (as := [.int (nI 0)]) (B := 5) (ci := 0) (rest := []) (st1 := [.int (nI (numN (tG (t))))]) X hK hN hA hi hW hS (by decide) rfl (Nat.le_of_ble_eq_true rfl) k3 rfl (List.mem_range.mpr (by decide)) rfl zw460 rfl (Nat.le_of_ble_eq_true rfl) hR1 hR2 hcs hl.1 rfl (Nat.le_of_ble_eq_true rfl) zd_La_setUp_83 rfl (fun H locs hW hS => ?_)
  exact em_i X hW hS zd_La_setUp_86
/-- setUp, whatever the script says: some group comes into hand -/
theorem c_setUp (l : Launch) (D : va_G) (AC : Nat → ClassId) (ad : Nat → Nat) (tn b L : Nat) (hL : L < 2 ^ 30) (xs : Nat → Int32) {μ : Mm} {h : Nat} (hJ : J h μ) : ∃ g μ', J g μ' ∧ Met l ⟨"TypesInsideLaw", "setUp", "(LTypesInside;[II)I"⟩ (ws_ ⟨"TypesInsideLaw", "setUp", "(LTypesInside;[II)I"⟩ method_4_code 5 (some .int)) (rmX 6 300) (va_Pc [.ref (ad 0), .ref b, .int (nI 0)] (PreZ D AC ad tn μ b L xs)) (QM (Ar kA ad) (fun H => Wd kA D AC ad μ' H) (some (.int (nI (numN (tG g)))))) 0 0 (Ar kA ad) := by
  obtain ⟨r, hr4, hr⟩ := some_lt L xs 0 (n := 4) (by omega) (by omega)
  by_cases q0 : r = 0
  · subst q0
    obtain ⟨t, ht, hr2⟩ := some_lt L xs 1 (n := 7) (by omega) (by omega)
    exact ⟨_, c_setUp_s3 l D AC ad tn b L hL xs hJ hr ht hr2⟩
  · by_cases q1 : r = 1
    · subst q1
      obtain ⟨t, ht, hr2⟩ := some_lt L xs 1 (n := 4) (by omega) (by omega)
      exact ⟨_, c_setUp_s5 l D AC ad tn b L hL xs hJ hr ht hr2⟩
    · obtain ⟨t, ht, hr2⟩ := some_lt L xs 1 (n := 19) (by omega) (by omega)
      refine ⟨_, c_setUp_s2 l D AC ad tn b L hL xs hJ ?_ ?_ ht hr2⟩
      · rw [hr]
        exact nI_ne0 (by omega) (by omega)
      · rw [hr]
        exact fun z => q1 ((nI_eq (by omega) (by omega)).mp z)
