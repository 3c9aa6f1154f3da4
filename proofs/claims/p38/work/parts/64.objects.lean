theorem zw24 : Jvm.Cond.methodLink "TypesInside$Counts" 3 ⟨"java/lang/Object", "<init>", "()V"⟩ ∈ LW := lc1 24 rfl rfl
theorem zw27 : Jvm.Cond.code ⟨"TypesInside$Counts", "chosenTable", "()[[J"⟩ prog_3_method_2_code 7 (some (FieldType.array (FieldType.array FieldType.long))) ∈ LW := lc1 27 rfl rfl
theorem zw2 : Jvm.Cond.initialized "TypesInside$Counts" ∈ LW := lc1 2 rfl rfl
theorem zw25 : Jvm.Cond.methodLink "TypesInside$Counts" 9 ⟨"TypesInside$Counts", "chosenTable", "()[[J"⟩ ∈ LW := lc1 25 rfl rfl
theorem zh_Co_chosenTable : (⟨"TypesInside$Counts", "chosenTable", "()[[J"⟩ : MethodName).cls ≠ "java/lang/invoke/MethodHandle" ∧ (⟨"TypesInside$Counts", "chosenTable", "()[[J"⟩ : MethodName).cls ≠ "java/lang/invoke/VarHandle" ∧ (parseMethodDescriptor (⟨"TypesInside$Counts", "chosenTable", "()[[J"⟩ : MethodName).desc).map (fun d => d.parameters.length) = some 0 := by decide +kernel
theorem zw26 : Jvm.Cond.static ⟨"TypesInside$Counts", "chosenTable", "()[[J"⟩ ∈ LW := lc1 26 rfl rfl
theorem zw30 : Jvm.Cond.fieldLink "TypesInside$Counts" 15 "TypesInside$Counts" "chosen" "[[J" ∈ LW := lc1 30 rfl rfl
theorem zw31 : Jvm.Cond.fieldLink "TypesInside$Counts" 22 "TypesInside$Counts" "chains" "[[J" ∈ LW := lc1 31 rfl rfl
theorem zw32 : Jvm.Cond.fieldLink "TypesInside$Counts" 25 "TypesInside$Counts" "chainsKnown" "Z" ∈ LW := lc1 32 rfl rfl
theorem zw33 : Jvm.Cond.fieldLink "TypesInside$Counts" 29 "TypesInside$Counts" "step" "[J" ∈ LW := lc1 33 rfl rfl
theorem zw34 : Jvm.Cond.fieldLink "TypesInside$Counts" 33 "TypesInside$Counts" "nextStep" "[J" ∈ LW := lc1 34 rfl rfl
theorem zw99 : Jvm.Cond.methodLink "TypesInside$Sums" 1 ⟨"java/lang/Object", "<init>", "()V"⟩ ∈ LW := lc1 99 rfl rfl
theorem zw115 : Jvm.Cond.fieldLink "TypesInside$Sums" 9 "TypesInside$Sums" "tape" "[I" ∈ LW := lc1 115 rfl rfl
theorem zw116 : Jvm.Cond.fieldLink "TypesInside$Sums" 13 "TypesInside$Sums" "length" "I" ∈ LW := lc1 116 rfl rfl
theorem zw102 : Jvm.Cond.code ⟨"TypesInside$Sums", "newMixes", "()[LTypesInside$Mix;"⟩ prog_8_method_2_code 2 (some (FieldType.array (FieldType.object "TypesInside$Mix"))) ∈ LW := lc1 102 rfl rfl
theorem zw4 : Jvm.Cond.initialized "TypesInside$Sums" ∈ LW := lc1 4 rfl rfl
theorem zw100 : Jvm.Cond.methodLink "TypesInside$Sums" 17 ⟨"TypesInside$Sums", "newMixes", "()[LTypesInside$Mix;"⟩ ∈ LW := lc1 100 rfl rfl
theorem zh_Su_newMixes : (⟨"TypesInside$Sums", "newMixes", "()[LTypesInside$Mix;"⟩ : MethodName).cls ≠ "java/lang/invoke/MethodHandle" ∧ (⟨"TypesInside$Sums", "newMixes", "()[LTypesInside$Mix;"⟩ : MethodName).cls ≠ "java/lang/invoke/VarHandle" ∧ (parseMethodDescriptor (⟨"TypesInside$Sums", "newMixes", "()[LTypesInside$Mix;"⟩ : MethodName).desc).map (fun d => d.parameters.length) = some 0 := by decide +kernel
theorem zw101 : Jvm.Cond.static ⟨"TypesInside$Sums", "newMixes", "()[LTypesInside$Mix;"⟩ ∈ LW := lc1 101 rfl rfl
theorem zw117 : Jvm.Cond.fieldLink "TypesInside$Sums" 21 "TypesInside$Sums" "totals" "[LTypesInside$Mix;" ∈ LW := lc1 117 rfl rfl
theorem zw118 : Jvm.Cond.fieldLink "TypesInside$Sums" 25 "TypesInside$Sums" "products" "[LTypesInside$Mix;" ∈ LW := lc1 118 rfl rfl
theorem zw143 : Jvm.Cond.arrayClass FieldType.boolean ∈ LW := lc1 143 rfl rfl
theorem zw119 : Jvm.Cond.fieldLink "TypesInside$Sums" 28 "TypesInside$Sums" "minus" "[Z" ∈ LW := lc1 119 rfl rfl
theorem zw120 : Jvm.Cond.fieldLink "TypesInside$Sums" 32 "TypesInside$Sums" "stars" "[I" ∈ LW := lc1 120 rfl rfl
theorem zw121 : Jvm.Cond.fieldLink "TypesInside$Sums" 38 "TypesInside$Sums" "one" "LTypesInside$Mix;" ∈ LW := lc1 121 rfl rfl
theorem zw122 : Jvm.Cond.fieldLink "TypesInside$Sums" 42 "TypesInside$Sums" "spare" "LTypesInside$Mix;" ∈ LW := lc1 122 rfl rfl
theorem zw123 : Jvm.Cond.fieldLink "TypesInside$Sums" 47 "TypesInside$Sums" "hallRow" "[J" ∈ LW := lc1 123 rfl rfl
theorem zw16 : Jvm.Cond.methodLink "TypesInside" 3 ⟨"java/lang/Object", "<init>", "()V"⟩ ∈ LW := lc1 16 rfl rfl
theorem zw19 : Jvm.Cond.classLink "TypesInside" 9 "TypesInside$Counts" ∈ LW := lc1 19 rfl rfl
theorem zw20 : Jvm.Cond.instantiable "TypesInside$Counts" 5 ∈ LW := lc1 20 rfl rfl
theorem zw23 : Jvm.Cond.code ⟨"TypesInside$Counts", "<init>", "()V"⟩ prog_3_method_1_code 1 none ∈ LW := lc1 23 rfl rfl
theorem zh_Co_init : (⟨"TypesInside$Counts", "<init>", "()V"⟩ : MethodName).cls ≠ "java/lang/invoke/MethodHandle" ∧ (⟨"TypesInside$Counts", "<init>", "()V"⟩ : MethodName).cls ≠ "java/lang/invoke/VarHandle" ∧ (parseMethodDescriptor (⟨"TypesInside$Counts", "<init>", "()V"⟩ : MethodName).desc).map (fun d => d.parameters.length) = some 0 := by decide +kernel
theorem zw22 : Jvm.Cond.instanceMethod ⟨"TypesInside$Counts", "<init>", "()V"⟩ ∈ LW := lc1 22 rfl rfl
theorem zw166 : Jvm.Cond.fieldLink "TypesInside" 12 "TypesInside" "counts" "LTypesInside$Counts;" ∈ LW := lc1 166 rfl rfl
theorem zw47 : Jvm.Cond.classLink "TypesInside" 18 "TypesInside$Group" ∈ LW := lc1 47 rfl rfl
theorem zw48 : Jvm.Cond.instantiable "TypesInside$Group" 13 ∈ LW := lc1 48 rfl rfl
theorem zw3 : Jvm.Cond.initialized "TypesInside$Group" ∈ LW := lc1 3 rfl rfl
theorem zw51 : Jvm.Cond.code ⟨"TypesInside$Group", "<init>", "()V"⟩ prog_4_method_1_code 1 none ∈ LW := lc1 51 rfl rfl
theorem zh_Gr_init : (⟨"TypesInside$Group", "<init>", "()V"⟩ : MethodName).cls ≠ "java/lang/invoke/MethodHandle" ∧ (⟨"TypesInside$Group", "<init>", "()V"⟩ : MethodName).cls ≠ "java/lang/invoke/VarHandle" ∧ (parseMethodDescriptor (⟨"TypesInside$Group", "<init>", "()V"⟩ : MethodName).desc).map (fun d => d.parameters.length) = some 0 := by decide +kernel
theorem zw50 : Jvm.Cond.instanceMethod ⟨"TypesInside$Group", "<init>", "()V"⟩ ∈ LW := lc1 50 rfl rfl
theorem zw167 : Jvm.Cond.fieldLink "TypesInside" 21 "TypesInside" "group" "LTypesInside$Group;" ∈ LW := lc1 167 rfl rfl
theorem zw94 : Jvm.Cond.classLink "TypesInside" 25 "TypesInside$Sums" ∈ LW := lc1 94 rfl rfl
theorem zw95 : Jvm.Cond.instantiable "TypesInside$Sums" 9 ∈ LW := lc1 95 rfl rfl
theorem zw98 : Jvm.Cond.code ⟨"TypesInside$Sums", "<init>", "()V"⟩ prog_8_method_1_code 1 none ∈ LW := lc1 98 rfl rfl
theorem zh_Su_init : (⟨"TypesInside$Sums", "<init>", "()V"⟩ : MethodName).cls ≠ "java/lang/invoke/MethodHandle" ∧ (⟨"TypesInside$Sums", "<init>", "()V"⟩ : MethodName).cls ≠ "java/lang/invoke/VarHandle" ∧ (parseMethodDescriptor (⟨"TypesInside$Sums", "<init>", "()V"⟩ : MethodName).desc).map (fun d => d.parameters.length) = some 0 := by decide +kernel
theorem zw97 : Jvm.Cond.instanceMethod ⟨"TypesInside$Sums", "<init>", "()V"⟩ ∈ LW := lc1 97 rfl rfl
theorem zw168 : Jvm.Cond.fieldLink "TypesInside" 28 "TypesInside" "sums" "LTypesInside$Sums;" ∈ LW := lc1 168 rfl rfl
theorem zw144 : Jvm.Cond.classLink "TypesInside" 32 "TypesInside$Mix" ∈ LW := lc1 144 rfl rfl
theorem zw169 : Jvm.Cond.fieldLink "TypesInside" 35 "TypesInside" "result" "LTypesInside$Mix;" ∈ LW := lc1 169 rfl rfl
theorem zw148 : Jvm.Cond.code ⟨"TypesInside", "newShelves", "()[LTypesInside$Shelf;"⟩ prog_1_method_2_code 2 (some (FieldType.array (FieldType.object "TypesInside$Shelf"))) ∈ LW := lc1 148 rfl rfl
theorem zw1 : Jvm.Cond.initialized "TypesInside" ∈ LW := lc1 1 rfl rfl
theorem zw146 : Jvm.Cond.methodLink "TypesInside" 39 ⟨"TypesInside", "newShelves", "()[LTypesInside$Shelf;"⟩ ∈ LW := lc1 146 rfl rfl
theorem zh_TI_newShelves : (⟨"TypesInside", "newShelves", "()[LTypesInside$Shelf;"⟩ : MethodName).cls ≠ "java/lang/invoke/MethodHandle" ∧ (⟨"TypesInside", "newShelves", "()[LTypesInside$Shelf;"⟩ : MethodName).cls ≠ "java/lang/invoke/VarHandle" ∧ (parseMethodDescriptor (⟨"TypesInside", "newShelves", "()[LTypesInside$Shelf;"⟩ : MethodName).desc).map (fun d => d.parameters.length) = some 0 := by decide +kernel
theorem zw147 : Jvm.Cond.static ⟨"TypesInside", "newShelves", "()[LTypesInside$Shelf;"⟩ ∈ LW := lc1 147 rfl rfl
theorem zw170 : Jvm.Cond.fieldLink "TypesInside" 43 "TypesInside" "shelves" "[LTypesInside$Shelf;" ∈ LW := lc1 170 rfl rfl
theorem zw171 : Jvm.Cond.fieldLink "TypesInside" 49 "TypesInside" "row" "[J" ∈ LW := lc1 171 rfl rfl
theorem zw172 : Jvm.Cond.fieldLink "TypesInside" 55 "TypesInside" "carried" "[I" ∈ LW := lc1 172 rfl rfl
theorem zw176 : Jvm.Cond.fieldLink "TypesInside" 59 "TypesInside" "imageResult" "LTypesInside$Mix;" ∈ LW := lc1 176 rfl rfl
theorem zw177 : Jvm.Cond.fieldLink "TypesInside" 62 "TypesInside" "imageShelves" "[LTypesInside$Shelf;" ∈ LW := lc1 177 rfl rfl
theorem zw173 : Jvm.Cond.fieldLink "TypesInside" 65 "TypesInside" "imageTaken" "Z" ∈ LW := lc1 173 rfl rfl
theorem zw174 : Jvm.Cond.fieldLink "TypesInside" 69 "TypesInside" "imageType" "I" ∈ LW := lc1 174 rfl rfl
theorem zw175 : Jvm.Cond.fieldLink "TypesInside" 73 "TypesInside" "imagePrime" "I" ∈ LW := lc1 175 rfl rfl
theorem zc_1_60 : clo 1 60 = true := by decide +kernel
theorem zc_2_37 : clo 2 37 = true := by decide +kernel
theorem zc_61_8 : clo 61 8 = true := by decide +kernel
theorem zc_69_175 : clo 69 175 = true := by decide +kernel
theorem zc_71_64 : clo 71 64 = true := by decide +kernel
theorem zc_135_64 : clo 135 64 = true := by decide +kernel
theorem zc_201_21 : clo 201 21 = true := by decide +kernel
theorem zc_222_21 : clo 222 21 = true := by decide +kernel
theorem zc_244_21 : clo 244 21 = true := by decide +kernel
theorem zc_265_9 : clo 265 9 = true := by decide +kernel
theorem zc_276_21 : clo 276 21 = true := by decide +kernel
theorem zc_297_9 : clo 297 9 = true := by decide +kernel
theorem zf_39 : ∀ i, i < 19 → shK (39 + 1 + i) = 1 ∧ shN (39 + 1 + i) = 31 := by decide +kernel
theorem zd_Co_init_0 : decode prog_3_method_1_code 0 = .ok (.aload_n 0, 1) := by decide +kernel
theorem zd_Co_init_1 : decode prog_3_method_1_code 1 = .ok (.invokespecial 3, 3) := by decide +kernel
theorem zd_Co_init_4 : decode prog_3_method_1_code 4 = .ok (.aload_n 0, 1) := by decide +kernel
theorem zd_Co_init_5 : decode prog_3_method_1_code 5 = .ok (.invokestatic 9, 3) := by decide +kernel
theorem zd_Co_init_8 : decode prog_3_method_1_code 8 = .ok (.putfield 15, 3) := by decide +kernel
theorem zd_Co_init_11 : decode prog_3_method_1_code 11 = .ok (.aload_n 0, 1) := by decide +kernel
theorem zd_Co_init_12 : decode prog_3_method_1_code 12 = .ok (.bipush 19, 2) := by decide +kernel
theorem zd_Co_init_14 : decode prog_3_method_1_code 14 = .ok (.bipush 31, 2) := by decide +kernel
theorem zd_Co_init_16 : decode prog_3_method_1_code 16 = .ok (.multianewarray 21 2, 4) := by decide +kernel
theorem zd_Co_init_20 : decode prog_3_method_1_code 20 = .ok (.putfield 22, 3) := by decide +kernel
theorem zd_Co_init_23 : decode prog_3_method_1_code 23 = .ok (.aload_n 0, 1) := by decide +kernel
theorem zd_Co_init_24 : decode prog_3_method_1_code 24 = .ok (.iconst 0, 1) := by decide +kernel
theorem zd_Co_init_25 : decode prog_3_method_1_code 25 = .ok (.putfield 25, 3) := by decide +kernel
theorem zd_Co_init_28 : decode prog_3_method_1_code 28 = .ok (.aload_n 0, 1) := by decide +kernel
theorem zd_Co_init_29 : decode prog_3_method_1_code 29 = .ok (.bipush 31, 2) := by decide +kernel
theorem zd_Co_init_31 : decode prog_3_method_1_code 31 = .ok (.newarray .long, 2) := by decide +kernel
theorem zd_Co_init_33 : decode prog_3_method_1_code 33 = .ok (.putfield 29, 3) := by decide +kernel
theorem zd_Co_init_36 : decode prog_3_method_1_code 36 = .ok (.aload_n 0, 1) := by decide +kernel
theorem zd_Co_init_37 : decode prog_3_method_1_code 37 = .ok (.bipush 31, 2) := by decide +kernel
theorem zd_Co_init_39 : decode prog_3_method_1_code 39 = .ok (.newarray .long, 2) := by decide +kernel
theorem zd_Co_init_41 : decode prog_3_method_1_code 41 = .ok (.putfield 33, 3) := by decide +kernel
theorem zd_Co_init_44 : decode prog_3_method_1_code 44 = .ok (.return_, 1) := by decide +kernel
set_option maxHeartbeats 4000000 in
theorem c_Co_init (l : Launch) (D : va_G) (AC : Nat → ClassId) (h0 sz : Nat) : Met l ⟨"TypesInside$Counts", "<init>", "()V"⟩ (ws_ ⟨"TypesInside$Counts", "<init>", "()V"⟩ prog_3_method_1_code 1 none) ({ frames := 2, cells := 59, slots := 958, locals := 96 }) (va_Pc [.ref h0] (fun U => U.heap.size = sz ∧ va_P D cl [(h0, .inr (1, [.null, .null, .int 0, .null, .null]))] U.heap ∧ K6 D AC U ∧ va_D (fun _ => True) [(h0, .inr (1, [.null, .null, .int 0, .null, .null]))])) (va_Qv (fun ad : Nat → Nat => ad (1) = h0) (fun ad t => va_P D cl (wl (rng (1) 60) AC ad μz) t.heap ∧ va_D (va_A [(h0, .inr (1, [.null, .null, .int 0, .null, .null]))] sz) (wl (rng (1) 60) AC ad μz)) (va_A [(h0, .inr (1, [.null, .null, .int 0, .null, .null]))] sz)) 59 958 (va_A [(h0, .inr (1, [.null, .null, .int 0, .null, .null]))] sz) := by
  refine Met.ofW (cc := prog_3_method_1_code) (maxL := 1) (ret := none) (by decide) rfl ?_
  intro p e s m args below meth c s₁ B hml hv
  obtain ⟨rfl, hsz, hP, hK6, hD0⟩ := hv
  have hK := hK6.1
  have hx := B.exec
  have hb := B.bytes
  have hr := B.returns
  have hts0 := atoms_spec (ws := ws_ ⟨"TypesInside$Counts", "<init>", "()V"⟩ prog_3_method_1_code 1 none) B.pre
  have hts : ∀ w ∈ LW, w.before _ s = true := fun w hw => hts0 w (List.mem_cons_of_mem _ hw)
  have hown : s.vm.findClass "TypesInside$Counts" = some m.cls := findClass_of_methodNamed B.named
  have hlocks := B.notSynchronized
  have hin : meth.name = "<init>" := (name_of_methodNamed B.named B.method).1
  subst hsz
  have hD := hD0.self (sz := s.heap.size)
  generalize hAe : va_A [(h0, .inr (1, [.null, .null, .int 0, .null, .null]))] s.heap.size = A at hD ⊢
  have hA : ∀ q : Nat, s.heap.size ≤ q → A q := fun q h => by rw [← hAe]; exact Or.inr h
  have hS : va_S A s.heap s.heap [] := va_S.rf
  have hl := lv_entry ([.ref h0]) (n := 1) (Nat.le_of_ble_eq_true rfl)
  rw [lg_entry_eq]
  generalize (lg_sl ([.ref h0]) ++ List.replicate (1 - (lg_sl ([.ref h0])).length) Slot.unset).toArray = ls at hl ⊢
  have hl : lv_has ls 1 [(0, .ref h0)] := hl
  obtain ⟨T0, eT0⟩ : ∃ T : va_W, T = [] := ⟨_, rfl⟩
  have hP : va_P D cl ((h0, .inr (1, [.null, .null, .int 0, .null, .null])) :: T0) s.heap := by rw [eT0]; exact hP
  have hD : va_D A ((h0, .inr (1, [.null, .null, .int 0, .null, .null])) :: T0) := by rw [eT0]; exact hD
  refine lv_aload_n hx hb zd_Co_init_0 rfl (lv_at hl 0 rfl) ?_
  refine W.objInit hx hb hown (hts _ zw24) (hts _ zw17) (hts _ zw18) rfl (by rw [hml]; exact hl.1) rfl zd_Co_init_1 (Nat.le_of_ble_eq_true rfl) (Nat.le_of_ble_eq_true rfl) ?_
  refine W.eq (g2 := F0 m 4 ls []) rfl ?_
  refine lv_aload_n hx hb zd_Co_init_4 rfl (lv_at hl 0 rfl) ?_
  have hP : va_P D cl (((h0, .inr (1, [.null, .null, .int 0, .null, .null])) :: T0) ++ []) s.heap := by rw [List.append_nil]; exact hP
  have hD : va_D A (((h0, .inr (1, [.null, .null, .int 0, .null, .null])) :: T0) ++ []) := by rw [List.append_nil]; exact hD
  have hFc := free2 hD hS hA
  refine va_callr (va_runS (As := []) (rest := [.ref h0]) ⟨hx, hb, hml, hown, hts⟩ (c_Co_chosenTable l D AC s.heap.size) ⟨callB_of 0 hts (LW_gin zw27) rfl rfl rfl (hts _ zw2) (hts _ zw25) zh_Co_chosenTable ⟨Nat.le_of_ble_eq_true rfl, Nat.le_of_ble_eq_true rfl⟩, hts _ zw26⟩ ⟨fun a U g mk q => by obtain ⟨q0, q1, qK⟩ := q; exact ⟨q0, q1, K6.same (u := U) (U := U.calling g mk a) rfl qK⟩, fun U hU hW => ⟨rfl, by rw [hU], hK6.warm hW⟩⟩ rfl rfl hl.1 rfl (lv_room (Nat.le_of_ble_eq_true rfl)) zd_Co_init_5 ⟨Nat.le_of_ble_eq_true rfl, Nat.le_of_ble_eq_true rfl⟩) hS (fun q _ h => hFc q h) hFc (fun a1 q1 t H1 locs ht hvm hw hB hz1 hk1 hS => ?_)
  obtain ⟨ha1, hP1, hD1⟩ := hB
  rw [ht] at hP1
  obtain ⟨hP, hD⟩ := join2 hP hD hk1 hFc hP1 hD1
  obtain ⟨T1, eT1⟩ : ∃ T, T = T0 ++ wl (rng 2 37) AC a1 μz := ⟨_, rfl⟩
  have hP : va_P D cl ((h0, .inr (1, [.null, .null, .int 0, .null, .null])) :: T1) H1 := by rw [eT1]; exact hP
  have hD : va_D A ((h0, .inr (1, [.null, .null, .int 0, .null, .null])) :: T1) := by rw [eT1]; exact hD
  refine va_putF (D := D) (ci := 1) (v := .ref q1) (C := "TypesInside$Counts") (T := fT1) (N := 5) hx hb hts clw1 fY1 fYok1 zn1 hown hK hP hD hS 0 rfl rfl 0 (by decide) (hts _ zw30) (fun _ h9 => h9) rfl hin rfl (ty := fY1 0) (fYok1 0 (by decide)) rfl rfl (Nat.le_of_ble_eq_true rfl) zd_Co_init_8 (fun H locs hP hD hS => ?_)
  have hP : va_P D cl ((h0, .inr (1, [.ref q1, .null, .int 0, .null, .null])) :: T1) H := hP
  have hD : va_D A ((h0, .inr (1, [.ref q1, .null, .int 0, .null, .null])) :: T1) := hD
  refine lv_aload_n hx hb zd_Co_init_11 rfl (lv_at hl 0 rfl) ?_
  refine lv_bipush (v := (19 : Int32)) hx hb zd_Co_init_12 (by decide) ?_
  refine lv_bipush (v := (31 : Int32)) hx hb zd_Co_init_14 (by decide) ?_
  have hcl2 : (Jvm.Cond.classLink "TypesInside$Counts" 21 ("[" ++ (FieldType.array .long).toString)).before _ s = true := hts _ (show Jvm.Cond.classLink "TypesInside$Counts" 21 ("[" ++ (FieldType.array .long).toString) ∈ LW from (by decide : "[" ++ (FieldType.array .long).toString = "[[J") ▸ zw28)
  refine va_mna (X := (h0, .inr (1, [.ref q1, .null, .int 0, .null, .null])) :: T1) (L := []) (f := fun _ => .inl (AC 1, 31, .inr (.inl (fun _ => (0 : Int64))))) (ty := .long) (cy := AC 1) hx hb hown hcl2 hK6.2.1 (hts _ zw46) (hK.2 1 _ rfl).2 hK (by rw [show va_pl [] _ = [] from rfl, List.append_nil]; exact hP) (by rw [show va_pl [] _ = [] from rfl, List.append_nil]; exact hD) hS hA (n := 19) (k := 31) (N' := 19) (K' := 31) (z := (31, .inr (.inl (fun _ => (0 : Int64))))) (by decide) (by decide) (by decide) (by decide) (Nat.le_of_ble_eq_true rfl) (Nat.le_of_ble_eq_true rfl) (Nat.le_of_ble_eq_true rfl) rfl rfl (Nat.le_of_ble_eq_true rfl) (Nat.le_of_ble_eq_true rfl) (fun c => by show ({ cls := c, slots := Array.replicate 31 _, vm := .none } : Cell) = _; rw [arrV_new]; rfl) zd_Co_init_16 (fun q2 r2 cA H hri hrl hK1 hP hD hS => ?_)
  obtain rfl := K_new 3 hK1 rfl
  rw [mna_list] at hP hD
  obtain ⟨T2, eT2⟩ : ∃ T, T = T1 ++ ((q2, .inl (AC 3, 19, .inr (.inr (.inr (.inr (fun i => if i < 19 then some (r2 i) else none)))))) :: (List.range 19).map fun i => (r2 i, .inl (AC 1, 31, .inr (.inl (fun _ => (0 : Int64)))))) := ⟨_, rfl⟩
  have hP : va_P D cl ((h0, .inr (1, [.ref q1, .null, .int 0, .null, .null])) :: T2) H := by rw [eT2]; exact hP
  have hD : va_D A ((h0, .inr (1, [.ref q1, .null, .int 0, .null, .null])) :: T2) := by rw [eT2]; exact hD
  refine va_putF (D := D) (ci := 1) (v := .ref q2) (C := "TypesInside$Counts") (T := fT1) (N := 5) hx hb hts clw1 fY1 fYok1 zn1 hown hK hP hD hS 0 rfl rfl 1 (by decide) (hts _ zw31) (fun _ h9 => h9) rfl hin rfl (ty := fY1 1) (fYok1 1 (by decide)) rfl rfl (Nat.le_of_ble_eq_true rfl) zd_Co_init_20 (fun H locs hP hD hS => ?_)
  have hP : va_P D cl ((h0, .inr (1, [.ref q1, .ref q2, .int 0, .null, .null])) :: T2) H := hP
  have hD : va_D A ((h0, .inr (1, [.ref q1, .ref q2, .int 0, .null, .null])) :: T2) := hD
  refine lv_aload_n hx hb zd_Co_init_23 rfl (lv_at hl 0 rfl) ?_
  refine lv_iconst (v := (0 : Int32)) hx hb zd_Co_init_24 (by decide) ?_
  refine va_put (D := D) (ci := 1) (v := .int (0 : Int32)) (C := "TypesInside$Counts") (T := fT1) (N := 5) hx hb hts clw1 fY1 fYok1 zn1 hown hK hP hD hS 0 rfl rfl 2 (by decide) (hts _ zw32) (fun _ h9 => h9) rfl (ty := fY1 2) (fYok1 2 (by decide)) rfl rfl (Nat.le_of_ble_eq_true rfl) zd_Co_init_25 (fun H locs hP hD hS => ?_)
  have hP : va_P D cl ((h0, .inr (1, [.ref q1, .ref q2, .int (0 : Int32), .null, .null])) :: T2) H := hP
  have hD : va_D A ((h0, .inr (1, [.ref q1, .ref q2, .int (0 : Int32), .null, .null])) :: T2) := hD
  refine lv_aload_n hx hb zd_Co_init_28 rfl (lv_at hl 0 rfl) ?_
  refine lv_bipush (v := (31 : Int32)) hx hb zd_Co_init_29 (by decide) ?_
  refine va_newa (atype := .long) (ty := .long) hx hb (hts _ zw46) rfl hK hP hD hS hA (n := 31) (N' := 31) (a0 := (31, .inr (.inl (fun _ => (0 : Int64))))) (fun _ => rfl) (by decide) (by decide) (Nat.le_of_ble_eq_true rfl) (Nat.le_of_ble_eq_true rfl) (Nat.le_of_ble_eq_true rfl) zd_Co_init_31 (fun q3 cA H hK1 hP hD hS => ?_)
  obtain rfl := K_new 1 hK1 rfl
  obtain ⟨T3, eT3⟩ : ∃ T, T = T2 ++ [(q3, .inl (AC 1, 31, .inr (.inl (fun _ => (0 : Int64)))))] := ⟨_, rfl⟩
  have hP : va_P D cl ((h0, .inr (1, [.ref q1, .ref q2, .int (0 : Int32), .null, .null])) :: T3) H := by rw [eT3]; exact hP
  have hD : va_D A ((h0, .inr (1, [.ref q1, .ref q2, .int (0 : Int32), .null, .null])) :: T3) := by rw [eT3]; exact hD
  refine va_putF (D := D) (ci := 1) (v := .ref q3) (C := "TypesInside$Counts") (T := fT1) (N := 5) hx hb hts clw1 fY1 fYok1 zn1 hown hK hP hD hS 0 rfl rfl 3 (by decide) (hts _ zw33) (fun _ h9 => h9) rfl hin rfl (ty := fY1 3) (fYok1 3 (by decide)) rfl rfl (Nat.le_of_ble_eq_true rfl) zd_Co_init_33 (fun H locs hP hD hS => ?_)
  have hP : va_P D cl ((h0, .inr (1, [.ref q1, .ref q2, .int (0 : Int32), .ref q3, .null])) :: T3) H := hP
  have hD : va_D A ((h0, .inr (1, [.ref q1, .ref q2, .int (0 : Int32), .ref q3, .null])) :: T3) := hD
  refine lv_aload_n hx hb zd_Co_init_36 rfl (lv_at hl 0 rfl) ?_
  refine lv_bipush (v := (31 : Int32)) hx hb zd_Co_init_37 (by decide) ?_
  refine va_newa (atype := .long) (ty := .long) hx hb (hts _ zw46) rfl hK hP hD hS hA (n := 31) (N' := 31) (a0 := (31, .inr (.inl (fun _ => (0 : Int64))))) (fun _ => rfl) (by decide) (by decide) (Nat.le_of_ble_eq_true rfl) (Nat.le_of_ble_eq_true rfl) (Nat.le_of_ble_eq_true rfl) zd_Co_init_39 (fun q4 cA H hK1 hP hD hS => ?_)
  obtain rfl := K_new 1 hK1 rfl
  obtain ⟨T4, eT4⟩ : ∃ T, T = T3 ++ [(q4, .inl (AC 1, 31, .inr (.inl (fun _ => (0 : Int64)))))] := ⟨_, rfl⟩
  have hP : va_P D cl ((h0, .inr (1, [.ref q1, .ref q2, .int (0 : Int32), .ref q3, .null])) :: T4) H := by rw [eT4]; exact hP
  have hD : va_D A ((h0, .inr (1, [.ref q1, .ref q2, .int (0 : Int32), .ref q3, .null])) :: T4) := by rw [eT4]; exact hD
  refine va_putF (D := D) (ci := 1) (v := .ref q4) (C := "TypesInside$Counts") (T := fT1) (N := 5) hx hb hts clw1 fY1 fYok1 zn1 hown hK hP hD hS 0 rfl rfl 4 (by decide) (hts _ zw34) (fun _ h9 => h9) rfl hin rfl (ty := fY1 4) (fYok1 4 (by decide)) rfl rfl (Nat.le_of_ble_eq_true rfl) zd_Co_init_41 (fun H locs hP hD hS => ?_)
  have hP : va_P D cl ((h0, .inr (1, [.ref q1, .ref q2, .int (0 : Int32), .ref q3, .ref q4])) :: T4) H := hP
  have hD : va_D A ((h0, .inr (1, [.ref q1, .ref q2, .int (0 : Int32), .ref q3, .ref q4])) :: T4) := hD
  obtain ⟨ad, ead⟩ : ∃ ad : Nat → Nat, ad = fun k => if k < 2 then h0 else if k < 39 then a1 k else if k < 59 then (if k = 39 then q2 else r2 (k - (40))) else if k < 60 then q3 else q4 := ⟨_, rfl⟩
  have had : ad (1) = h0 := by rw [ead]; exact if_pos (by omega)
  have g0 : ∀ k, 2 ≤ k → k < 2 + 37 → ad k = a1 k := fun k k1 k2 => by rw [ead]; show (if _ then _ else _) = _; rw [if_neg (by omega), if_pos (by omega)]
  have g1 : ad (39) = q2 := by rw [ead]; show (if _ then _ else _) = _; rw [if_neg (by omega), if_neg (by omega), if_pos (by omega), if_pos rfl]
  have gr1 : ∀ i, i < 19 → ad (39 + 1 + i) = r2 i := fun i hi => by rw [ead]; show (if _ then _ else _) = _; rw [if_neg (by omega), if_neg (by omega), if_pos (by omega), if_neg (by omega), show 39 + 1 + i - (40) = i by omega]
  have g2 : ad (59) = q3 := by rw [ead]; show (if _ then _ else _) = _; rw [if_neg (by omega), if_neg (by omega), if_neg (by omega), if_pos (by omega)]
  have g3 : ad (60) = q4 := by rw [ead]; show (if _ then _ else _) = _; rw [if_neg (by omega), if_neg (by omega), if_neg (by omega), if_neg (by omega)]
  have hPT := P_tl hP
  rw [eT4] at hPT
  have p3 := P_r hPT
  have hPT := P_l hPT
  rw [eT3] at hPT
  have p2 := P_r hPT
  have hPT := P_l hPT
  rw [eT2] at hPT
  have p1 := P_r hPT
  have hPT := P_l hPT
  rw [eT1] at hPT
  have p0 := P_r hPT
  have hPT := P_l hPT
  have P0 : va_P D cl (wl (rng (2) 0) AC ad μz) H := P_0
  have m0 : T0.map (fun x => x.1) = (rng (2) 0).map ad := by rw [eT0]; rfl
  have P1 : va_P D cl (wl (rng (2) 37) AC ad μz) H := P_step P0 (wl_mv zc_2_37 g0 p0)
  have m1 : T1.map (fun x => x.1) = (rng (2) 37).map ad := m_step m0 eT1 (blk_m g0)
  have P2 : va_P D cl (wl (rng (2) 57) AC ad μz) H := P_step P1 (mna_P (n := 19) (k := 31) (a := 39) g1 gr1 rfl rfl (fun j hj => rfl) (zf_39) (fun i _ => Zl_0 (by omega)) p1)
  have m2 : T2.map (fun x => x.1) = (rng (2) 57).map ad := m_step m1 eT2 (mna_m g1 gr1)
  have P3 : va_P D cl (wl (rng (2) 58) AC ad μz) H := P_step P2 (one_P g2 ((cE_l (k := 59) rfl)) p2)
  have m3 : T3.map (fun x => x.1) = (rng (2) 58).map ad := m_step m2 eT3 (one_m g2)
  have P4 : va_P D cl (wl (rng (2) 59) AC ad μz) H := P_step P3 (one_P g3 ((cE_l (k := 60) rfl)) p3)
  have m4 : T4.map (fun x => x.1) = (rng (2) 59).map ad := m_step m3 eT4 (one_m g3)
  have hfl : fl ad 1 (1) (cN 1) (μz.1 (1)) = [.ref q1, .ref q2, .int (0 : Int32), .ref q3, .ref q4] := by
    show ([.ref (ad (2)), .ref (ad (39)), .int (0 : Int32), .ref (ad (59)), .ref (ad (60))] : List Value) = _
    rw [(g0 2 (by omega) (by omega)).trans ha1]
    rw [g1]
    rw [g2]
    rw [g3]
  have hPf : va_P D cl (wl (rng (1) 60) AC ad μz) H := head_P (n := 59) (show shK 1 = 10 + 1 from rfl) hfl had hP P4
  have hDf : va_D A (wl (rng (1) 60) AC ad μz) := head_D (n := 59) had hD m4
  refine W.widen (k := 59) (n := 958) (Nat.le_of_ble_eq_true rfl) (Nat.le_of_ble_eq_true rfl) ?_
  exact W.vret hx hb hr (fun t ht hW => ⟨⟨ad, rfl, had, by rw [ht]; exact hPf, hDf⟩, hS.F ht⟩) hS.2.2 zd_Co_init_44
theorem zd_Su_init_0 : decode prog_8_method_1_code 0 = .ok (.aload_n 0, 1) := by decide +kernel
theorem zd_Su_init_1 : decode prog_8_method_1_code 1 = .ok (.invokespecial 1, 3) := by decide +kernel
theorem zd_Su_init_4 : decode prog_8_method_1_code 4 = .ok (.aload_n 0, 1) := by decide +kernel
theorem zd_Su_init_5 : decode prog_8_method_1_code 5 = .ok (.bipush 40, 2) := by decide +kernel
theorem zd_Su_init_7 : decode prog_8_method_1_code 7 = .ok (.newarray .int, 2) := by decide +kernel
theorem zd_Su_init_9 : decode prog_8_method_1_code 9 = .ok (.putfield 9, 3) := by decide +kernel
theorem zd_Su_init_12 : decode prog_8_method_1_code 12 = .ok (.aload_n 0, 1) := by decide +kernel
theorem zd_Su_init_13 : decode prog_8_method_1_code 13 = .ok (.iconst 0, 1) := by decide +kernel
theorem zd_Su_init_14 : decode prog_8_method_1_code 14 = .ok (.putfield 13, 3) := by decide +kernel
theorem zd_Su_init_17 : decode prog_8_method_1_code 17 = .ok (.aload_n 0, 1) := by decide +kernel
theorem zd_Su_init_18 : decode prog_8_method_1_code 18 = .ok (.invokestatic 17, 3) := by decide +kernel
theorem zd_Su_init_21 : decode prog_8_method_1_code 21 = .ok (.putfield 21, 3) := by decide +kernel
theorem zd_Su_init_24 : decode prog_8_method_1_code 24 = .ok (.aload_n 0, 1) := by decide +kernel
theorem zd_Su_init_25 : decode prog_8_method_1_code 25 = .ok (.invokestatic 17, 3) := by decide +kernel
theorem zd_Su_init_28 : decode prog_8_method_1_code 28 = .ok (.putfield 25, 3) := by decide +kernel
theorem zd_Su_init_31 : decode prog_8_method_1_code 31 = .ok (.aload_n 0, 1) := by decide +kernel
theorem zd_Su_init_32 : decode prog_8_method_1_code 32 = .ok (.iconst 3, 1) := by decide +kernel
theorem zd_Su_init_33 : decode prog_8_method_1_code 33 = .ok (.newarray .boolean, 2) := by decide +kernel
theorem zd_Su_init_35 : decode prog_8_method_1_code 35 = .ok (.putfield 28, 3) := by decide +kernel
theorem zd_Su_init_38 : decode prog_8_method_1_code 38 = .ok (.aload_n 0, 1) := by decide +kernel
theorem zd_Su_init_39 : decode prog_8_method_1_code 39 = .ok (.iconst 3, 1) := by decide +kernel
theorem zd_Su_init_40 : decode prog_8_method_1_code 40 = .ok (.newarray .int, 2) := by decide +kernel
theorem zd_Su_init_42 : decode prog_8_method_1_code 42 = .ok (.putfield 32, 3) := by decide +kernel
theorem zd_Su_init_45 : decode prog_8_method_1_code 45 = .ok (.aload_n 0, 1) := by decide +kernel
theorem zd_Su_init_46 : decode prog_8_method_1_code 46 = .ok (.new 35, 3) := by decide +kernel
theorem zd_Su_init_49 : decode prog_8_method_1_code 49 = .ok (.dup, 1) := by decide +kernel
theorem zd_Su_init_50 : decode prog_8_method_1_code 50 = .ok (.invokespecial 37, 3) := by decide +kernel
theorem zd_Su_init_53 : decode prog_8_method_1_code 53 = .ok (.putfield 38, 3) := by decide +kernel
theorem zd_Su_init_56 : decode prog_8_method_1_code 56 = .ok (.aload_n 0, 1) := by decide +kernel
theorem zd_Su_init_57 : decode prog_8_method_1_code 57 = .ok (.new 35, 3) := by decide +kernel
theorem zd_Su_init_60 : decode prog_8_method_1_code 60 = .ok (.dup, 1) := by decide +kernel
theorem zd_Su_init_61 : decode prog_8_method_1_code 61 = .ok (.invokespecial 37, 3) := by decide +kernel
theorem zd_Su_init_64 : decode prog_8_method_1_code 64 = .ok (.putfield 42, 3) := by decide +kernel
theorem zd_Su_init_67 : decode prog_8_method_1_code 67 = .ok (.aload_n 0, 1) := by decide +kernel
theorem zd_Su_init_68 : decode prog_8_method_1_code 68 = .ok (.bipush 31, 2) := by decide +kernel
theorem zd_Su_init_70 : decode prog_8_method_1_code 70 = .ok (.newarray .long, 2) := by decide +kernel
theorem zd_Su_init_72 : decode prog_8_method_1_code 72 = .ok (.putfield 47, 3) := by decide +kernel
theorem zd_Su_init_75 : decode prog_8_method_1_code 75 = .ok (.return_, 1) := by decide +kernel
set_option maxHeartbeats 4000000 in
theorem c_Su_init (l : Launch) (D : va_G) (AC : Nat → ClassId) (h0 sz : Nat) : Met l ⟨"TypesInside$Sums", "<init>", "()V"⟩ (ws_ ⟨"TypesInside$Sums", "<init>", "()V"⟩ prog_8_method_1_code 1 none) ({ frames := 3, cells := 174, slots := 4955, locals := 96 }) (va_Pc [.ref h0] (fun U => U.heap.size = sz ∧ va_P D cl [(h0, .inr (5, [.null, .int 0, .null, .null, .null, .null, .null, .null, .null]))] U.heap ∧ K6 D AC U ∧ va_D (fun _ => True) [(h0, .inr (5, [.null, .int 0, .null, .null, .null, .null, .null, .null, .null]))])) (va_Qv (fun ad : Nat → Nat => ad (69) = h0) (fun ad t => va_P D cl (wl (rng (69) 175) AC ad μz) t.heap ∧ va_D (va_A [(h0, .inr (5, [.null, .int 0, .null, .null, .null, .null, .null, .null, .null]))] sz) (wl (rng (69) 175) AC ad μz)) (va_A [(h0, .inr (5, [.null, .int 0, .null, .null, .null, .null, .null, .null, .null]))] sz)) 174 4955 (va_A [(h0, .inr (5, [.null, .int 0, .null, .null, .null, .null, .null, .null, .null]))] sz) := by
  refine Met.ofW (cc := prog_8_method_1_code) (maxL := 1) (ret := none) (by decide) rfl ?_
  intro p e s m args below meth c s₁ B hml hv
  obtain ⟨rfl, hsz, hP, hK6, hD0⟩ := hv
  have hK := hK6.1
  have hx := B.exec
  have hb := B.bytes
  have hr := B.returns
  have hts0 := atoms_spec (ws := ws_ ⟨"TypesInside$Sums", "<init>", "()V"⟩ prog_8_method_1_code 1 none) B.pre
  have hts : ∀ w ∈ LW, w.before _ s = true := fun w hw => hts0 w (List.mem_cons_of_mem _ hw)
  have hown : s.vm.findClass "TypesInside$Sums" = some m.cls := findClass_of_methodNamed B.named
  have hlocks := B.notSynchronized
  have hin : meth.name = "<init>" := (name_of_methodNamed B.named B.method).1
  subst hsz
  have hD := hD0.self (sz := s.heap.size)
  generalize hAe : va_A [(h0, .inr (5, [.null, .int 0, .null, .null, .null, .null, .null, .null, .null]))] s.heap.size = A at hD ⊢
  have hA : ∀ q : Nat, s.heap.size ≤ q → A q := fun q h => by rw [← hAe]; exact Or.inr h
  have hS : va_S A s.heap s.heap [] := va_S.rf
  have hl := lv_entry ([.ref h0]) (n := 1) (Nat.le_of_ble_eq_true rfl)
  rw [lg_entry_eq]
  generalize (lg_sl ([.ref h0]) ++ List.replicate (1 - (lg_sl ([.ref h0])).length) Slot.unset).toArray = ls at hl ⊢
  have hl : lv_has ls 1 [(0, .ref h0)] := hl
  obtain ⟨T0, eT0⟩ : ∃ T : va_W, T = [] := ⟨_, rfl⟩
  have hP : va_P D cl ((h0, .inr (5, [.null, .int 0, .null, .null, .null, .null, .null, .null, .null])) :: T0) s.heap := by rw [eT0]; exact hP
  have hD : va_D A ((h0, .inr (5, [.null, .int 0, .null, .null, .null, .null, .null, .null, .null])) :: T0) := by rw [eT0]; exact hD
  refine lv_aload_n hx hb zd_Su_init_0 rfl (lv_at hl 0 rfl) ?_
  refine W.objInit hx hb hown (hts _ zw99) (hts _ zw17) (hts _ zw18) rfl (by rw [hml]; exact hl.1) rfl zd_Su_init_1 (Nat.le_of_ble_eq_true rfl) (Nat.le_of_ble_eq_true rfl) ?_
  refine W.eq (g2 := F0 m 4 ls []) rfl ?_
  refine lv_aload_n hx hb zd_Su_init_4 rfl (lv_at hl 0 rfl) ?_
  refine lv_bipush (v := (40 : Int32)) hx hb zd_Su_init_5 (by decide) ?_
  refine va_newa (atype := .int) (ty := .int) hx hb (hts _ zw93) rfl hK hP hD hS hA (n := 40) (N' := 40) (a0 := (40, .inl (fun _ => (0 : Int32)))) (fun _ => rfl) (by decide) (by decide) (Nat.le_of_ble_eq_true rfl) (Nat.le_of_ble_eq_true rfl) (Nat.le_of_ble_eq_true rfl) zd_Su_init_7 (fun q1 cA H hK1 hP hD hS => ?_)
  obtain rfl := K_new 0 hK1 rfl
  obtain ⟨T1, eT1⟩ : ∃ T, T = T0 ++ [(q1, .inl (AC 0, 40, .inl (fun _ => (0 : Int32))))] := ⟨_, rfl⟩
  have hP : va_P D cl ((h0, .inr (5, [.null, .int 0, .null, .null, .null, .null, .null, .null, .null])) :: T1) H := by rw [eT1]; exact hP
  have hD : va_D A ((h0, .inr (5, [.null, .int 0, .null, .null, .null, .null, .null, .null, .null])) :: T1) := by rw [eT1]; exact hD
  refine va_putF (D := D) (ci := 5) (v := .ref q1) (C := "TypesInside$Sums") (T := fT5) (N := 9) hx hb hts clw5 fY5 fYok5 zn5 hown hK hP hD hS 0 rfl rfl 0 (by decide) (hts _ zw115) (fun _ h9 => h9) rfl hin rfl (ty := fY5 0) (fYok5 0 (by decide)) rfl rfl (Nat.le_of_ble_eq_true rfl) zd_Su_init_9 (fun H locs hP hD hS => ?_)
  have hP : va_P D cl ((h0, .inr (5, [.ref q1, .int 0, .null, .null, .null, .null, .null, .null, .null])) :: T1) H := hP
  have hD : va_D A ((h0, .inr (5, [.ref q1, .int 0, .null, .null, .null, .null, .null, .null, .null])) :: T1) := hD
  refine lv_aload_n hx hb zd_Su_init_12 rfl (lv_at hl 0 rfl) ?_
  refine lv_iconst (v := (0 : Int32)) hx hb zd_Su_init_13 (by decide) ?_
  refine va_put (D := D) (ci := 5) (v := .int (0 : Int32)) (C := "TypesInside$Sums") (T := fT5) (N := 9) hx hb hts clw5 fY5 fYok5 zn5 hown hK hP hD hS 0 rfl rfl 1 (by decide) (hts _ zw116) (fun _ h9 => h9) rfl (ty := fY5 1) (fYok5 1 (by decide)) rfl rfl (Nat.le_of_ble_eq_true rfl) zd_Su_init_14 (fun H locs hP hD hS => ?_)
  have hP : va_P D cl ((h0, .inr (5, [.ref q1, .int (0 : Int32), .null, .null, .null, .null, .null, .null, .null])) :: T1) H := hP
  have hD : va_D A ((h0, .inr (5, [.ref q1, .int (0 : Int32), .null, .null, .null, .null, .null, .null, .null])) :: T1) := hD
  refine lv_aload_n hx hb zd_Su_init_17 rfl (lv_at hl 0 rfl) ?_
  have hP : va_P D cl (((h0, .inr (5, [.ref q1, .int (0 : Int32), .null, .null, .null, .null, .null, .null, .null])) :: T1) ++ []) H := by rw [List.append_nil]; exact hP
  have hD : va_D A (((h0, .inr (5, [.ref q1, .int (0 : Int32), .null, .null, .null, .null, .null, .null, .null])) :: T1) ++ []) := by rw [List.append_nil]; exact hD
  have hFc := free2 hD hS hA
  refine va_callr (va_runS (As := []) (rest := [.ref h0]) ⟨hx, hb, hml, hown, hts⟩ (c_Su_newMixes l D AC H.size 71 (by decide)) ⟨callB_of 0 hts (LW_gin zw102) rfl rfl rfl (hts _ zw4) (hts _ zw100) zh_Su_newMixes ⟨Nat.le_of_ble_eq_true rfl, Nat.le_of_ble_eq_true rfl⟩, hts _ zw101⟩ ⟨fun a U g mk q => by obtain ⟨q0, q1, qK⟩ := q; exact ⟨q0, q1, K6.same (u := U) (U := U.calling g mk a) rfl qK⟩, fun U hU hW => ⟨rfl, by rw [hU], hK6.warm hW⟩⟩ rfl rfl hl.1 rfl (lv_room (Nat.le_of_ble_eq_true rfl)) zd_Su_init_18 ⟨Nat.le_of_ble_eq_true rfl, Nat.le_of_ble_eq_true rfl⟩) hS (fun q _ h => hFc q h) hFc (fun a2 q2 t H1 locs ht hvm hw hB hz1 hk1 hS => ?_)
  obtain ⟨ha2, hP1, hD1⟩ := hB
  rw [ht] at hP1
  obtain ⟨hP, hD⟩ := join2 hP hD hk1 hFc hP1 hD1
  obtain ⟨T2, eT2⟩ : ∃ T, T = T1 ++ wl (rng 71 64) AC a2 μz := ⟨_, rfl⟩
  have hP : va_P D cl ((h0, .inr (5, [.ref q1, .int (0 : Int32), .null, .null, .null, .null, .null, .null, .null])) :: T2) H1 := by rw [eT2]; exact hP
  have hD : va_D A ((h0, .inr (5, [.ref q1, .int (0 : Int32), .null, .null, .null, .null, .null, .null, .null])) :: T2) := by rw [eT2]; exact hD
  refine va_putF (D := D) (ci := 5) (v := .ref q2) (C := "TypesInside$Sums") (T := fT5) (N := 9) hx hb hts clw5 fY5 fYok5 zn5 hown hK hP hD hS 0 rfl rfl 2 (by decide) (hts _ zw117) (fun _ h9 => h9) rfl hin rfl (ty := fY5 2) (fYok5 2 (by decide)) rfl rfl (Nat.le_of_ble_eq_true rfl) zd_Su_init_21 (fun H locs hP hD hS => ?_)
  have hP : va_P D cl ((h0, .inr (5, [.ref q1, .int (0 : Int32), .ref q2, .null, .null, .null, .null, .null, .null])) :: T2) H := hP
  have hD : va_D A ((h0, .inr (5, [.ref q1, .int (0 : Int32), .ref q2, .null, .null, .null, .null, .null, .null])) :: T2) := hD
  refine lv_aload_n hx hb zd_Su_init_24 rfl (lv_at hl 0 rfl) ?_
  have hP : va_P D cl (((h0, .inr (5, [.ref q1, .int (0 : Int32), .ref q2, .null, .null, .null, .null, .null, .null])) :: T2) ++ []) H := by rw [List.append_nil]; exact hP
  have hD : va_D A (((h0, .inr (5, [.ref q1, .int (0 : Int32), .ref q2, .null, .null, .null, .null, .null, .null])) :: T2) ++ []) := by rw [List.append_nil]; exact hD
  have hFc := free2 hD hS hA
  refine va_callr (va_runS (As := []) (rest := [.ref h0]) ⟨hx, hb, hml, hown, hts⟩ (c_Su_newMixes l D AC H.size 135 (by decide)) ⟨callB_of 0 hts (LW_gin zw102) rfl rfl rfl (hts _ zw4) (hts _ zw100) zh_Su_newMixes ⟨Nat.le_of_ble_eq_true rfl, Nat.le_of_ble_eq_true rfl⟩, hts _ zw101⟩ ⟨fun a U g mk q => by obtain ⟨q0, q1, qK⟩ := q; exact ⟨q0, q1, K6.same (u := U) (U := U.calling g mk a) rfl qK⟩, fun U hU hW => ⟨rfl, by rw [hU], hK6.warm hW⟩⟩ rfl rfl hl.1 rfl (lv_room (Nat.le_of_ble_eq_true rfl)) zd_Su_init_25 ⟨Nat.le_of_ble_eq_true rfl, Nat.le_of_ble_eq_true rfl⟩) hS (fun q _ h => hFc q h) hFc (fun a3 q3 t H1 locs ht hvm hw hB hz1 hk1 hS => ?_)
  obtain ⟨ha3, hP1, hD1⟩ := hB
  rw [ht] at hP1
  obtain ⟨hP, hD⟩ := join2 hP hD hk1 hFc hP1 hD1
  obtain ⟨T3, eT3⟩ : ∃ T, T = T2 ++ wl (rng 135 64) AC a3 μz := ⟨_, rfl⟩
  have hP : va_P D cl ((h0, .inr (5, [.ref q1, .int (0 : Int32), .ref q2, .null, .null, .null, .null, .null, .null])) :: T3) H1 := by rw [eT3]; exact hP
  have hD : va_D A ((h0, .inr (5, [.ref q1, .int (0 : Int32), .ref q2, .null, .null, .null, .null, .null, .null])) :: T3) := by rw [eT3]; exact hD
  refine va_putF (D := D) (ci := 5) (v := .ref q3) (C := "TypesInside$Sums") (T := fT5) (N := 9) hx hb hts clw5 fY5 fYok5 zn5 hown hK hP hD hS 0 rfl rfl 3 (by decide) (hts _ zw118) (fun _ h9 => h9) rfl hin rfl (ty := fY5 3) (fYok5 3 (by decide)) rfl rfl (Nat.le_of_ble_eq_true rfl) zd_Su_init_28 (fun H locs hP hD hS => ?_)
  have hP : va_P D cl ((h0, .inr (5, [.ref q1, .int (0 : Int32), .ref q2, .ref q3, .null, .null, .null, .null, .null])) :: T3) H := hP
  have hD : va_D A ((h0, .inr (5, [.ref q1, .int (0 : Int32), .ref q2, .ref q3, .null, .null, .null, .null, .null])) :: T3) := hD
  refine lv_aload_n hx hb zd_Su_init_31 rfl (lv_at hl 0 rfl) ?_
  refine lv_iconst (v := (3 : Int32)) hx hb zd_Su_init_32 (by decide) ?_
  refine va_newa (atype := .boolean) (ty := .boolean) hx hb (hts _ zw143) rfl hK hP hD hS hA (n := 3) (N' := 3) (a0 := (3, .inl (fun _ => (0 : Int32)))) (fun _ => rfl) (by decide) (by decide) (Nat.le_of_ble_eq_true rfl) (Nat.le_of_ble_eq_true rfl) (Nat.le_of_ble_eq_true rfl) zd_Su_init_33 (fun q4 cA H hK1 hP hD hS => ?_)
  obtain rfl := K_new 2 hK1 rfl
  obtain ⟨T4, eT4⟩ : ∃ T, T = T3 ++ [(q4, .inl (AC 2, 3, .inl (fun _ => (0 : Int32))))] := ⟨_, rfl⟩
  have hP : va_P D cl ((h0, .inr (5, [.ref q1, .int (0 : Int32), .ref q2, .ref q3, .null, .null, .null, .null, .null])) :: T4) H := by rw [eT4]; exact hP
  have hD : va_D A ((h0, .inr (5, [.ref q1, .int (0 : Int32), .ref q2, .ref q3, .null, .null, .null, .null, .null])) :: T4) := by rw [eT4]; exact hD
  refine va_putF (D := D) (ci := 5) (v := .ref q4) (C := "TypesInside$Sums") (T := fT5) (N := 9) hx hb hts clw5 fY5 fYok5 zn5 hown hK hP hD hS 0 rfl rfl 4 (by decide) (hts _ zw119) (fun _ h9 => h9) rfl hin rfl (ty := fY5 4) (fYok5 4 (by decide)) rfl rfl (Nat.le_of_ble_eq_true rfl) zd_Su_init_35 (fun H locs hP hD hS => ?_)
  have hP : va_P D cl ((h0, .inr (5, [.ref q1, .int (0 : Int32), .ref q2, .ref q3, .ref q4, .null, .null, .null, .null])) :: T4) H := hP
  have hD : va_D A ((h0, .inr (5, [.ref q1, .int (0 : Int32), .ref q2, .ref q3, .ref q4, .null, .null, .null, .null])) :: T4) := hD
  refine lv_aload_n hx hb zd_Su_init_38 rfl (lv_at hl 0 rfl) ?_
  refine lv_iconst (v := (3 : Int32)) hx hb zd_Su_init_39 (by decide) ?_
  refine va_newa (atype := .int) (ty := .int) hx hb (hts _ zw93) rfl hK hP hD hS hA (n := 3) (N' := 3) (a0 := (3, .inl (fun _ => (0 : Int32)))) (fun _ => rfl) (by decide) (by decide) (Nat.le_of_ble_eq_true rfl) (Nat.le_of_ble_eq_true rfl) (Nat.le_of_ble_eq_true rfl) zd_Su_init_40 (fun q5 cA H hK1 hP hD hS => ?_)
  obtain rfl := K_new 0 hK1 rfl
  obtain ⟨T5, eT5⟩ : ∃ T, T = T4 ++ [(q5, .inl (AC 0, 3, .inl (fun _ => (0 : Int32))))] := ⟨_, rfl⟩
  have hP : va_P D cl ((h0, .inr (5, [.ref q1, .int (0 : Int32), .ref q2, .ref q3, .ref q4, .null, .null, .null, .null])) :: T5) H := by rw [eT5]; exact hP
  have hD : va_D A ((h0, .inr (5, [.ref q1, .int (0 : Int32), .ref q2, .ref q3, .ref q4, .null, .null, .null, .null])) :: T5) := by rw [eT5]; exact hD
  refine va_putF (D := D) (ci := 5) (v := .ref q5) (C := "TypesInside$Sums") (T := fT5) (N := 9) hx hb hts clw5 fY5 fYok5 zn5 hown hK hP hD hS 0 rfl rfl 5 (by decide) (hts _ zw120) (fun _ h9 => h9) rfl hin rfl (ty := fY5 5) (fYok5 5 (by decide)) rfl rfl (Nat.le_of_ble_eq_true rfl) zd_Su_init_42 (fun H locs hP hD hS => ?_)
  have hP : va_P D cl ((h0, .inr (5, [.ref q1, .int (0 : Int32), .ref q2, .ref q3, .ref q4, .ref q5, .null, .null, .null])) :: T5) H := hP
  have hD : va_D A ((h0, .inr (5, [.ref q1, .int (0 : Int32), .ref q2, .ref q3, .ref q4, .ref q5, .null, .null, .null])) :: T5) := hD
  refine lv_aload_n hx hb zd_Su_init_45 rfl (lv_at hl 0 rfl) ?_
  refine va_new (ci := 3) (fs := [.null]) (C := "TypesInside$Mix") (T := fT3) (N := 1) hx hb hts clw3 fY3 fYok3 hown (hts _ zw103) (hts _ zw105) (hts _ zw5) hK hP hD hS hA rfl (fun j hj => by obtain rfl : j = 0 := Nat.lt_one_iff.mp hj; rfl) (Nat.le_of_ble_eq_true rfl) (Nat.le_of_ble_eq_true rfl) zd_Su_init_46 (fun q6 H hP hD hS => ?_)
  have hP : va_P D cl (((h0, .inr (5, [.ref q1, .int (0 : Int32), .ref q2, .ref q3, .ref q4, .ref q5, .null, .null, .null])) :: T5) ++ [(q6, .inr (3, [.null]))]) H := hP
  have hD : va_D A (((h0, .inr (5, [.ref q1, .int (0 : Int32), .ref q2, .ref q3, .ref q4, .ref q5, .null, .null, .null])) :: T5) ++ [(q6, .inr (3, [.null]))]) := hD
  refine lv_dup hx hb zd_Su_init_49 rfl ?_
  have hPc := P_r hP
  have hDc := D_r hD
  have hFc := free2 hD hS hA
  refine va_callv (va_runIN (As := []) (rest := [.ref q6, .ref h0]) ⟨hx, hb, hml, hown, hts⟩ (c_Mi_init l D AC q6 H.size 201 (by decide)) (⟨va_cnB (own := "TypesInside$Sums") (host := "TypesInside") (index := 37) 0 hts (LW_gin zw108) rfl rfl rfl (N6_3 hK6.2.2.2.2) (hts _ zw5) zh_Mi_init ⟨Nat.le_of_ble_eq_true rfl, Nat.le_of_ble_eq_true rfl⟩, rfl, hts _ zw107⟩) ⟨fun a U g mk q => by obtain ⟨q0, q1, qP, qK, qD⟩ := q; exact ⟨q0, q1, qP, K6.same (u := U) (U := U.calling g mk a) rfl qK, qD⟩, fun U hU hW => ⟨rfl, by rw [hU], by rw [hU]; exact hPc, hK6.warm hW, hDc.weaken (fun _ _ _ _ => trivial)⟩⟩ rfl rfl hl.1 rfl (lv_room (Nat.le_of_ble_eq_true rfl)) zd_Su_init_50 ⟨Nat.le_of_ble_eq_true rfl, Nat.le_of_ble_eq_true rfl⟩) hS (fun q _ h => hFc q h) hFc (fun a6 t H1 locs ht hvm hw hB hz1 hk1 hS => ?_)
  obtain ⟨hP1, hD1⟩ := hB
  rw [ht] at hP1
  obtain ⟨hP, hD⟩ := join2 hP hD hk1 hFc hP1 hD1
  obtain ⟨T6, eT6⟩ : ∃ T, T = T5 ++ wl (rng 201 21) AC a6 μz := ⟨_, rfl⟩
  have hP : va_P D cl ((h0, .inr (5, [.ref q1, .int (0 : Int32), .ref q2, .ref q3, .ref q4, .ref q5, .null, .null, .null])) :: T6) H1 := by rw [eT6]; exact hP
  have hD : va_D A ((h0, .inr (5, [.ref q1, .int (0 : Int32), .ref q2, .ref q3, .ref q4, .ref q5, .null, .null, .null])) :: T6) := by rw [eT6]; exact hD
  have ha6 : a6 201 = q6 := hw
  refine va_putF (D := D) (ci := 5) (v := .ref q6) (C := "TypesInside$Sums") (T := fT5) (N := 9) hx hb hts clw5 fY5 fYok5 zn5 hown hK hP hD hS 0 rfl rfl 6 (by decide) (hts _ zw121) (fun _ h9 => h9) rfl hin rfl (ty := fY5 6) (fYok5 6 (by decide)) rfl rfl (Nat.le_of_ble_eq_true rfl) zd_Su_init_53 (fun H locs hP hD hS => ?_)
  have hP : va_P D cl ((h0, .inr (5, [.ref q1, .int (0 : Int32), .ref q2, .ref q3, .ref q4, .ref q5, .ref q6, .null, .null])) :: T6) H := hP
  have hD : va_D A ((h0, .inr (5, [.ref q1, .int (0 : Int32), .ref q2, .ref q3, .ref q4, .ref q5, .ref q6, .null, .null])) :: T6) := hD
  refine lv_aload_n hx hb zd_Su_init_56 rfl (lv_at hl 0 rfl) ?_
  refine va_new (ci := 3) (fs := [.null]) (C := "TypesInside$Mix") (T := fT3) (N := 1) hx hb hts clw3 fY3 fYok3 hown (hts _ zw103) (hts _ zw105) (hts _ zw5) hK hP hD hS hA rfl (fun j hj => by obtain rfl : j = 0 := Nat.lt_one_iff.mp hj; rfl) (Nat.le_of_ble_eq_true rfl) (Nat.le_of_ble_eq_true rfl) zd_Su_init_57 (fun q7 H hP hD hS => ?_)
  have hP : va_P D cl (((h0, .inr (5, [.ref q1, .int (0 : Int32), .ref q2, .ref q3, .ref q4, .ref q5, .ref q6, .null, .null])) :: T6) ++ [(q7, .inr (3, [.null]))]) H := hP
  have hD : va_D A (((h0, .inr (5, [.ref q1, .int (0 : Int32), .ref q2, .ref q3, .ref q4, .ref q5, .ref q6, .null, .null])) :: T6) ++ [(q7, .inr (3, [.null]))]) := hD
  refine lv_dup hx hb zd_Su_init_60 rfl ?_
  have hPc := P_r hP
  have hDc := D_r hD
  have hFc := free2 hD hS hA
  refine va_callv (va_runIN (As := []) (rest := [.ref q7, .ref h0]) ⟨hx, hb, hml, hown, hts⟩ (c_Mi_init l D AC q7 H.size 222 (by decide)) (⟨va_cnB (own := "TypesInside$Sums") (host := "TypesInside") (index := 37) 0 hts (LW_gin zw108) rfl rfl rfl (N6_3 hK6.2.2.2.2) (hts _ zw5) zh_Mi_init ⟨Nat.le_of_ble_eq_true rfl, Nat.le_of_ble_eq_true rfl⟩, rfl, hts _ zw107⟩) ⟨fun a U g mk q => by obtain ⟨q0, q1, qP, qK, qD⟩ := q; exact ⟨q0, q1, qP, K6.same (u := U) (U := U.calling g mk a) rfl qK, qD⟩, fun U hU hW => ⟨rfl, by rw [hU], by rw [hU]; exact hPc, hK6.warm hW, hDc.weaken (fun _ _ _ _ => trivial)⟩⟩ rfl rfl hl.1 rfl (lv_room (Nat.le_of_ble_eq_true rfl)) zd_Su_init_61 ⟨Nat.le_of_ble_eq_true rfl, Nat.le_of_ble_eq_true rfl⟩) hS (fun q _ h => hFc q h) hFc (fun a7 t H1 locs ht hvm hw hB hz1 hk1 hS => ?_)
  obtain ⟨hP1, hD1⟩ := hB
  rw [ht] at hP1
  obtain ⟨hP, hD⟩ := join2 hP hD hk1 hFc hP1 hD1
  obtain ⟨T7, eT7⟩ : ∃ T, T = T6 ++ wl (rng 222 21) AC a7 μz := ⟨_, rfl⟩
  have hP : va_P D cl ((h0, .inr (5, [.ref q1, .int (0 : Int32), .ref q2, .ref q3, .ref q4, .ref q5, .ref q6, .null, .null])) :: T7) H1 := by rw [eT7]; exact hP
  have hD : va_D A ((h0, .inr (5, [.ref q1, .int (0 : Int32), .ref q2, .ref q3, .ref q4, .ref q5, .ref q6, .null, .null])) :: T7) := by rw [eT7]; exact hD
  have ha7 : a7 222 = q7 := hw
  refine va_putF (D := D) (ci := 5) (v := .ref q7) (C := "TypesInside$Sums") (T := fT5) (N := 9) hx hb hts clw5 fY5 fYok5 zn5 hown hK hP hD hS 0 rfl rfl 7 (by decide) (hts _ zw122) (fun _ h9 => h9) rfl hin rfl (ty := fY5 7) (fYok5 7 (by decide)) rfl rfl (Nat.le_of_ble_eq_true rfl) zd_Su_init_64 (fun H locs hP hD hS => ?_)
  have hP : va_P D cl ((h0, .inr (5, [.ref q1, .int (0 : Int32), .ref q2, .ref q3, .ref q4, .ref q5, .ref q6, .ref q7, .null])) :: T7) H := hP
  have hD : va_D A ((h0, .inr (5, [.ref q1, .int (0 : Int32), .ref q2, .ref q3, .ref q4, .ref q5, .ref q6, .ref q7, .null])) :: T7) := hD
  refine lv_aload_n hx hb zd_Su_init_67 rfl (lv_at hl 0 rfl) ?_
  refine lv_bipush (v := (31 : Int32)) hx hb zd_Su_init_68 (by decide) ?_
  refine va_newa (atype := .long) (ty := .long) hx hb (hts _ zw46) rfl hK hP hD hS hA (n := 31) (N' := 31) (a0 := (31, .inr (.inl (fun _ => (0 : Int64))))) (fun _ => rfl) (by decide) (by decide) (Nat.le_of_ble_eq_true rfl) (Nat.le_of_ble_eq_true rfl) (Nat.le_of_ble_eq_true rfl) zd_Su_init_70 (fun q8 cA H hK1 hP hD hS => ?_)
  obtain rfl := K_new 1 hK1 rfl
  obtain ⟨T8, eT8⟩ : ∃ T, T = T7 ++ [(q8, .inl (AC 1, 31, .inr (.inl (fun _ => (0 : Int64)))))] := ⟨_, rfl⟩
  have hP : va_P D cl ((h0, .inr (5, [.ref q1, .int (0 : Int32), .ref q2, .ref q3, .ref q4, .ref q5, .ref q6, .ref q7, .null])) :: T8) H := by rw [eT8]; exact hP
  have hD : va_D A ((h0, .inr (5, [.ref q1, .int (0 : Int32), .ref q2, .ref q3, .ref q4, .ref q5, .ref q6, .ref q7, .null])) :: T8) := by rw [eT8]; exact hD
  refine va_putF (D := D) (ci := 5) (v := .ref q8) (C := "TypesInside$Sums") (T := fT5) (N := 9) hx hb hts clw5 fY5 fYok5 zn5 hown hK hP hD hS 0 rfl rfl 8 (by decide) (hts _ zw123) (fun _ h9 => h9) rfl hin rfl (ty := fY5 8) (fYok5 8 (by decide)) rfl rfl (Nat.le_of_ble_eq_true rfl) zd_Su_init_72 (fun H locs hP hD hS => ?_)
  have hP : va_P D cl ((h0, .inr (5, [.ref q1, .int (0 : Int32), .ref q2, .ref q3, .ref q4, .ref q5, .ref q6, .ref q7, .ref q8])) :: T8) H := hP
  have hD : va_D A ((h0, .inr (5, [.ref q1, .int (0 : Int32), .ref q2, .ref q3, .ref q4, .ref q5, .ref q6, .ref q7, .ref q8])) :: T8) := hD
  obtain ⟨ad, ead⟩ : ∃ ad : Nat → Nat, ad = fun k => if k < 70 then h0 else if k < 71 then q1 else if k < 135 then a2 k else if k < 199 then a3 k else if k < 200 then q4 else if k < 201 then q5 else if k < 222 then a6 k else if k < 243 then a7 k else q8 := ⟨_, rfl⟩
  have had : ad (69) = h0 := by rw [ead]; exact if_pos (by omega)
  have g0 : ad (70) = q1 := by rw [ead]; show (if _ then _ else _) = _; rw [if_neg (by omega), if_pos (by omega)]
  have g1 : ∀ k, 71 ≤ k → k < 71 + 64 → ad k = a2 k := fun k k1 k2 => by rw [ead]; show (if _ then _ else _) = _; rw [if_neg (by omega), if_neg (by omega), if_pos (by omega)]
  have g2 : ∀ k, 135 ≤ k → k < 135 + 64 → ad k = a3 k := fun k k1 k2 => by rw [ead]; show (if _ then _ else _) = _; rw [if_neg (by omega), if_neg (by omega), if_neg (by omega), if_pos (by omega)]
  have g3 : ad (199) = q4 := by rw [ead]; show (if _ then _ else _) = _; rw [if_neg (by omega), if_neg (by omega), if_neg (by omega), if_neg (by omega), if_pos (by omega)]
  have g4 : ad (200) = q5 := by rw [ead]; show (if _ then _ else _) = _; rw [if_neg (by omega), if_neg (by omega), if_neg (by omega), if_neg (by omega), if_neg (by omega), if_pos (by omega)]
  have g5 : ∀ k, 201 ≤ k → k < 201 + 21 → ad k = a6 k := fun k k1 k2 => by rw [ead]; show (if _ then _ else _) = _; rw [if_neg (by omega), if_neg (by omega), if_neg (by omega), if_neg (by omega), if_neg (by omega), if_neg (by omega), if_pos (by omega)]
  have g6 : ∀ k, 222 ≤ k → k < 222 + 21 → ad k = a7 k := fun k k1 k2 => by rw [ead]; show (if _ then _ else _) = _; rw [if_neg (by omega), if_neg (by omega), if_neg (by omega), if_neg (by omega), if_neg (by omega), if_neg (by omega), if_neg (by omega), if_pos (by omega)]
  have g7 : ad (243) = q8 := by rw [ead]; show (if _ then _ else _) = _; rw [if_neg (by omega), if_neg (by omega), if_neg (by omega), if_neg (by omega), if_neg (by omega), if_neg (by omega), if_neg (by omega), if_neg (by omega)]
  have hPT := P_tl hP
  rw [eT8] at hPT
  have p7 := P_r hPT
  have hPT := P_l hPT
  rw [eT7] at hPT
  have p6 := P_r hPT
  have hPT := P_l hPT
  rw [eT6] at hPT
  have p5 := P_r hPT
  have hPT := P_l hPT
  rw [eT5] at hPT
  have p4 := P_r hPT
  have hPT := P_l hPT
  rw [eT4] at hPT
  have p3 := P_r hPT
  have hPT := P_l hPT
  rw [eT3] at hPT
  have p2 := P_r hPT
  have hPT := P_l hPT
  rw [eT2] at hPT
  have p1 := P_r hPT
  have hPT := P_l hPT
  rw [eT1] at hPT
  have p0 := P_r hPT
  have hPT := P_l hPT
  have P0 : va_P D cl (wl (rng (70) 0) AC ad μz) H := P_0
  have m0 : T0.map (fun x => x.1) = (rng (70) 0).map ad := by rw [eT0]; rfl
  have P1 : va_P D cl (wl (rng (70) 1) AC ad μz) H := P_step P0 (one_P g0 ((cE_i (k := 70) rfl)) p0)
  have m1 : T1.map (fun x => x.1) = (rng (70) 1).map ad := m_step m0 eT1 (one_m g0)
  have P2 : va_P D cl (wl (rng (70) 65) AC ad μz) H := P_step P1 (wl_mv zc_71_64 g1 p1)
  have m2 : T2.map (fun x => x.1) = (rng (70) 65).map ad := m_step m1 eT2 (blk_m g1)
  have P3 : va_P D cl (wl (rng (70) 129) AC ad μz) H := P_step P2 (wl_mv zc_135_64 g2 p2)
  have m3 : T3.map (fun x => x.1) = (rng (70) 129).map ad := m_step m2 eT3 (blk_m g2)
  have P4 : va_P D cl (wl (rng (70) 130) AC ad μz) H := P_step P3 (one_P g3 ((cE_z (k := 199) rfl)) p3)
  have m4 : T4.map (fun x => x.1) = (rng (70) 130).map ad := m_step m3 eT4 (one_m g3)
  have P5 : va_P D cl (wl (rng (70) 131) AC ad μz) H := P_step P4 (one_P g4 ((cE_i (k := 200) rfl)) p4)
  have m5 : T5.map (fun x => x.1) = (rng (70) 131).map ad := m_step m4 eT5 (one_m g4)
  have P6 : va_P D cl (wl (rng (70) 152) AC ad μz) H := P_step P5 (wl_mv zc_201_21 g5 p5)
  have m6 : T6.map (fun x => x.1) = (rng (70) 152).map ad := m_step m5 eT6 (blk_m g5)
  have P7 : va_P D cl (wl (rng (70) 173) AC ad μz) H := P_step P6 (wl_mv zc_222_21 g6 p6)
  have m7 : T7.map (fun x => x.1) = (rng (70) 173).map ad := m_step m6 eT7 (blk_m g6)
  have P8 : va_P D cl (wl (rng (70) 174) AC ad μz) H := P_step P7 (one_P g7 ((cE_l (k := 243) rfl)) p7)
  have m8 : T8.map (fun x => x.1) = (rng (70) 174).map ad := m_step m7 eT8 (one_m g7)
  have hfl : fl ad 5 (69) (cN 5) (μz.1 (69)) = [.ref q1, .int (0 : Int32), .ref q2, .ref q3, .ref q4, .ref q5, .ref q6, .ref q7, .ref q8] := by
    show ([.ref (ad (70)), .int (0 : Int32), .ref (ad (71)), .ref (ad (135)), .ref (ad (199)), .ref (ad (200)), .ref (ad (201)), .ref (ad (222)), .ref (ad (243))] : List Value) = _
    rw [g0]
    rw [(g1 71 (by omega) (by omega)).trans ha2]
    rw [(g2 135 (by omega) (by omega)).trans ha3]
    rw [g3]
    rw [g4]
    rw [(g5 201 (by omega) (by omega)).trans ha6]
    rw [(g6 222 (by omega) (by omega)).trans ha7]
    rw [g7]
  have hPf : va_P D cl (wl (rng (69) 175) AC ad μz) H := head_P (n := 174) (show shK 69 = 10 + 5 from rfl) hfl had hP P8
  have hDf : va_D A (wl (rng (69) 175) AC ad μz) := head_D (n := 174) had hD m8
  refine W.widen (k := 174) (n := 4955) (Nat.le_of_ble_eq_true rfl) (Nat.le_of_ble_eq_true rfl) ?_
  exact W.vret hx hb hr (fun t ht hW => ⟨⟨ad, rfl, had, by rw [ht]; exact hPf, hDf⟩, hS.F ht⟩) hS.2.2 zd_Su_init_75
theorem zd_TI_init_0 : decode prog_1_method_1_code 0 = .ok (.aload_n 0, 1) := by decide +kernel
theorem zd_TI_init_1 : decode prog_1_method_1_code 1 = .ok (.invokespecial 3, 3) := by decide +kernel
theorem zd_TI_init_4 : decode prog_1_method_1_code 4 = .ok (.aload_n 0, 1) := by decide +kernel
theorem zd_TI_init_5 : decode prog_1_method_1_code 5 = .ok (.new 9, 3) := by decide +kernel
theorem zd_TI_init_8 : decode prog_1_method_1_code 8 = .ok (.dup, 1) := by decide +kernel
theorem zd_TI_init_9 : decode prog_1_method_1_code 9 = .ok (.invokespecial 11, 3) := by decide +kernel
theorem zd_TI_init_12 : decode prog_1_method_1_code 12 = .ok (.putfield 12, 3) := by decide +kernel
theorem zd_TI_init_15 : decode prog_1_method_1_code 15 = .ok (.aload_n 0, 1) := by decide +kernel
theorem zd_TI_init_16 : decode prog_1_method_1_code 16 = .ok (.new 18, 3) := by decide +kernel
theorem zd_TI_init_19 : decode prog_1_method_1_code 19 = .ok (.dup, 1) := by decide +kernel
theorem zd_TI_init_20 : decode prog_1_method_1_code 20 = .ok (.invokespecial 20, 3) := by decide +kernel
theorem zd_TI_init_23 : decode prog_1_method_1_code 23 = .ok (.putfield 21, 3) := by decide +kernel
theorem zd_TI_init_26 : decode prog_1_method_1_code 26 = .ok (.aload_n 0, 1) := by decide +kernel
theorem zd_TI_init_27 : decode prog_1_method_1_code 27 = .ok (.new 25, 3) := by decide +kernel
theorem zd_TI_init_30 : decode prog_1_method_1_code 30 = .ok (.dup, 1) := by decide +kernel
theorem zd_TI_init_31 : decode prog_1_method_1_code 31 = .ok (.invokespecial 27, 3) := by decide +kernel
theorem zd_TI_init_34 : decode prog_1_method_1_code 34 = .ok (.putfield 28, 3) := by decide +kernel
theorem zd_TI_init_37 : decode prog_1_method_1_code 37 = .ok (.aload_n 0, 1) := by decide +kernel
theorem zd_TI_init_38 : decode prog_1_method_1_code 38 = .ok (.new 32, 3) := by decide +kernel
theorem zd_TI_init_41 : decode prog_1_method_1_code 41 = .ok (.dup, 1) := by decide +kernel
theorem zd_TI_init_42 : decode prog_1_method_1_code 42 = .ok (.invokespecial 34, 3) := by decide +kernel
theorem zd_TI_init_45 : decode prog_1_method_1_code 45 = .ok (.putfield 35, 3) := by decide +kernel
theorem zd_TI_init_48 : decode prog_1_method_1_code 48 = .ok (.aload_n 0, 1) := by decide +kernel
theorem zd_TI_init_49 : decode prog_1_method_1_code 49 = .ok (.invokestatic 39, 3) := by decide +kernel
theorem zd_TI_init_52 : decode prog_1_method_1_code 52 = .ok (.putfield 43, 3) := by decide +kernel
theorem zd_TI_init_55 : decode prog_1_method_1_code 55 = .ok (.aload_n 0, 1) := by decide +kernel
theorem zd_TI_init_56 : decode prog_1_method_1_code 56 = .ok (.bipush 31, 2) := by decide +kernel
theorem zd_TI_init_58 : decode prog_1_method_1_code 58 = .ok (.newarray .long, 2) := by decide +kernel
theorem zd_TI_init_60 : decode prog_1_method_1_code 60 = .ok (.putfield 49, 3) := by decide +kernel
theorem zd_TI_init_63 : decode prog_1_method_1_code 63 = .ok (.aload_n 0, 1) := by decide +kernel
theorem zd_TI_init_64 : decode prog_1_method_1_code 64 = .ok (.bipush 20, 2) := by decide +kernel
theorem zd_TI_init_66 : decode prog_1_method_1_code 66 = .ok (.newarray .int, 2) := by decide +kernel
theorem zd_TI_init_68 : decode prog_1_method_1_code 68 = .ok (.putfield 55, 3) := by decide +kernel
theorem zd_TI_init_71 : decode prog_1_method_1_code 71 = .ok (.aload_n 0, 1) := by decide +kernel
theorem zd_TI_init_72 : decode prog_1_method_1_code 72 = .ok (.new 32, 3) := by decide +kernel
theorem zd_TI_init_75 : decode prog_1_method_1_code 75 = .ok (.dup, 1) := by decide +kernel
theorem zd_TI_init_76 : decode prog_1_method_1_code 76 = .ok (.invokespecial 34, 3) := by decide +kernel
theorem zd_TI_init_79 : decode prog_1_method_1_code 79 = .ok (.putfield 59, 3) := by decide +kernel
theorem zd_TI_init_82 : decode prog_1_method_1_code 82 = .ok (.aload_n 0, 1) := by decide +kernel
theorem zd_TI_init_83 : decode prog_1_method_1_code 83 = .ok (.invokestatic 39, 3) := by decide +kernel
theorem zd_TI_init_86 : decode prog_1_method_1_code 86 = .ok (.putfield 62, 3) := by decide +kernel
theorem zd_TI_init_89 : decode prog_1_method_1_code 89 = .ok (.aload_n 0, 1) := by decide +kernel
theorem zd_TI_init_90 : decode prog_1_method_1_code 90 = .ok (.iconst 0, 1) := by decide +kernel
theorem zd_TI_init_91 : decode prog_1_method_1_code 91 = .ok (.putfield 65, 3) := by decide +kernel
theorem zd_TI_init_94 : decode prog_1_method_1_code 94 = .ok (.aload_n 0, 1) := by decide +kernel
theorem zd_TI_init_95 : decode prog_1_method_1_code 95 = .ok (.iconst 0, 1) := by decide +kernel
theorem zd_TI_init_96 : decode prog_1_method_1_code 96 = .ok (.putfield 69, 3) := by decide +kernel
theorem zd_TI_init_99 : decode prog_1_method_1_code 99 = .ok (.aload_n 0, 1) := by decide +kernel
theorem zd_TI_init_100 : decode prog_1_method_1_code 100 = .ok (.iconst 2, 1) := by decide +kernel
theorem zd_TI_init_101 : decode prog_1_method_1_code 101 = .ok (.putfield 73, 3) := by decide +kernel
theorem zd_TI_init_104 : decode prog_1_method_1_code 104 = .ok (.return_, 1) := by decide +kernel
set_option maxHeartbeats 4000000 in
theorem c_TI_init (l : Launch) (D : va_G) (AC : Nat → ClassId) (h0 sz : Nat) : Met l ⟨"TypesInside", "<init>", "()V"⟩ (ws_ ⟨"TypesInside", "<init>", "()V"⟩ prog_1_method_1_code 1 none) ({ frames := 4, cells := 305, slots := 9667, locals := 128 }) (va_Pc [.ref h0] (fun U => U.heap.size = sz ∧ va_P D cl [(h0, .inr (0, [.null, .null, .null, .null, .null, .null, .null, .int 0, .int 0, .int 0, .null, .null]))] U.heap ∧ K6 D AC U ∧ va_D (fun _ => True) [(h0, .inr (0, [.null, .null, .null, .null, .null, .null, .null, .int 0, .int 0, .int 0, .null, .null]))])) (va_Qv (fun ad : Nat → Nat => ad (0) = h0) (fun ad t => va_P D cl (wl (rng (0) 306) AC ad μz) t.heap ∧ va_D (va_A [(h0, .inr (0, [.null, .null, .null, .null, .null, .null, .null, .int 0, .int 0, .int 0, .null, .null]))] sz) (wl (rng (0) 306) AC ad μz)) (va_A [(h0, .inr (0, [.null, .null, .null, .null, .null, .null, .null, .int 0, .int 0, .int 0, .null, .null]))] sz)) 305 9667 (va_A [(h0, .inr (0, [.null, .null, .null, .null, .null, .null, .null, .int 0, .int 0, .int 0, .null, .null]))] sz) := by
  refine Met.ofW (cc := prog_1_method_1_code) (maxL := 1) (ret := none) (by decide) rfl ?_
  intro p e s m args below meth c s₁ B hml hv
  obtain ⟨rfl, hsz, hP, hK6, hD0⟩ := hv
  have hK := hK6.1
  have hx := B.exec
  have hb := B.bytes
  have hr := B.returns
  have hts0 := atoms_spec (ws := ws_ ⟨"TypesInside", "<init>", "()V"⟩ prog_1_method_1_code 1 none) B.pre
  have hts : ∀ w ∈ LW, w.before _ s = true := fun w hw => hts0 w (List.mem_cons_of_mem _ hw)
  have hown : s.vm.findClass "TypesInside" = some m.cls := findClass_of_methodNamed B.named
  have hlocks := B.notSynchronized
  have hin : meth.name = "<init>" := (name_of_methodNamed B.named B.method).1
  subst hsz
  have hD := hD0.self (sz := s.heap.size)
  generalize hAe : va_A [(h0, .inr (0, [.null, .null, .null, .null, .null, .null, .null, .int 0, .int 0, .int 0, .null, .null]))] s.heap.size = A at hD ⊢
  have hA : ∀ q : Nat, s.heap.size ≤ q → A q := fun q h => by rw [← hAe]; exact Or.inr h
  have hS : va_S A s.heap s.heap [] := va_S.rf
  have hl := lv_entry ([.ref h0]) (n := 1) (Nat.le_of_ble_eq_true rfl)
  rw [lg_entry_eq]
  generalize (lg_sl ([.ref h0]) ++ List.replicate (1 - (lg_sl ([.ref h0])).length) Slot.unset).toArray = ls at hl ⊢
  have hl : lv_has ls 1 [(0, .ref h0)] := hl
  obtain ⟨T0, eT0⟩ : ∃ T : va_W, T = [] := ⟨_, rfl⟩
  have hP : va_P D cl ((h0, .inr (0, [.null, .null, .null, .null, .null, .null, .null, .int 0, .int 0, .int 0, .null, .null])) :: T0) s.heap := by rw [eT0]; exact hP
  have hD : va_D A ((h0, .inr (0, [.null, .null, .null, .null, .null, .null, .null, .int 0, .int 0, .int 0, .null, .null])) :: T0) := by rw [eT0]; exact hD
  refine lv_aload_n hx hb zd_TI_init_0 rfl (lv_at hl 0 rfl) ?_
  refine W.objInit hx hb hown (hts _ zw16) (hts _ zw17) (hts _ zw18) rfl (by rw [hml]; exact hl.1) rfl zd_TI_init_1 (Nat.le_of_ble_eq_true rfl) (Nat.le_of_ble_eq_true rfl) ?_
  refine W.eq (g2 := F0 m 4 ls []) rfl ?_
  refine lv_aload_n hx hb zd_TI_init_4 rfl (lv_at hl 0 rfl) ?_
  refine va_new (ci := 1) (fs := [.null, .null, .int 0, .null, .null]) (C := "TypesInside$Counts") (T := fT1) (N := 5) hx hb hts clw1 fY1 fYok1 hown (hts _ zw19) (hts _ zw20) (hts _ zw2) hK hP hD hS hA rfl (fun j hj => by rcases (show j = 0 ∨ j = 1 ∨ j = 2 ∨ j = 3 ∨ j = 4 by omega) with rfl | rfl | rfl | rfl | rfl <;> rfl) (Nat.le_of_ble_eq_true rfl) (Nat.le_of_ble_eq_true rfl) zd_TI_init_5 (fun q1 H hP hD hS => ?_)
  have hP : va_P D cl (((h0, .inr (0, [.null, .null, .null, .null, .null, .null, .null, .int 0, .int 0, .int 0, .null, .null])) :: T0) ++ [(q1, .inr (1, [.null, .null, .int 0, .null, .null]))]) H := hP
  have hD : va_D A (((h0, .inr (0, [.null, .null, .null, .null, .null, .null, .null, .int 0, .int 0, .int 0, .null, .null])) :: T0) ++ [(q1, .inr (1, [.null, .null, .int 0, .null, .null]))]) := hD
  refine lv_dup hx hb zd_TI_init_8 rfl ?_
  have hPc := P_r hP
  have hDc := D_r hD
  have hFc := free2 hD hS hA
  refine va_callv (va_runIN (As := []) (rest := [.ref q1, .ref h0]) ⟨hx, hb, hml, hown, hts⟩ (c_Co_init l D AC q1 H.size) (⟨va_cnB (own := "TypesInside") (host := "TypesInside") (index := 11) 0 hts (LW_gin zw23) rfl rfl rfl (N6_0 hK6.2.2.2.2) (hts _ zw2) zh_Co_init ⟨Nat.le_of_ble_eq_true rfl, Nat.le_of_ble_eq_true rfl⟩, rfl, hts _ zw22⟩) ⟨fun a U g mk q => by obtain ⟨q0, q1, qP, qK, qD⟩ := q; exact ⟨q0, q1, qP, K6.same (u := U) (U := U.calling g mk a) rfl qK, qD⟩, fun U hU hW => ⟨rfl, by rw [hU], by rw [hU]; exact hPc, hK6.warm hW, hDc.weaken (fun _ _ _ _ => trivial)⟩⟩ rfl rfl hl.1 rfl (lv_room (Nat.le_of_ble_eq_true rfl)) zd_TI_init_9 ⟨Nat.le_of_ble_eq_true rfl, Nat.le_of_ble_eq_true rfl⟩) hS (fun q _ h => hFc q h) hFc (fun a1 t H1 locs ht hvm hw hB hz1 hk1 hS => ?_)
  obtain ⟨hP1, hD1⟩ := hB
  rw [ht] at hP1
  obtain ⟨hP, hD⟩ := join2 hP hD hk1 hFc hP1 hD1
  obtain ⟨T1, eT1⟩ : ∃ T, T = T0 ++ wl (rng 1 60) AC a1 μz := ⟨_, rfl⟩
  have hP : va_P D cl ((h0, .inr (0, [.null, .null, .null, .null, .null, .null, .null, .int 0, .int 0, .int 0, .null, .null])) :: T1) H1 := by rw [eT1]; exact hP
  have hD : va_D A ((h0, .inr (0, [.null, .null, .null, .null, .null, .null, .null, .int 0, .int 0, .int 0, .null, .null])) :: T1) := by rw [eT1]; exact hD
  have ha1 : a1 1 = q1 := hw
  refine va_putF (D := D) (ci := 0) (v := .ref q1) (C := "TypesInside") (T := fT0) (N := 12) hx hb hts clw0 fY0 fYok0 zn0 hown hK hP hD hS 0 rfl rfl 0 (by decide) (hts _ zw166) (fun _ h9 => h9) rfl hin rfl (ty := fY0 0) (fYok0 0 (by decide)) rfl rfl (Nat.le_of_ble_eq_true rfl) zd_TI_init_12 (fun H locs hP hD hS => ?_)
  have hP : va_P D cl ((h0, .inr (0, [.ref q1, .null, .null, .null, .null, .null, .null, .int 0, .int 0, .int 0, .null, .null])) :: T1) H := hP
  have hD : va_D A ((h0, .inr (0, [.ref q1, .null, .null, .null, .null, .null, .null, .int 0, .int 0, .int 0, .null, .null])) :: T1) := hD
  refine lv_aload_n hx hb zd_TI_init_15 rfl (lv_at hl 0 rfl) ?_
  refine va_new (ci := 2) (fs := [.int 0, .int 0, .int 0, .int 0, .null, .null, .null, .null, .int 0, .int 0, .null, .null, .null]) (C := "TypesInside$Group") (T := fT2) (N := 13) hx hb hts clw2 fY2 fYok2 hown (hts _ zw47) (hts _ zw48) (hts _ zw3) hK hP hD hS hA rfl (fun j hj => by rcases (show j = 0 ∨ j = 1 ∨ j = 2 ∨ j = 3 ∨ j = 4 ∨ j = 5 ∨ j = 6 ∨ j = 7 ∨ j = 8 ∨ j = 9 ∨ j = 10 ∨ j = 11 ∨ j = 12 by omega) with rfl | rfl | rfl | rfl | rfl | rfl | rfl | rfl | rfl | rfl | rfl | rfl | rfl <;> rfl) (Nat.le_of_ble_eq_true rfl) (Nat.le_of_ble_eq_true rfl) zd_TI_init_16 (fun q2 H hP hD hS => ?_)
  have hP : va_P D cl (((h0, .inr (0, [.ref q1, .null, .null, .null, .null, .null, .null, .int 0, .int 0, .int 0, .null, .null])) :: T1) ++ [(q2, .inr (2, [.int 0, .int 0, .int 0, .int 0, .null, .null, .null, .null, .int 0, .int 0, .null, .null, .null]))]) H := hP
  have hD : va_D A (((h0, .inr (0, [.ref q1, .null, .null, .null, .null, .null, .null, .int 0, .int 0, .int 0, .null, .null])) :: T1) ++ [(q2, .inr (2, [.int 0, .int 0, .int 0, .int 0, .null, .null, .null, .null, .int 0, .int 0, .null, .null, .null]))]) := hD
  refine lv_dup hx hb zd_TI_init_19 rfl ?_
  have hPc := P_r hP
  have hDc := D_r hD
  have hFc := free2 hD hS hA
  refine va_callv (va_runIN (As := []) (rest := [.ref q2, .ref h0]) ⟨hx, hb, hml, hown, hts⟩ (c_Gr_init l D AC q2 H.size) (⟨va_cnB (own := "TypesInside") (host := "TypesInside") (index := 20) 0 hts (LW_gin zw51) rfl rfl rfl (N6_1 hK6.2.2.2.2) (hts _ zw3) zh_Gr_init ⟨Nat.le_of_ble_eq_true rfl, Nat.le_of_ble_eq_true rfl⟩, rfl, hts _ zw50⟩) ⟨fun a U g mk q => by obtain ⟨q0, q1, qP, qK, qD⟩ := q; exact ⟨q0, q1, qP, K6.same (u := U) (U := U.calling g mk a) rfl qK, qD⟩, fun U hU hW => ⟨rfl, by rw [hU], by rw [hU]; exact hPc, hK6.warm hW, hDc.weaken (fun _ _ _ _ => trivial)⟩⟩ rfl rfl hl.1 rfl (lv_room (Nat.le_of_ble_eq_true rfl)) zd_TI_init_20 ⟨Nat.le_of_ble_eq_true rfl, Nat.le_of_ble_eq_true rfl⟩) hS (fun q _ h => hFc q h) hFc (fun a2 t H1 locs ht hvm hw hB hz1 hk1 hS => ?_)
  obtain ⟨hP1, hD1⟩ := hB
  rw [ht] at hP1
  obtain ⟨hP, hD⟩ := join2 hP hD hk1 hFc hP1 hD1
  obtain ⟨T2, eT2⟩ : ∃ T, T = T1 ++ wl (rng 61 8) AC a2 μz := ⟨_, rfl⟩
  have hP : va_P D cl ((h0, .inr (0, [.ref q1, .null, .null, .null, .null, .null, .null, .int 0, .int 0, .int 0, .null, .null])) :: T2) H1 := by rw [eT2]; exact hP
  have hD : va_D A ((h0, .inr (0, [.ref q1, .null, .null, .null, .null, .null, .null, .int 0, .int 0, .int 0, .null, .null])) :: T2) := by rw [eT2]; exact hD
  have ha2 : a2 61 = q2 := hw
  refine va_putF (D := D) (ci := 0) (v := .ref q2) (C := "TypesInside") (T := fT0) (N := 12) hx hb hts clw0 fY0 fYok0 zn0 hown hK hP hD hS 0 rfl rfl 1 (by decide) (hts _ zw167) (fun _ h9 => h9) rfl hin rfl (ty := fY0 1) (fYok0 1 (by decide)) rfl rfl (Nat.le_of_ble_eq_true rfl) zd_TI_init_23 (fun H locs hP hD hS => ?_)
  have hP : va_P D cl ((h0, .inr (0, [.ref q1, .ref q2, .null, .null, .null, .null, .null, .int 0, .int 0, .int 0, .null, .null])) :: T2) H := hP
  have hD : va_D A ((h0, .inr (0, [.ref q1, .ref q2, .null, .null, .null, .null, .null, .int 0, .int 0, .int 0, .null, .null])) :: T2) := hD
  refine lv_aload_n hx hb zd_TI_init_26 rfl (lv_at hl 0 rfl) ?_
  refine va_new (ci := 5) (fs := [.null, .int 0, .null, .null, .null, .null, .null, .null, .null]) (C := "TypesInside$Sums") (T := fT5) (N := 9) hx hb hts clw5 fY5 fYok5 hown (hts _ zw94) (hts _ zw95) (hts _ zw4) hK hP hD hS hA rfl (fun j hj => by rcases (show j = 0 ∨ j = 1 ∨ j = 2 ∨ j = 3 ∨ j = 4 ∨ j = 5 ∨ j = 6 ∨ j = 7 ∨ j = 8 by omega) with rfl | rfl | rfl | rfl | rfl | rfl | rfl | rfl | rfl <;> rfl) (Nat.le_of_ble_eq_true rfl) (Nat.le_of_ble_eq_true rfl) zd_TI_init_27 (fun q3 H hP hD hS => ?_)
  have hP : va_P D cl (((h0, .inr (0, [.ref q1, .ref q2, .null, .null, .null, .null, .null, .int 0, .int 0, .int 0, .null, .null])) :: T2) ++ [(q3, .inr (5, [.null, .int 0, .null, .null, .null, .null, .null, .null, .null]))]) H := hP
  have hD : va_D A (((h0, .inr (0, [.ref q1, .ref q2, .null, .null, .null, .null, .null, .int 0, .int 0, .int 0, .null, .null])) :: T2) ++ [(q3, .inr (5, [.null, .int 0, .null, .null, .null, .null, .null, .null, .null]))]) := hD
  refine lv_dup hx hb zd_TI_init_30 rfl ?_
  have hPc := P_r hP
  have hDc := D_r hD
  have hFc := free2 hD hS hA
  refine va_callv (va_runIN (As := []) (rest := [.ref q3, .ref h0]) ⟨hx, hb, hml, hown, hts⟩ (c_Su_init l D AC q3 H.size) (⟨va_cnB (own := "TypesInside") (host := "TypesInside") (index := 27) 0 hts (LW_gin zw98) rfl rfl rfl (N6_2 hK6.2.2.2.2) (hts _ zw4) zh_Su_init ⟨Nat.le_of_ble_eq_true rfl, Nat.le_of_ble_eq_true rfl⟩, rfl, hts _ zw97⟩) ⟨fun a U g mk q => by obtain ⟨q0, q1, qP, qK, qD⟩ := q; exact ⟨q0, q1, qP, K6.same (u := U) (U := U.calling g mk a) rfl qK, qD⟩, fun U hU hW => ⟨rfl, by rw [hU], by rw [hU]; exact hPc, hK6.warm hW, hDc.weaken (fun _ _ _ _ => trivial)⟩⟩ rfl rfl hl.1 rfl (lv_room (Nat.le_of_ble_eq_true rfl)) zd_TI_init_31 ⟨Nat.le_of_ble_eq_true rfl, Nat.le_of_ble_eq_true rfl⟩) hS (fun q _ h => hFc q h) hFc (fun a3 t H1 locs ht hvm hw hB hz1 hk1 hS => ?_)
  obtain ⟨hP1, hD1⟩ := hB
  rw [ht] at hP1
  obtain ⟨hP, hD⟩ := join2 hP hD hk1 hFc hP1 hD1
  obtain ⟨T3, eT3⟩ : ∃ T, T = T2 ++ wl (rng 69 175) AC a3 μz := ⟨_, rfl⟩
  have hP : va_P D cl ((h0, .inr (0, [.ref q1, .ref q2, .null, .null, .null, .null, .null, .int 0, .int 0, .int 0, .null, .null])) :: T3) H1 := by rw [eT3]; exact hP
  have hD : va_D A ((h0, .inr (0, [.ref q1, .ref q2, .null, .null, .null, .null, .null, .int 0, .int 0, .int 0, .null, .null])) :: T3) := by rw [eT3]; exact hD
  have ha3 : a3 69 = q3 := hw
  refine va_putF (D := D) (ci := 0) (v := .ref q3) (C := "TypesInside") (T := fT0) (N := 12) hx hb hts clw0 fY0 fYok0 zn0 hown hK hP hD hS 0 rfl rfl 2 (by decide) (hts _ zw168) (fun _ h9 => h9) rfl hin rfl (ty := fY0 2) (fYok0 2 (by decide)) rfl rfl (Nat.le_of_ble_eq_true rfl) zd_TI_init_34 (fun H locs hP hD hS => ?_)
  have hP : va_P D cl ((h0, .inr (0, [.ref q1, .ref q2, .ref q3, .null, .null, .null, .null, .int 0, .int 0, .int 0, .null, .null])) :: T3) H := hP
  have hD : va_D A ((h0, .inr (0, [.ref q1, .ref q2, .ref q3, .null, .null, .null, .null, .int 0, .int 0, .int 0, .null, .null])) :: T3) := hD
  refine lv_aload_n hx hb zd_TI_init_37 rfl (lv_at hl 0 rfl) ?_
  refine va_new (ci := 3) (fs := [.null]) (C := "TypesInside$Mix") (T := fT3) (N := 1) hx hb hts clw3 fY3 fYok3 hown (hts _ zw144) (hts _ zw105) (hts _ zw5) hK hP hD hS hA rfl (fun j hj => by obtain rfl : j = 0 := Nat.lt_one_iff.mp hj; rfl) (Nat.le_of_ble_eq_true rfl) (Nat.le_of_ble_eq_true rfl) zd_TI_init_38 (fun q4 H hP hD hS => ?_)
  have hP : va_P D cl (((h0, .inr (0, [.ref q1, .ref q2, .ref q3, .null, .null, .null, .null, .int 0, .int 0, .int 0, .null, .null])) :: T3) ++ [(q4, .inr (3, [.null]))]) H := hP
  have hD : va_D A (((h0, .inr (0, [.ref q1, .ref q2, .ref q3, .null, .null, .null, .null, .int 0, .int 0, .int 0, .null, .null])) :: T3) ++ [(q4, .inr (3, [.null]))]) := hD
  refine lv_dup hx hb zd_TI_init_41 rfl ?_
  have hPc := P_r hP
  have hDc := D_r hD
  have hFc := free2 hD hS hA
  refine va_callv (va_runIN (As := []) (rest := [.ref q4, .ref h0]) ⟨hx, hb, hml, hown, hts⟩ (c_Mi_init l D AC q4 H.size 244 (by decide)) (⟨va_cnB (own := "TypesInside") (host := "TypesInside") (index := 34) 0 hts (LW_gin zw108) rfl rfl rfl (N6_4 hK6.2.2.2.2) (hts _ zw5) zh_Mi_init ⟨Nat.le_of_ble_eq_true rfl, Nat.le_of_ble_eq_true rfl⟩, rfl, hts _ zw107⟩) ⟨fun a U g mk q => by obtain ⟨q0, q1, qP, qK, qD⟩ := q; exact ⟨q0, q1, qP, K6.same (u := U) (U := U.calling g mk a) rfl qK, qD⟩, fun U hU hW => ⟨rfl, by rw [hU], by rw [hU]; exact hPc, hK6.warm hW, hDc.weaken (fun _ _ _ _ => trivial)⟩⟩ rfl rfl hl.1 rfl (lv_room (Nat.le_of_ble_eq_true rfl)) zd_TI_init_42 ⟨Nat.le_of_ble_eq_true rfl, Nat.le_of_ble_eq_true rfl⟩) hS (fun q _ h => hFc q h) hFc (fun a4 t H1 locs ht hvm hw hB hz1 hk1 hS => ?_)
  obtain ⟨hP1, hD1⟩ := hB
  rw [ht] at hP1
  obtain ⟨hP, hD⟩ := join2 hP hD hk1 hFc hP1 hD1
  obtain ⟨T4, eT4⟩ : ∃ T, T = T3 ++ wl (rng 244 21) AC a4 μz := ⟨_, rfl⟩
  have hP : va_P D cl ((h0, .inr (0, [.ref q1, .ref q2, .ref q3, .null, .null, .null, .null, .int 0, .int 0, .int 0, .null, .null])) :: T4) H1 := by rw [eT4]; exact hP
  have hD : va_D A ((h0, .inr (0, [.ref q1, .ref q2, .ref q3, .null, .null, .null, .null, .int 0, .int 0, .int 0, .null, .null])) :: T4) := by rw [eT4]; exact hD
  have ha4 : a4 244 = q4 := hw
  refine va_putF (D := D) (ci := 0) (v := .ref q4) (C := "TypesInside") (T := fT0) (N := 12) hx hb hts clw0 fY0 fYok0 zn0 hown hK hP hD hS 0 rfl rfl 3 (by decide) (hts _ zw169) (fun _ h9 => h9) rfl hin rfl (ty := fY0 3) (fYok0 3 (by decide)) rfl rfl (Nat.le_of_ble_eq_true rfl) zd_TI_init_45 (fun H locs hP hD hS => ?_)
  have hP : va_P D cl ((h0, .inr (0, [.ref q1, .ref q2, .ref q3, .ref q4, .null, .null, .null, .int 0, .int 0, .int 0, .null, .null])) :: T4) H := hP
  have hD : va_D A ((h0, .inr (0, [.ref q1, .ref q2, .ref q3, .ref q4, .null, .null, .null, .int 0, .int 0, .int 0, .null, .null])) :: T4) := hD
  refine lv_aload_n hx hb zd_TI_init_48 rfl (lv_at hl 0 rfl) ?_
  have hP : va_P D cl (((h0, .inr (0, [.ref q1, .ref q2, .ref q3, .ref q4, .null, .null, .null, .int 0, .int 0, .int 0, .null, .null])) :: T4) ++ []) H := by rw [List.append_nil]; exact hP
  have hD : va_D A (((h0, .inr (0, [.ref q1, .ref q2, .ref q3, .ref q4, .null, .null, .null, .int 0, .int 0, .int 0, .null, .null])) :: T4) ++ []) := by rw [List.append_nil]; exact hD
  have hFc := free2 hD hS hA
  refine va_callr (va_runS (As := []) (rest := [.ref h0]) ⟨hx, hb, hml, hown, hts⟩ (c_TI_newShelves l D AC H.size 265 (by decide)) ⟨callB_of 0 hts (LW_gin zw148) rfl rfl rfl (hts _ zw1) (hts _ zw146) zh_TI_newShelves ⟨Nat.le_of_ble_eq_true rfl, Nat.le_of_ble_eq_true rfl⟩, hts _ zw147⟩ ⟨fun a U g mk q => by obtain ⟨q0, q1, qK⟩ := q; exact ⟨q0, q1, K6.same (u := U) (U := U.calling g mk a) rfl qK⟩, fun U hU hW => ⟨rfl, by rw [hU], hK6.warm hW⟩⟩ rfl rfl hl.1 rfl (lv_room (Nat.le_of_ble_eq_true rfl)) zd_TI_init_49 ⟨Nat.le_of_ble_eq_true rfl, Nat.le_of_ble_eq_true rfl⟩) hS (fun q _ h => hFc q h) hFc (fun a5 q5 t H1 locs ht hvm hw hB hz1 hk1 hS => ?_)
  obtain ⟨ha5, hP1, hD1⟩ := hB
  rw [ht] at hP1
  obtain ⟨hP, hD⟩ := join2 hP hD hk1 hFc hP1 hD1
  obtain ⟨T5, eT5⟩ : ∃ T, T = T4 ++ wl (rng 265 9) AC a5 μz := ⟨_, rfl⟩
  have hP : va_P D cl ((h0, .inr (0, [.ref q1, .ref q2, .ref q3, .ref q4, .null, .null, .null, .int 0, .int 0, .int 0, .null, .null])) :: T5) H1 := by rw [eT5]; exact hP
  have hD : va_D A ((h0, .inr (0, [.ref q1, .ref q2, .ref q3, .ref q4, .null, .null, .null, .int 0, .int 0, .int 0, .null, .null])) :: T5) := by rw [eT5]; exact hD
  refine va_putF (D := D) (ci := 0) (v := .ref q5) (C := "TypesInside") (T := fT0) (N := 12) hx hb hts clw0 fY0 fYok0 zn0 hown hK hP hD hS 0 rfl rfl 4 (by decide) (hts _ zw170) (fun _ h9 => h9) rfl hin rfl (ty := fY0 4) (fYok0 4 (by decide)) rfl rfl (Nat.le_of_ble_eq_true rfl) zd_TI_init_52 (fun H locs hP hD hS => ?_)
  have hP : va_P D cl ((h0, .inr (0, [.ref q1, .ref q2, .ref q3, .ref q4, .ref q5, .null, .null, .int 0, .int 0, .int 0, .null, .null])) :: T5) H := hP
  have hD : va_D A ((h0, .inr (0, [.ref q1, .ref q2, .ref q3, .ref q4, .ref q5, .null, .null, .int 0, .int 0, .int 0, .null, .null])) :: T5) := hD
  refine lv_aload_n hx hb zd_TI_init_55 rfl (lv_at hl 0 rfl) ?_
  refine lv_bipush (v := (31 : Int32)) hx hb zd_TI_init_56 (by decide) ?_
  refine va_newa (atype := .long) (ty := .long) hx hb (hts _ zw46) rfl hK hP hD hS hA (n := 31) (N' := 31) (a0 := (31, .inr (.inl (fun _ => (0 : Int64))))) (fun _ => rfl) (by decide) (by decide) (Nat.le_of_ble_eq_true rfl) (Nat.le_of_ble_eq_true rfl) (Nat.le_of_ble_eq_true rfl) zd_TI_init_58 (fun q6 cA H hK1 hP hD hS => ?_)
  obtain rfl := K_new 1 hK1 rfl
  obtain ⟨T6, eT6⟩ : ∃ T, T = T5 ++ [(q6, .inl (AC 1, 31, .inr (.inl (fun _ => (0 : Int64)))))] := ⟨_, rfl⟩
  have hP : va_P D cl ((h0, .inr (0, [.ref q1, .ref q2, .ref q3, .ref q4, .ref q5, .null, .null, .int 0, .int 0, .int 0, .null, .null])) :: T6) H := by rw [eT6]; exact hP
  have hD : va_D A ((h0, .inr (0, [.ref q1, .ref q2, .ref q3, .ref q4, .ref q5, .null, .null, .int 0, .int 0, .int 0, .null, .null])) :: T6) := by rw [eT6]; exact hD
  refine va_putF (D := D) (ci := 0) (v := .ref q6) (C := "TypesInside") (T := fT0) (N := 12) hx hb hts clw0 fY0 fYok0 zn0 hown hK hP hD hS 0 rfl rfl 5 (by decide) (hts _ zw171) (fun _ h9 => h9) rfl hin rfl (ty := fY0 5) (fYok0 5 (by decide)) rfl rfl (Nat.le_of_ble_eq_true rfl) zd_TI_init_60 (fun H locs hP hD hS => ?_)
  have hP : va_P D cl ((h0, .inr (0, [.ref q1, .ref q2, .ref q3, .ref q4, .ref q5, .ref q6, .null, .int 0, .int 0, .int 0, .null, .null])) :: T6) H := hP
  have hD : va_D A ((h0, .inr (0, [.ref q1, .ref q2, .ref q3, .ref q4, .ref q5, .ref q6, .null, .int 0, .int 0, .int 0, .null, .null])) :: T6) := hD
  refine lv_aload_n hx hb zd_TI_init_63 rfl (lv_at hl 0 rfl) ?_
  refine lv_bipush (v := (20 : Int32)) hx hb zd_TI_init_64 (by decide) ?_
  refine va_newa (atype := .int) (ty := .int) hx hb (hts _ zw93) rfl hK hP hD hS hA (n := 20) (N' := 20) (a0 := (20, .inl (fun _ => (0 : Int32)))) (fun _ => rfl) (by decide) (by decide) (Nat.le_of_ble_eq_true rfl) (Nat.le_of_ble_eq_true rfl) (Nat.le_of_ble_eq_true rfl) zd_TI_init_66 (fun q7 cA H hK1 hP hD hS => ?_)
  obtain rfl := K_new 0 hK1 rfl
  obtain ⟨T7, eT7⟩ : ∃ T, T = T6 ++ [(q7, .inl (AC 0, 20, .inl (fun _ => (0 : Int32))))] := ⟨_, rfl⟩
  have hP : va_P D cl ((h0, .inr (0, [.ref q1, .ref q2, .ref q3, .ref q4, .ref q5, .ref q6, .null, .int 0, .int 0, .int 0, .null, .null])) :: T7) H := by rw [eT7]; exact hP
  have hD : va_D A ((h0, .inr (0, [.ref q1, .ref q2, .ref q3, .ref q4, .ref q5, .ref q6, .null, .int 0, .int 0, .int 0, .null, .null])) :: T7) := by rw [eT7]; exact hD
  refine va_putF (D := D) (ci := 0) (v := .ref q7) (C := "TypesInside") (T := fT0) (N := 12) hx hb hts clw0 fY0 fYok0 zn0 hown hK hP hD hS 0 rfl rfl 6 (by decide) (hts _ zw172) (fun _ h9 => h9) rfl hin rfl (ty := fY0 6) (fYok0 6 (by decide)) rfl rfl (Nat.le_of_ble_eq_true rfl) zd_TI_init_68 (fun H locs hP hD hS => ?_)
  have hP : va_P D cl ((h0, .inr (0, [.ref q1, .ref q2, .ref q3, .ref q4, .ref q5, .ref q6, .ref q7, .int 0, .int 0, .int 0, .null, .null])) :: T7) H := hP
  have hD : va_D A ((h0, .inr (0, [.ref q1, .ref q2, .ref q3, .ref q4, .ref q5, .ref q6, .ref q7, .int 0, .int 0, .int 0, .null, .null])) :: T7) := hD
  refine lv_aload_n hx hb zd_TI_init_71 rfl (lv_at hl 0 rfl) ?_
  refine va_new (ci := 3) (fs := [.null]) (C := "TypesInside$Mix") (T := fT3) (N := 1) hx hb hts clw3 fY3 fYok3 hown (hts _ zw144) (hts _ zw105) (hts _ zw5) hK hP hD hS hA rfl (fun j hj => by obtain rfl : j = 0 := Nat.lt_one_iff.mp hj; rfl) (Nat.le_of_ble_eq_true rfl) (Nat.le_of_ble_eq_true rfl) zd_TI_init_72 (fun q8 H hP hD hS => ?_)
  have hP : va_P D cl (((h0, .inr (0, [.ref q1, .ref q2, .ref q3, .ref q4, .ref q5, .ref q6, .ref q7, .int 0, .int 0, .int 0, .null, .null])) :: T7) ++ [(q8, .inr (3, [.null]))]) H := hP
  have hD : va_D A (((h0, .inr (0, [.ref q1, .ref q2, .ref q3, .ref q4, .ref q5, .ref q6, .ref q7, .int 0, .int 0, .int 0, .null, .null])) :: T7) ++ [(q8, .inr (3, [.null]))]) := hD
  refine lv_dup hx hb zd_TI_init_75 rfl ?_
  have hPc := P_r hP
  have hDc := D_r hD
  have hFc := free2 hD hS hA
  refine va_callv (va_runIN (As := []) (rest := [.ref q8, .ref h0]) ⟨hx, hb, hml, hown, hts⟩ (c_Mi_init l D AC q8 H.size 276 (by decide)) (⟨va_cnB (own := "TypesInside") (host := "TypesInside") (index := 34) 0 hts (LW_gin zw108) rfl rfl rfl (N6_4 hK6.2.2.2.2) (hts _ zw5) zh_Mi_init ⟨Nat.le_of_ble_eq_true rfl, Nat.le_of_ble_eq_true rfl⟩, rfl, hts _ zw107⟩) ⟨fun a U g mk q => by obtain ⟨q0, q1, qP, qK, qD⟩ := q; exact ⟨q0, q1, qP, K6.same (u := U) (U := U.calling g mk a) rfl qK, qD⟩, fun U hU hW => ⟨rfl, by rw [hU], by rw [hU]; exact hPc, hK6.warm hW, hDc.weaken (fun _ _ _ _ => trivial)⟩⟩ rfl rfl hl.1 rfl (lv_room (Nat.le_of_ble_eq_true rfl)) zd_TI_init_76 ⟨Nat.le_of_ble_eq_true rfl, Nat.le_of_ble_eq_true rfl⟩) hS (fun q _ h => hFc q h) hFc (fun a8 t H1 locs ht hvm hw hB hz1 hk1 hS => ?_)
  obtain ⟨hP1, hD1⟩ := hB
  rw [ht] at hP1
  obtain ⟨hP, hD⟩ := join2 hP hD hk1 hFc hP1 hD1
  obtain ⟨T8, eT8⟩ : ∃ T, T = T7 ++ wl (rng 276 21) AC a8 μz := ⟨_, rfl⟩
  have hP : va_P D cl ((h0, .inr (0, [.ref q1, .ref q2, .ref q3, .ref q4, .ref q5, .ref q6, .ref q7, .int 0, .int 0, .int 0, .null, .null])) :: T8) H1 := by rw [eT8]; exact hP
  have hD : va_D A ((h0, .inr (0, [.ref q1, .ref q2, .ref q3, .ref q4, .ref q5, .ref q6, .ref q7, .int 0, .int 0, .int 0, .null, .null])) :: T8) := by rw [eT8]; exact hD
  have ha8 : a8 276 = q8 := hw
  refine va_putF (D := D) (ci := 0) (v := .ref q8) (C := "TypesInside") (T := fT0) (N := 12) hx hb hts clw0 fY0 fYok0 zn0 hown hK hP hD hS 0 rfl rfl 10 (by decide) (hts _ zw176) (fun _ h9 => h9) rfl hin rfl (ty := fY0 10) (fYok0 10 (by decide)) rfl rfl (Nat.le_of_ble_eq_true rfl) zd_TI_init_79 (fun H locs hP hD hS => ?_)
  have hP : va_P D cl ((h0, .inr (0, [.ref q1, .ref q2, .ref q3, .ref q4, .ref q5, .ref q6, .ref q7, .int 0, .int 0, .int 0, .ref q8, .null])) :: T8) H := hP
  have hD : va_D A ((h0, .inr (0, [.ref q1, .ref q2, .ref q3, .ref q4, .ref q5, .ref q6, .ref q7, .int 0, .int 0, .int 0, .ref q8, .null])) :: T8) := hD
  refine lv_aload_n hx hb zd_TI_init_82 rfl (lv_at hl 0 rfl) ?_
  have hP : va_P D cl (((h0, .inr (0, [.ref q1, .ref q2, .ref q3, .ref q4, .ref q5, .ref q6, .ref q7, .int 0, .int 0, .int 0, .ref q8, .null])) :: T8) ++ []) H := by rw [List.append_nil]; exact hP
  have hD : va_D A (((h0, .inr (0, [.ref q1, .ref q2, .ref q3, .ref q4, .ref q5, .ref q6, .ref q7, .int 0, .int 0, .int 0, .ref q8, .null])) :: T8) ++ []) := by rw [List.append_nil]; exact hD
  have hFc := free2 hD hS hA
  refine va_callr (va_runS (As := []) (rest := [.ref h0]) ⟨hx, hb, hml, hown, hts⟩ (c_TI_newShelves l D AC H.size 297 (by decide)) ⟨callB_of 0 hts (LW_gin zw148) rfl rfl rfl (hts _ zw1) (hts _ zw146) zh_TI_newShelves ⟨Nat.le_of_ble_eq_true rfl, Nat.le_of_ble_eq_true rfl⟩, hts _ zw147⟩ ⟨fun a U g mk q => by obtain ⟨q0, q1, qK⟩ := q; exact ⟨q0, q1, K6.same (u := U) (U := U.calling g mk a) rfl qK⟩, fun U hU hW => ⟨rfl, by rw [hU], hK6.warm hW⟩⟩ rfl rfl hl.1 rfl (lv_room (Nat.le_of_ble_eq_true rfl)) zd_TI_init_83 ⟨Nat.le_of_ble_eq_true rfl, Nat.le_of_ble_eq_true rfl⟩) hS (fun q _ h => hFc q h) hFc (fun a9 q9 t H1 locs ht hvm hw hB hz1 hk1 hS => ?_)
  obtain ⟨ha9, hP1, hD1⟩ := hB
  rw [ht] at hP1
  obtain ⟨hP, hD⟩ := join2 hP hD hk1 hFc hP1 hD1
  obtain ⟨T9, eT9⟩ : ∃ T, T = T8 ++ wl (rng 297 9) AC a9 μz := ⟨_, rfl⟩
  have hP : va_P D cl ((h0, .inr (0, [.ref q1, .ref q2, .ref q3, .ref q4, .ref q5, .ref q6, .ref q7, .int 0, .int 0, .int 0, .ref q8, .null])) :: T9) H1 := by rw [eT9]; exact hP
  have hD : va_D A ((h0, .inr (0, [.ref q1, .ref q2, .ref q3, .ref q4, .ref q5, .ref q6, .ref q7, .int 0, .int 0, .int 0, .ref q8, .null])) :: T9) := by rw [eT9]; exact hD
  refine va_putF (D := D) (ci := 0) (v := .ref q9) (C := "TypesInside") (T := fT0) (N := 12) hx hb hts clw0 fY0 fYok0 zn0 hown hK hP hD hS 0 rfl rfl 11 (by decide) (hts _ zw177) (fun _ h9 => h9) rfl hin rfl (ty := fY0 11) (fYok0 11 (by decide)) rfl rfl (Nat.le_of_ble_eq_true rfl) zd_TI_init_86 (fun H locs hP hD hS => ?_)
  have hP : va_P D cl ((h0, .inr (0, [.ref q1, .ref q2, .ref q3, .ref q4, .ref q5, .ref q6, .ref q7, .int 0, .int 0, .int 0, .ref q8, .ref q9])) :: T9) H := hP
  have hD : va_D A ((h0, .inr (0, [.ref q1, .ref q2, .ref q3, .ref q4, .ref q5, .ref q6, .ref q7, .int 0, .int 0, .int 0, .ref q8, .ref q9])) :: T9) := hD
  refine lv_aload_n hx hb zd_TI_init_89 rfl (lv_at hl 0 rfl) ?_
  refine lv_iconst (v := (0 : Int32)) hx hb zd_TI_init_90 (by decide) ?_
  refine va_put (D := D) (ci := 0) (v := .int (0 : Int32)) (C := "TypesInside") (T := fT0) (N := 12) hx hb hts clw0 fY0 fYok0 zn0 hown hK hP hD hS 0 rfl rfl 7 (by decide) (hts _ zw173) (fun _ h9 => h9) rfl (ty := fY0 7) (fYok0 7 (by decide)) rfl rfl (Nat.le_of_ble_eq_true rfl) zd_TI_init_91 (fun H locs hP hD hS => ?_)
  have hP : va_P D cl ((h0, .inr (0, [.ref q1, .ref q2, .ref q3, .ref q4, .ref q5, .ref q6, .ref q7, .int (0 : Int32), .int 0, .int 0, .ref q8, .ref q9])) :: T9) H := hP
  have hD : va_D A ((h0, .inr (0, [.ref q1, .ref q2, .ref q3, .ref q4, .ref q5, .ref q6, .ref q7, .int (0 : Int32), .int 0, .int 0, .ref q8, .ref q9])) :: T9) := hD
  refine lv_aload_n hx hb zd_TI_init_94 rfl (lv_at hl 0 rfl) ?_
  refine lv_iconst (v := (0 : Int32)) hx hb zd_TI_init_95 (by decide) ?_
  refine va_put (D := D) (ci := 0) (v := .int (0 : Int32)) (C := "TypesInside") (T := fT0) (N := 12) hx hb hts clw0 fY0 fYok0 zn0 hown hK hP hD hS 0 rfl rfl 8 (by decide) (hts _ zw174) (fun _ h9 => h9) rfl (ty := fY0 8) (fYok0 8 (by decide)) rfl rfl (Nat.le_of_ble_eq_true rfl) zd_TI_init_96 (fun H locs hP hD hS => ?_)
  have hP : va_P D cl ((h0, .inr (0, [.ref q1, .ref q2, .ref q3, .ref q4, .ref q5, .ref q6, .ref q7, .int (0 : Int32), .int (0 : Int32), .int 0, .ref q8, .ref q9])) :: T9) H := hP
  have hD : va_D A ((h0, .inr (0, [.ref q1, .ref q2, .ref q3, .ref q4, .ref q5, .ref q6, .ref q7, .int (0 : Int32), .int (0 : Int32), .int 0, .ref q8, .ref q9])) :: T9) := hD
  refine lv_aload_n hx hb zd_TI_init_99 rfl (lv_at hl 0 rfl) ?_
  refine lv_iconst (v := (2 : Int32)) hx hb zd_TI_init_100 (by decide) ?_
  refine va_put (D := D) (ci := 0) (v := .int (2 : Int32)) (C := "TypesInside") (T := fT0) (N := 12) hx hb hts clw0 fY0 fYok0 zn0 hown hK hP hD hS 0 rfl rfl 9 (by decide) (hts _ zw175) (fun _ h9 => h9) rfl (ty := fY0 9) (fYok0 9 (by decide)) rfl rfl (Nat.le_of_ble_eq_true rfl) zd_TI_init_101 (fun H locs hP hD hS => ?_)
  have hP : va_P D cl ((h0, .inr (0, [.ref q1, .ref q2, .ref q3, .ref q4, .ref q5, .ref q6, .ref q7, .int (0 : Int32), .int (0 : Int32), .int (2 : Int32), .ref q8, .ref q9])) :: T9) H := hP
  have hD : va_D A ((h0, .inr (0, [.ref q1, .ref q2, .ref q3, .ref q4, .ref q5, .ref q6, .ref q7, .int (0 : Int32), .int (0 : Int32), .int (2 : Int32), .ref q8, .ref q9])) :: T9) := hD
  obtain ⟨ad, ead⟩ : ∃ ad : Nat → Nat, ad = fun k => if k < 1 then h0 else if k < 61 then a1 k else if k < 69 then a2 k else if k < 244 then a3 k else if k < 265 then a4 k else if k < 274 then a5 k else if k < 275 then q6 else if k < 276 then q7 else if k < 297 then a8 k else a9 k := ⟨_, rfl⟩
  have had : ad (0) = h0 := by rw [ead]; exact if_pos (by omega)
  have g0 : ∀ k, 1 ≤ k → k < 1 + 60 → ad k = a1 k := fun k k1 k2 => by rw [ead]; show (if _ then _ else _) = _; rw [if_neg (by omega), if_pos (by omega)]
  have g1 : ∀ k, 61 ≤ k → k < 61 + 8 → ad k = a2 k := fun k k1 k2 => by rw [ead]; show (if _ then _ else _) = _; rw [if_neg (by omega), if_neg (by omega), if_pos (by omega)]
  have g2 : ∀ k, 69 ≤ k → k < 69 + 175 → ad k = a3 k := fun k k1 k2 => by rw [ead]; show (if _ then _ else _) = _; rw [if_neg (by omega), if_neg (by omega), if_neg (by omega), if_pos (by omega)]
  have g3 : ∀ k, 244 ≤ k → k < 244 + 21 → ad k = a4 k := fun k k1 k2 => by rw [ead]; show (if _ then _ else _) = _; rw [if_neg (by omega), if_neg (by omega), if_neg (by omega), if_neg (by omega), if_pos (by omega)]
  have g4 : ∀ k, 265 ≤ k → k < 265 + 9 → ad k = a5 k := fun k k1 k2 => by rw [ead]; show (if _ then _ else _) = _; rw [if_neg (by omega), if_neg (by omega), if_neg (by omega), if_neg (by omega), if_neg (by omega), if_pos (by omega)]
  have g5 : ad (274) = q6 := by rw [ead]; show (if _ then _ else _) = _; rw [if_neg (by omega), if_neg (by omega), if_neg (by omega), if_neg (by omega), if_neg (by omega), if_neg (by omega), if_pos (by omega)]
  have g6 : ad (275) = q7 := by rw [ead]; show (if _ then _ else _) = _; rw [if_neg (by omega), if_neg (by omega), if_neg (by omega), if_neg (by omega), if_neg (by omega), if_neg (by omega), if_neg (by omega), if_pos (by omega)]
  have g7 : ∀ k, 276 ≤ k → k < 276 + 21 → ad k = a8 k := fun k k1 k2 => by rw [ead]; show (if _ then _ else _) = _; rw [if_neg (by omega), if_neg (by omega), if_neg (by omega), if_neg (by omega), if_neg (by omega), if_neg (by omega), if_neg (by omega), if_neg (by omega), if_pos (by omega)]
  have g8 : ∀ k, 297 ≤ k → k < 297 + 9 → ad k = a9 k := fun k k1 k2 => by rw [ead]; show (if _ then _ else _) = _; rw [if_neg (by omega), if_neg (by omega), if_neg (by omega), if_neg (by omega), if_neg (by omega), if_neg (by omega), if_neg (by omega), if_neg (by omega), if_neg (by omega)]
  have hPT := P_tl hP
  rw [eT9] at hPT
  have p8 := P_r hPT
  have hPT := P_l hPT
  rw [eT8] at hPT
  have p7 := P_r hPT
  have hPT := P_l hPT
  rw [eT7] at hPT
  have p6 := P_r hPT
  have hPT := P_l hPT
  rw [eT6] at hPT
  have p5 := P_r hPT
  have hPT := P_l hPT
  rw [eT5] at hPT
  have p4 := P_r hPT
  have hPT := P_l hPT
  rw [eT4] at hPT
  have p3 := P_r hPT
  have hPT := P_l hPT
  rw [eT3] at hPT
  have p2 := P_r hPT
  have hPT := P_l hPT
  rw [eT2] at hPT
  have p1 := P_r hPT
  have hPT := P_l hPT
  rw [eT1] at hPT
  have p0 := P_r hPT
  have hPT := P_l hPT
  have P0 : va_P D cl (wl (rng (1) 0) AC ad μz) H := P_0
  have m0 : T0.map (fun x => x.1) = (rng (1) 0).map ad := by rw [eT0]; rfl
  have P1 : va_P D cl (wl (rng (1) 60) AC ad μz) H := P_step P0 (wl_mv zc_1_60 g0 p0)
  have m1 : T1.map (fun x => x.1) = (rng (1) 60).map ad := m_step m0 eT1 (blk_m g0)
  have P2 : va_P D cl (wl (rng (1) 68) AC ad μz) H := P_step P1 (wl_mv zc_61_8 g1 p1)
  have m2 : T2.map (fun x => x.1) = (rng (1) 68).map ad := m_step m1 eT2 (blk_m g1)
  have P3 : va_P D cl (wl (rng (1) 243) AC ad μz) H := P_step P2 (wl_mv zc_69_175 g2 p2)
  have m3 : T3.map (fun x => x.1) = (rng (1) 243).map ad := m_step m2 eT3 (blk_m g2)
  have P4 : va_P D cl (wl (rng (1) 264) AC ad μz) H := P_step P3 (wl_mv zc_244_21 g3 p3)
  have m4 : T4.map (fun x => x.1) = (rng (1) 264).map ad := m_step m3 eT4 (blk_m g3)
  have P5 : va_P D cl (wl (rng (1) 273) AC ad μz) H := P_step P4 (wl_mv zc_265_9 g4 p4)
  have m5 : T5.map (fun x => x.1) = (rng (1) 273).map ad := m_step m4 eT5 (blk_m g4)
  have P6 : va_P D cl (wl (rng (1) 274) AC ad μz) H := P_step P5 (one_P g5 ((cE_l (k := 274) rfl)) p5)
  have m6 : T6.map (fun x => x.1) = (rng (1) 274).map ad := m_step m5 eT6 (one_m g5)
  have P7 : va_P D cl (wl (rng (1) 275) AC ad μz) H := P_step P6 (one_P g6 ((cE_i (k := 275) rfl)) p6)
  have m7 : T7.map (fun x => x.1) = (rng (1) 275).map ad := m_step m6 eT7 (one_m g6)
  have P8 : va_P D cl (wl (rng (1) 296) AC ad μz) H := P_step P7 (wl_mv zc_276_21 g7 p7)
  have m8 : T8.map (fun x => x.1) = (rng (1) 296).map ad := m_step m7 eT8 (blk_m g7)
  have P9 : va_P D cl (wl (rng (1) 305) AC ad μz) H := P_step P8 (wl_mv zc_297_9 g8 p8)
  have m9 : T9.map (fun x => x.1) = (rng (1) 305).map ad := m_step m8 eT9 (blk_m g8)
  have hfl : fl ad 0 (0) (cN 0) (μz.1 (0)) = [.ref q1, .ref q2, .ref q3, .ref q4, .ref q5, .ref q6, .ref q7, .int (0 : Int32), .int (0 : Int32), .int (2 : Int32), .ref q8, .ref q9] := by
    show ([.ref (ad (1)), .ref (ad (61)), .ref (ad (69)), .ref (ad (244)), .ref (ad (265)), .ref (ad (274)), .ref (ad (275)), .int (0 : Int32), .int (0 : Int32), .int (2 : Int32), .ref (ad (276)), .ref (ad (297))] : List Value) = _
    rw [(g0 1 (by omega) (by omega)).trans ha1]
    rw [(g1 61 (by omega) (by omega)).trans ha2]
    rw [(g2 69 (by omega) (by omega)).trans ha3]
    rw [(g3 244 (by omega) (by omega)).trans ha4]
    rw [(g4 265 (by omega) (by omega)).trans ha5]
    rw [g5]
    rw [g6]
    rw [(g7 276 (by omega) (by omega)).trans ha8]
    rw [(g8 297 (by omega) (by omega)).trans ha9]
  have hPf : va_P D cl (wl (rng (0) 306) AC ad μz) H := head_P (n := 305) (show shK 0 = 10 + 0 from rfl) hfl had hP P9
  have hDf : va_D A (wl (rng (0) 306) AC ad μz) := head_D (n := 305) had hD m9
  refine W.widen (k := 305) (n := 9667) (Nat.le_of_ble_eq_true rfl) (Nat.le_of_ble_eq_true rfl) ?_
  exact W.vret hx hb hr (fun t ht hW => ⟨⟨ad, rfl, had, by rw [ht]; exact hPf, hDf⟩, hS.F ht⟩) hS.2.2 zd_TI_init_104
