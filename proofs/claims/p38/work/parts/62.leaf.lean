theorem zw109 : Jvm.Cond.methodLink "TypesInside$Mix" 1 ⟨"java/lang/Object", "<init>", "()V"⟩ ∈ LW := lc1 109 rfl rfl
theorem zw17 : Jvm.Cond.instanceMethod ⟨"java/lang/Object", "<init>", "()V"⟩ ∈ LW := lc1 17 rfl rfl
theorem zw18 : Jvm.Cond.code ⟨"java/lang/Object", "<init>", "()V"⟩ object_method_1_code 1 none ∈ LW := lc1 18 rfl rfl
theorem zw110 : Jvm.Cond.classLink "TypesInside$Mix" 11 "[[J" ∈ LW := lc1 110 rfl rfl
theorem zw46 : Jvm.Cond.arrayClass FieldType.long ∈ LW := lc1 46 rfl rfl
theorem zw111 : Jvm.Cond.fieldLink "TypesInside$Mix" 13 "TypesInside$Mix" "rows" "[[J" ∈ LW := lc1 111 rfl rfl
theorem zw155 : Jvm.Cond.methodLink "TypesInside$Shelf" 1 ⟨"java/lang/Object", "<init>", "()V"⟩ ∈ LW := lc1 155 rfl rfl
theorem zw156 : Jvm.Cond.fieldLink "TypesInside$Shelf" 9 "TypesInside$Shelf" "sort" "I" ∈ LW := lc1 156 rfl rfl
theorem zw157 : Jvm.Cond.fieldLink "TypesInside$Shelf" 13 "TypesInside$Shelf" "size" "I" ∈ LW := lc1 157 rfl rfl
theorem zw93 : Jvm.Cond.arrayClass FieldType.int ∈ LW := lc1 93 rfl rfl
theorem zw158 : Jvm.Cond.fieldLink "TypesInside$Shelf" 16 "TypesInside$Shelf" "places" "[I" ∈ LW := lc1 158 rfl rfl
theorem zw103 : Jvm.Cond.classLink "TypesInside$Sums" 35 "TypesInside$Mix" ∈ LW := lc1 103 rfl rfl
theorem zw105 : Jvm.Cond.instantiable "TypesInside$Mix" 1 ∈ LW := lc1 105 rfl rfl
theorem zw5 : Jvm.Cond.initialized "TypesInside$Mix" ∈ LW := lc1 5 rfl rfl
theorem zw108 : Jvm.Cond.code ⟨"TypesInside$Mix", "<init>", "()V"⟩ prog_5_method_1_code 1 none ∈ LW := lc1 108 rfl rfl
theorem zh_Mi_init : (⟨"TypesInside$Mix", "<init>", "()V"⟩ : MethodName).cls ≠ "java/lang/invoke/MethodHandle" ∧ (⟨"TypesInside$Mix", "<init>", "()V"⟩ : MethodName).cls ≠ "java/lang/invoke/VarHandle" ∧ (parseMethodDescriptor (⟨"TypesInside$Mix", "<init>", "()V"⟩ : MethodName).desc).map (fun d => d.parameters.length) = some 0 := by decide +kernel
theorem zw107 : Jvm.Cond.instanceMethod ⟨"TypesInside$Mix", "<init>", "()V"⟩ ∈ LW := lc1 107 rfl rfl
theorem zw149 : Jvm.Cond.classLink "TypesInside" 53 "TypesInside$Shelf" ∈ LW := lc1 149 rfl rfl
theorem zw151 : Jvm.Cond.instantiable "TypesInside$Shelf" 3 ∈ LW := lc1 151 rfl rfl
theorem zw6 : Jvm.Cond.initialized "TypesInside$Shelf" ∈ LW := lc1 6 rfl rfl
theorem zw154 : Jvm.Cond.code ⟨"TypesInside$Shelf", "<init>", "()V"⟩ prog_7_method_1_code 1 none ∈ LW := lc1 154 rfl rfl
theorem zh_Sh_init : (⟨"TypesInside$Shelf", "<init>", "()V"⟩ : MethodName).cls ≠ "java/lang/invoke/MethodHandle" ∧ (⟨"TypesInside$Shelf", "<init>", "()V"⟩ : MethodName).cls ≠ "java/lang/invoke/VarHandle" ∧ (parseMethodDescriptor (⟨"TypesInside$Shelf", "<init>", "()V"⟩ : MethodName).desc).map (fun d => d.parameters.length) = some 0 := by decide +kernel
theorem zw153 : Jvm.Cond.instanceMethod ⟨"TypesInside$Shelf", "<init>", "()V"⟩ ∈ LW := lc1 153 rfl rfl
theorem zw52 : Jvm.Cond.methodLink "TypesInside$Group" 1 ⟨"java/lang/Object", "<init>", "()V"⟩ ∈ LW := lc1 52 rfl rfl
theorem zw53 : Jvm.Cond.fieldLink "TypesInside$Group" 7 "TypesInside$Group" "held" "I" ∈ LW := lc1 53 rfl rfl
theorem zw54 : Jvm.Cond.fieldLink "TypesInside$Group" 13 "TypesInside$Group" "prime" "I" ∈ LW := lc1 54 rfl rfl
theorem zw55 : Jvm.Cond.fieldLink "TypesInside$Group" 16 "TypesInside$Group" "many" "I" ∈ LW := lc1 55 rfl rfl
theorem zw56 : Jvm.Cond.fieldLink "TypesInside$Group" 19 "TypesInside$Group" "parts" "I" ∈ LW := lc1 56 rfl rfl
theorem zw57 : Jvm.Cond.fieldLink "TypesInside$Group" 24 "TypesInside$Group" "rounds" "[I" ∈ LW := lc1 57 rfl rfl
theorem zw58 : Jvm.Cond.fieldLink "TypesInside$Group" 28 "TypesInside$Group" "units" "[I" ∈ LW := lc1 58 rfl rfl
theorem zw59 : Jvm.Cond.fieldLink "TypesInside$Group" 31 "TypesInside$Group" "sums" "[I" ∈ LW := lc1 59 rfl rfl
theorem zw60 : Jvm.Cond.fieldLink "TypesInside$Group" 34 "TypesInside$Group" "raised" "[I" ∈ LW := lc1 60 rfl rfl
theorem zw61 : Jvm.Cond.fieldLink "TypesInside$Group" 37 "TypesInside$Group" "listKnown" "Z" ∈ LW := lc1 61 rfl rfl
theorem zw62 : Jvm.Cond.fieldLink "TypesInside$Group" 41 "TypesInside$Group" "listLength" "I" ∈ LW := lc1 62 rfl rfl
theorem zw63 : Jvm.Cond.fieldLink "TypesInside$Group" 44 "TypesInside$Group" "list" "[J" ∈ LW := lc1 63 rfl rfl
theorem zw64 : Jvm.Cond.fieldLink "TypesInside$Group" 48 "TypesInside$Group" "types" "[I" ∈ LW := lc1 64 rfl rfl
theorem zw65 : Jvm.Cond.fieldLink "TypesInside$Group" 51 "TypesInside$Group" "cotypes" "[I" ∈ LW := lc1 65 rfl rfl
theorem zn0 : ∀ a, a < 12 → ∀ b, b < 12 → a ≠ b → (fT0 a).2.1 ≠ (fT0 b).2.1 := by decide +kernel
theorem zn1 : ∀ a, a < 5 → ∀ b, b < 5 → a ≠ b → (fT1 a).2.1 ≠ (fT1 b).2.1 := by decide +kernel
theorem zn2 : ∀ a, a < 13 → ∀ b, b < 13 → a ≠ b → (fT2 a).2.1 ≠ (fT2 b).2.1 := by decide +kernel
theorem zn3 : ∀ a, a < 1 → ∀ b, b < 1 → a ≠ b → (fT3 a).2.1 ≠ (fT3 b).2.1 := by decide +kernel
theorem zn4 : ∀ a, a < 3 → ∀ b, b < 3 → a ≠ b → (fT4 a).2.1 ≠ (fT4 b).2.1 := by decide +kernel
theorem zn5 : ∀ a, a < 9 → ∀ b, b < 9 → a ≠ b → (fT5 a).2.1 ≠ (fT5 b).2.1 := by decide +kernel
def mixB : List Nat := [72, 93, 114, 136, 157, 178, 201, 222, 244, 276]
theorem mixB_ok : ∀ b, b ∈ mixB → (shK b = 10 + 3 ∧ sub b 0 = b + 1) ∧ (shK (b + 1) = 3 ∧ shN (b + 1) = 19) ∧ (∀ j, j < 19 → sub (b + 1) j = b + 1 + 1 + j) ∧ (∀ i, i < 19 → shK (b + 1 + 1 + i) = 1 ∧ shN (b + 1 + 1 + i) = 31) ∧ 39 < b := by decide +kernel
def shB2 : List Nat := [266, 268, 270, 272, 298, 300, 302, 304]
theorem shB_ok : ∀ b, b ∈ shB2 → (shK b = 10 + 4 ∧ sub b 2 = b + 1) ∧ (Zi b 0 = (-1 : Int32) ∧ Zi b 1 = (0 : Int32)) ∧ shK (b + 1) = 0 ∧ shN (b + 1) = 20 := by decide +kernel
theorem Zi_0 : ∀ k, shK k = 0 → k ≠ 0 → k ≠ 61 → Zi k = fun _ => (0 : Int32) := fun k h1 h2 h3 => by
  have h4 : k ≠ 306 := fun z => by rw [z] at h1; exact absurd h1 (by decide)
  funext j
  have e : isO k 4 = false := by unfold isO; rw [h1]; rfl
  unfold Zi
  rw [show Nat.beq k 0 = false by rw [← Bool.not_eq_true, Nat.beq_eq]; exact h2, show Nat.beq k 61 = false by rw [← Bool.not_eq_true, Nat.beq_eq]; exact h3, show Nat.beq k 306 = false by rw [← Bool.not_eq_true, Nat.beq_eq]; exact h4, e]
  rfl
theorem zd_Mi_init_0 : decode prog_5_method_1_code 0 = .ok (.aload_n 0, 1) := by decide +kernel
theorem zd_Mi_init_1 : decode prog_5_method_1_code 1 = .ok (.invokespecial 1, 3) := by decide +kernel
theorem zd_Mi_init_4 : decode prog_5_method_1_code 4 = .ok (.aload_n 0, 1) := by decide +kernel
theorem zd_Mi_init_5 : decode prog_5_method_1_code 5 = .ok (.bipush 19, 2) := by decide +kernel
theorem zd_Mi_init_7 : decode prog_5_method_1_code 7 = .ok (.bipush 31, 2) := by decide +kernel
theorem zd_Mi_init_9 : decode prog_5_method_1_code 9 = .ok (.multianewarray 11 2, 4) := by decide +kernel
theorem zd_Mi_init_13 : decode prog_5_method_1_code 13 = .ok (.putfield 13, 3) := by decide +kernel
theorem zd_Mi_init_16 : decode prog_5_method_1_code 16 = .ok (.return_, 1) := by decide +kernel
set_option maxHeartbeats 4000000 in
theorem c_Mi_init (l : Launch) (D : va_G) (AC : Nat → ClassId) (h0 sz : Nat) (b : Nat) (hbb : b ∈ mixB) : Met l ⟨"TypesInside$Mix", "<init>", "()V"⟩ (ws_ ⟨"TypesInside$Mix", "<init>", "()V"⟩ prog_5_method_1_code 1 none) ({ frames := 1, cells := 20, slots := 608, locals := 32 }) (va_Pc [.ref h0] (fun U => U.heap.size = sz ∧ va_P D cl [(h0, .inr (3, [.null]))] U.heap ∧ K6 D AC U ∧ va_D (fun _ => True) [(h0, .inr (3, [.null]))])) (va_Qv (fun ad : Nat → Nat => ad (b) = h0) (fun ad t => va_P D cl (wl (rng (b) 21) AC ad μz) t.heap ∧ va_D (va_A [(h0, .inr (3, [.null]))] sz) (wl (rng (b) 21) AC ad μz)) (va_A [(h0, .inr (3, [.null]))] sz)) 20 608 (va_A [(h0, .inr (3, [.null]))] sz) := by
  refine Met.ofW (cc := prog_5_method_1_code) (maxL := 1) (ret := none) (by decide) rfl ?_
  intro p e s m args below meth c s₁ B hml hv
  obtain ⟨rfl, hsz, hP, hK6, hD0⟩ := hv
  have hK := hK6.1
  have hx := B.exec
  have hb := B.bytes
  have hr := B.returns
  have hts0 := atoms_spec (ws := ws_ ⟨"TypesInside$Mix", "<init>", "()V"⟩ prog_5_method_1_code 1 none) B.pre
  have hts : ∀ w ∈ LW, w.before _ s = true := fun w hw => hts0 w (List.mem_cons_of_mem _ hw)
  have hown : s.vm.findClass "TypesInside$Mix" = some m.cls := findClass_of_methodNamed B.named
  have hlocks := B.notSynchronized
  have hin : meth.name = "<init>" := (name_of_methodNamed B.named B.method).1
  subst hsz
  have hD := hD0.self (sz := s.heap.size)
  generalize hAe : va_A [(h0, .inr (3, [.null]))] s.heap.size = A at hD ⊢
  have hA : ∀ q : Nat, s.heap.size ≤ q → A q := fun q h => by rw [← hAe]; exact Or.inr h
  have hS : va_S A s.heap s.heap [] := va_S.rf
  have hl := lv_entry ([.ref h0]) (n := 1) (Nat.le_of_ble_eq_true rfl)
  rw [lg_entry_eq]
  generalize (lg_sl ([.ref h0]) ++ List.replicate (1 - (lg_sl ([.ref h0])).length) Slot.unset).toArray = ls at hl ⊢
  have hl : lv_has ls 1 [(0, .ref h0)] := hl
  obtain ⟨T0, eT0⟩ : ∃ T : va_W, T = [] := ⟨_, rfl⟩
  have hP : va_P D cl ((h0, .inr (3, [.null])) :: T0) s.heap := by rw [eT0]; exact hP
  have hD : va_D A ((h0, .inr (3, [.null])) :: T0) := by rw [eT0]; exact hD
  refine lv_aload_n hx hb zd_Mi_init_0 rfl (lv_at hl 0 rfl) ?_
  refine W.objInit hx hb hown (hts _ zw109) (hts _ zw17) (hts _ zw18) rfl (by rw [hml]; exact hl.1) rfl zd_Mi_init_1 (Nat.le_of_ble_eq_true rfl) (Nat.le_of_ble_eq_true rfl) ?_
  refine W.eq (g2 := F0 m 4 ls []) rfl ?_
  refine lv_aload_n hx hb zd_Mi_init_4 rfl (lv_at hl 0 rfl) ?_
  refine lv_bipush (v := (19 : Int32)) hx hb zd_Mi_init_5 (by decide) ?_
  refine lv_bipush (v := (31 : Int32)) hx hb zd_Mi_init_7 (by decide) ?_
  have hcl1 : (Jvm.Cond.classLink "TypesInside$Mix" 11 ("[" ++ (FieldType.array .long).toString)).before _ s = true := hts _ (show Jvm.Cond.classLink "TypesInside$Mix" 11 ("[" ++ (FieldType.array .long).toString) ∈ LW from (by decide : "[" ++ (FieldType.array .long).toString = "[[J") ▸ zw110)
  refine va_mna (X := (h0, .inr (3, [.null])) :: T0) (L := []) (f := fun _ => .inl (AC 1, 31, .inr (.inl (fun _ => (0 : Int64))))) (ty := .long) (cy := AC 1) hx hb hown hcl1 hK6.2.1 (hts _ zw46) (hK.2 1 _ rfl).2 hK (by rw [show va_pl [] _ = [] from rfl, List.append_nil]; exact hP) (by rw [show va_pl [] _ = [] from rfl, List.append_nil]; exact hD) hS hA (n := 19) (k := 31) (N' := 19) (K' := 31) (z := (31, .inr (.inl (fun _ => (0 : Int64))))) (by decide) (by decide) (by decide) (by decide) (Nat.le_of_ble_eq_true rfl) (Nat.le_of_ble_eq_true rfl) (Nat.le_of_ble_eq_true rfl) rfl rfl (Nat.le_of_ble_eq_true rfl) (Nat.le_of_ble_eq_true rfl) (fun c => by show ({ cls := c, slots := Array.replicate 31 _, vm := .none } : Cell) = _; rw [arrV_new]; rfl) zd_Mi_init_9 (fun q1 r1 cA H hri hrl hK1 hP hD hS => ?_)
  obtain rfl := K_new 3 hK1 rfl
  rw [mna_list] at hP hD
  obtain ⟨T1, eT1⟩ : ∃ T, T = T0 ++ ((q1, .inl (AC 3, 19, .inr (.inr (.inr (.inr (fun i => if i < 19 then some (r1 i) else none)))))) :: (List.range 19).map fun i => (r1 i, .inl (AC 1, 31, .inr (.inl (fun _ => (0 : Int64)))))) := ⟨_, rfl⟩
  have hP : va_P D cl ((h0, .inr (3, [.null])) :: T1) H := by rw [eT1]; exact hP
  have hD : va_D A ((h0, .inr (3, [.null])) :: T1) := by rw [eT1]; exact hD
  refine va_putF (D := D) (ci := 3) (v := .ref q1) (C := "TypesInside$Mix") (T := fT3) (N := 1) hx hb hts clw3 fY3 fYok3 zn3 hown hK hP hD hS 0 rfl rfl 0 (by decide) (hts _ zw111) (fun _ h9 => h9) rfl hin rfl (ty := fY3 0) (fYok3 0 (by decide)) rfl rfl (Nat.le_of_ble_eq_true rfl) zd_Mi_init_13 (fun H locs hP hD hS => ?_)
  have hP : va_P D cl ((h0, .inr (3, [.ref q1])) :: T1) H := hP
  have hD : va_D A ((h0, .inr (3, [.ref q1])) :: T1) := hD
  obtain ⟨ad, ead⟩ : ∃ ad : Nat → Nat, ad = fun k => if k < b + 1 then h0 else (if k = b + 1 then q1 else r1 (k - (b + 2))) := ⟨_, rfl⟩
  have had : ad (b) = h0 := by rw [ead]; exact if_pos (by omega)
  have g0 : ad (b + 1) = q1 := by rw [ead]; show (if _ then _ else _) = _; rw [if_neg (by omega), if_pos rfl]
  have gr0 : ∀ i, i < 19 → ad (b + 1 + 1 + i) = r1 i := fun i hi => by rw [ead]; show (if _ then _ else _) = _; rw [if_neg (by omega), if_neg (by omega), show b + 1 + 1 + i - (b + 2) = i by omega]
  have hPT := P_tl hP
  rw [eT1] at hPT
  have p0 := P_r hPT
  have hPT := P_l hPT
  have P0 : va_P D cl (wl (rng (b + 1) 0) AC ad μz) H := P_0
  have m0 : T0.map (fun x => x.1) = (rng (b + 1) 0).map ad := by rw [eT0]; rfl
  have P1 : va_P D cl (wl (rng (b + 1) 20) AC ad μz) H := P_step P0 (mna_P (n := 19) (k := 31) (a := b + 1) g0 gr0 (mixB_ok b hbb).2.1.1 (mixB_ok b hbb).2.1.2 (mixB_ok b hbb).2.2.1 (mixB_ok b hbb).2.2.2.1 (fun i _ => Zl_0 (by have := (mixB_ok b hbb).2.2.2.2; omega)) p0)
  have m1 : T1.map (fun x => x.1) = (rng (b + 1) 20).map ad := m_step m0 eT1 (mna_m g0 gr0)
  have hfl : fl ad 3 (b) (cN 3) (μz.1 (b)) = [.ref q1] := by
    show ([.ref (ad (sub b 0))] : List Value) = _
    rw [(mixB_ok b hbb).1.2]
    rw [g0]
  have hPf : va_P D cl (wl (rng (b) 21) AC ad μz) H := head_P (n := 20) ((mixB_ok b hbb).1.1) hfl had hP P1
  have hDf : va_D A (wl (rng (b) 21) AC ad μz) := head_D (n := 20) had hD m1
  refine W.widen (k := 20) (n := 608) (Nat.le_of_ble_eq_true rfl) (Nat.le_of_ble_eq_true rfl) ?_
  exact W.vret hx hb hr (fun t ht hW => ⟨⟨ad, rfl, had, by rw [ht]; exact hPf, hDf⟩, hS.F ht⟩) hS.2.2 zd_Mi_init_16
theorem zd_Sh_init_0 : decode prog_7_method_1_code 0 = .ok (.aload_n 0, 1) := by decide +kernel
theorem zd_Sh_init_1 : decode prog_7_method_1_code 1 = .ok (.invokespecial 1, 3) := by decide +kernel
theorem zd_Sh_init_4 : decode prog_7_method_1_code 4 = .ok (.aload_n 0, 1) := by decide +kernel
theorem zd_Sh_init_5 : decode prog_7_method_1_code 5 = .ok (.iconst (-1), 1) := by decide +kernel
theorem zd_Sh_init_6 : decode prog_7_method_1_code 6 = .ok (.putfield 9, 3) := by decide +kernel
theorem zd_Sh_init_9 : decode prog_7_method_1_code 9 = .ok (.aload_n 0, 1) := by decide +kernel
theorem zd_Sh_init_10 : decode prog_7_method_1_code 10 = .ok (.iconst 0, 1) := by decide +kernel
theorem zd_Sh_init_11 : decode prog_7_method_1_code 11 = .ok (.putfield 13, 3) := by decide +kernel
theorem zd_Sh_init_14 : decode prog_7_method_1_code 14 = .ok (.aload_n 0, 1) := by decide +kernel
theorem zd_Sh_init_15 : decode prog_7_method_1_code 15 = .ok (.bipush 20, 2) := by decide +kernel
theorem zd_Sh_init_17 : decode prog_7_method_1_code 17 = .ok (.newarray .int, 2) := by decide +kernel
theorem zd_Sh_init_19 : decode prog_7_method_1_code 19 = .ok (.putfield 16, 3) := by decide +kernel
theorem zd_Sh_init_22 : decode prog_7_method_1_code 22 = .ok (.return_, 1) := by decide +kernel
set_option maxHeartbeats 4000000 in
theorem c_Sh_init (l : Launch) (D : va_G) (AC : Nat → ClassId) (h0 sz : Nat) (b : Nat) (hbb : b ∈ shB2) : Met l ⟨"TypesInside$Shelf", "<init>", "()V"⟩ (ws_ ⟨"TypesInside$Shelf", "<init>", "()V"⟩ prog_7_method_1_code 1 none) ({ frames := 1, cells := 1, slots := 20, locals := 32 }) (va_Pc [.ref h0] (fun U => U.heap.size = sz ∧ va_P D cl [(h0, .inr (4, [.int 0, .int 0, .null]))] U.heap ∧ K6 D AC U ∧ va_D (fun _ => True) [(h0, .inr (4, [.int 0, .int 0, .null]))])) (va_Qv (fun ad : Nat → Nat => ad (b) = h0) (fun ad t => va_P D cl (wl (rng (b) 2) AC ad μz) t.heap ∧ va_D (va_A [(h0, .inr (4, [.int 0, .int 0, .null]))] sz) (wl (rng (b) 2) AC ad μz)) (va_A [(h0, .inr (4, [.int 0, .int 0, .null]))] sz)) 1 20 (va_A [(h0, .inr (4, [.int 0, .int 0, .null]))] sz) := by
  refine Met.ofW (cc := prog_7_method_1_code) (maxL := 1) (ret := none) (by decide) rfl ?_
  intro p e s m args below meth c s₁ B hml hv
  obtain ⟨rfl, hsz, hP, hK6, hD0⟩ := hv
  have hK := hK6.1
  have hx := B.exec
  have hb := B.bytes
  have hr := B.returns
  have hts0 := atoms_spec (ws := ws_ ⟨"TypesInside$Shelf", "<init>", "()V"⟩ prog_7_method_1_code 1 none) B.pre
  have hts : ∀ w ∈ LW, w.before _ s = true := fun w hw => hts0 w (List.mem_cons_of_mem _ hw)
  have hown : s.vm.findClass "TypesInside$Shelf" = some m.cls := findClass_of_methodNamed B.named
  have hlocks := B.notSynchronized
  have hin : meth.name = "<init>" := (name_of_methodNamed B.named B.method).1
  subst hsz
  have hD := hD0.self (sz := s.heap.size)
  generalize hAe : va_A [(h0, .inr (4, [.int 0, .int 0, .null]))] s.heap.size = A at hD ⊢
  have hA : ∀ q : Nat, s.heap.size ≤ q → A q := fun q h => by rw [← hAe]; exact Or.inr h
  have hS : va_S A s.heap s.heap [] := va_S.rf
  have hl := lv_entry ([.ref h0]) (n := 1) (Nat.le_of_ble_eq_true rfl)
  rw [lg_entry_eq]
  generalize (lg_sl ([.ref h0]) ++ List.replicate (1 - (lg_sl ([.ref h0])).length) Slot.unset).toArray = ls at hl ⊢
  have hl : lv_has ls 1 [(0, .ref h0)] := hl
  obtain ⟨T0, eT0⟩ : ∃ T : va_W, T = [] := ⟨_, rfl⟩
  have hP : va_P D cl ((h0, .inr (4, [.int 0, .int 0, .null])) :: T0) s.heap := by rw [eT0]; exact hP
  have hD : va_D A ((h0, .inr (4, [.int 0, .int 0, .null])) :: T0) := by rw [eT0]; exact hD
  refine lv_aload_n hx hb zd_Sh_init_0 rfl (lv_at hl 0 rfl) ?_
  refine W.objInit hx hb hown (hts _ zw155) (hts _ zw17) (hts _ zw18) rfl (by rw [hml]; exact hl.1) rfl zd_Sh_init_1 (Nat.le_of_ble_eq_true rfl) (Nat.le_of_ble_eq_true rfl) ?_
  refine W.eq (g2 := F0 m 4 ls []) rfl ?_
  refine lv_aload_n hx hb zd_Sh_init_4 rfl (lv_at hl 0 rfl) ?_
  refine lv_iconst (v := (-1 : Int32)) hx hb zd_Sh_init_5 (by decide) ?_
  refine va_put (D := D) (ci := 4) (v := .int (-1 : Int32)) (C := "TypesInside$Shelf") (T := fT4) (N := 3) hx hb hts clw4 fY4 fYok4 zn4 hown hK hP hD hS 0 rfl rfl 0 (by decide) (hts _ zw156) (fun _ h9 => h9) rfl (ty := fY4 0) (fYok4 0 (by decide)) rfl rfl (Nat.le_of_ble_eq_true rfl) zd_Sh_init_6 (fun H locs hP hD hS => ?_)
  have hP : va_P D cl ((h0, .inr (4, [.int (-1 : Int32), .int 0, .null])) :: T0) H := hP
  have hD : va_D A ((h0, .inr (4, [.int (-1 : Int32), .int 0, .null])) :: T0) := hD
  refine lv_aload_n hx hb zd_Sh_init_9 rfl (lv_at hl 0 rfl) ?_
  refine lv_iconst (v := (0 : Int32)) hx hb zd_Sh_init_10 (by decide) ?_
  refine va_put (D := D) (ci := 4) (v := .int (0 : Int32)) (C := "TypesInside$Shelf") (T := fT4) (N := 3) hx hb hts clw4 fY4 fYok4 zn4 hown hK hP hD hS 0 rfl rfl 1 (by decide) (hts _ zw157) (fun _ h9 => h9) rfl (ty := fY4 1) (fYok4 1 (by decide)) rfl rfl (Nat.le_of_ble_eq_true rfl) zd_Sh_init_11 (fun H locs hP hD hS => ?_)
  have hP : va_P D cl ((h0, .inr (4, [.int (-1 : Int32), .int (0 : Int32), .null])) :: T0) H := hP
  have hD : va_D A ((h0, .inr (4, [.int (-1 : Int32), .int (0 : Int32), .null])) :: T0) := hD
  refine lv_aload_n hx hb zd_Sh_init_14 rfl (lv_at hl 0 rfl) ?_
  refine lv_bipush (v := (20 : Int32)) hx hb zd_Sh_init_15 (by decide) ?_
  refine va_newa (atype := .int) (ty := .int) hx hb (hts _ zw93) rfl hK hP hD hS hA (n := 20) (N' := 20) (a0 := (20, .inl (fun _ => (0 : Int32)))) (fun _ => rfl) (by decide) (by decide) (Nat.le_of_ble_eq_true rfl) (Nat.le_of_ble_eq_true rfl) (Nat.le_of_ble_eq_true rfl) zd_Sh_init_17 (fun q1 cA H hK1 hP hD hS => ?_)
  obtain rfl := K_new 0 hK1 rfl
  obtain ⟨T1, eT1⟩ : ∃ T, T = T0 ++ [(q1, .inl (AC 0, 20, .inl (fun _ => (0 : Int32))))] := ⟨_, rfl⟩
  have hP : va_P D cl ((h0, .inr (4, [.int (-1 : Int32), .int (0 : Int32), .null])) :: T1) H := by rw [eT1]; exact hP
  have hD : va_D A ((h0, .inr (4, [.int (-1 : Int32), .int (0 : Int32), .null])) :: T1) := by rw [eT1]; exact hD
  refine va_putF (D := D) (ci := 4) (v := .ref q1) (C := "TypesInside$Shelf") (T := fT4) (N := 3) hx hb hts clw4 fY4 fYok4 zn4 hown hK hP hD hS 0 rfl rfl 2 (by decide) (hts _ zw158) (fun _ h9 => h9) rfl hin rfl (ty := fY4 2) (fYok4 2 (by decide)) rfl rfl (Nat.le_of_ble_eq_true rfl) zd_Sh_init_19 (fun H locs hP hD hS => ?_)
  have hP : va_P D cl ((h0, .inr (4, [.int (-1 : Int32), .int (0 : Int32), .ref q1])) :: T1) H := hP
  have hD : va_D A ((h0, .inr (4, [.int (-1 : Int32), .int (0 : Int32), .ref q1])) :: T1) := hD
  obtain ⟨ad, ead⟩ : ∃ ad : Nat → Nat, ad = fun k => if k < b + 1 then h0 else q1 := ⟨_, rfl⟩
  have had : ad (b) = h0 := by rw [ead]; exact if_pos (by omega)
  have g0 : ad (b + 1) = q1 := by rw [ead]; show (if _ then _ else _) = _; rw [if_neg (by omega)]
  have hPT := P_tl hP
  rw [eT1] at hPT
  have p0 := P_r hPT
  have hPT := P_l hPT
  have P0 : va_P D cl (wl (rng (b + 1) 0) AC ad μz) H := P_0
  have m0 : T0.map (fun x => x.1) = (rng (b + 1) 0).map ad := by rw [eT0]; rfl
  have P1 : va_P D cl (wl (rng (b + 1) 1) AC ad μz) H := P_step P0 (one_P g0 (by rw [cE_i (shB_ok b hbb).2.2.1, (shB_ok b hbb).2.2.2, show μz.1 (b + 1) = _ from Zi_0 _ (shB_ok b hbb).2.2.1 (by omega) (fun z => by have := (shB_ok b hbb).1.1; rw [show b = 60 by omega] at this; exact absurd this (by decide))]) p0)
  have m1 : T1.map (fun x => x.1) = (rng (b + 1) 1).map ad := m_step m0 eT1 (one_m g0)
  have hfl : fl ad 4 (b) (cN 4) (μz.1 (b)) = [.int (-1 : Int32), .int (0 : Int32), .ref q1] := by
    show ([.int (μz.1 b 0), .int (μz.1 b 1), .ref (ad (sub b 2))] : List Value) = _
    rw [(shB_ok b hbb).1.2, show μz.1 b 0 = _ from (shB_ok b hbb).2.1.1, show μz.1 b 1 = _ from (shB_ok b hbb).2.1.2]
    rw [g0]
  have hPf : va_P D cl (wl (rng (b) 2) AC ad μz) H := head_P (n := 1) ((shB_ok b hbb).1.1) hfl had hP P1
  have hDf : va_D A (wl (rng (b) 2) AC ad μz) := head_D (n := 1) had hD m1
  refine W.widen (k := 1) (n := 20) (Nat.le_of_ble_eq_true rfl) (Nat.le_of_ble_eq_true rfl) ?_
  exact W.vret hx hb hr (fun t ht hW => ⟨⟨ad, rfl, had, by rw [ht]; exact hPf, hDf⟩, hS.F ht⟩) hS.2.2 zd_Sh_init_22
theorem zd_Su_newMixes_0 : decode prog_8_method_2_code 0 = .ok (.iconst 3, 1) := by decide +kernel
theorem zd_Su_newMixes_1 : decode prog_8_method_2_code 1 = .ok (.anewarray 35, 3) := by decide +kernel
theorem zd_Su_newMixes_4 : decode prog_8_method_2_code 4 = .ok (.astore_n 0, 1) := by decide +kernel
theorem zd_Su_newMixes_5 : decode prog_8_method_2_code 5 = .ok (.iconst 0, 1) := by decide +kernel
theorem zd_Su_newMixes_6 : decode prog_8_method_2_code 6 = .ok (.istore_n 1, 1) := by decide +kernel
theorem zd_Su_newMixes_7 : decode prog_8_method_2_code 7 = .ok (.iload_n 1, 1) := by decide +kernel
theorem zd_Su_newMixes_8 : decode prog_8_method_2_code 8 = .ok (.aload_n 0, 1) := by decide +kernel
theorem zd_Su_newMixes_9 : decode prog_8_method_2_code 9 = .ok (.arraylength, 1) := by decide +kernel
theorem zd_Su_newMixes_10 : decode prog_8_method_2_code 10 = .ok (.if_icmp .ge 19, 3) := by decide +kernel
theorem zd_Su_newMixes_13 : decode prog_8_method_2_code 13 = .ok (.aload_n 0, 1) := by decide +kernel
theorem zd_Su_newMixes_14 : decode prog_8_method_2_code 14 = .ok (.iload_n 1, 1) := by decide +kernel
theorem zd_Su_newMixes_15 : decode prog_8_method_2_code 15 = .ok (.new 35, 3) := by decide +kernel
theorem zd_Su_newMixes_18 : decode prog_8_method_2_code 18 = .ok (.dup, 1) := by decide +kernel
theorem zd_Su_newMixes_19 : decode prog_8_method_2_code 19 = .ok (.invokespecial 37, 3) := by decide +kernel
theorem zd_Su_newMixes_22 : decode prog_8_method_2_code 22 = .ok (.aastore, 1) := by decide +kernel
theorem zd_Su_newMixes_23 : decode prog_8_method_2_code 23 = .ok (.iinc 1 1, 3) := by decide +kernel
theorem zd_Su_newMixes_26 : decode prog_8_method_2_code 26 = .ok (.goto (-19), 3) := by decide +kernel
theorem zd_Su_newMixes_29 : decode prog_8_method_2_code 29 = .ok (.aload_n 0, 1) := by decide +kernel
theorem zd_Su_newMixes_30 : decode prog_8_method_2_code 30 = .ok (.areturn, 1) := by decide +kernel
theorem zs_Su_newMixes : ∀ b, b ∈ ([71, 135] : List Nat) → (shK b = 4 ∧ shN b = 3) ∧ ((b + 1 ∈ mixB ∧ shK (b + 1) = 10 + 3) ∧ (clo (b + 1) 21 = true ∧ sub b 0 = b + 1)) ∧ ((b + 22 ∈ mixB ∧ shK (b + 22) = 10 + 3) ∧ (clo (b + 22) 21 = true ∧ sub b 1 = b + 22)) ∧ ((b + 43 ∈ mixB ∧ shK (b + 43) = 10 + 3) ∧ (clo (b + 43) 21 = true ∧ sub b 2 = b + 43)) := by decide +kernel
set_option maxHeartbeats 4000000 in
theorem c_Su_newMixes (l : Launch) (D : va_G) (AC : Nat → ClassId) (sz b : Nat) (hbb : b ∈ ([71, 135] : List Nat)) : Met l ⟨"TypesInside$Sums", "newMixes", "()[LTypesInside$Mix;"⟩ (ws_ ⟨"TypesInside$Sums", "newMixes", "()[LTypesInside$Mix;"⟩ prog_8_method_2_code 2 (some (.array (.object "TypesInside$Mix")))) ({ frames := 2, cells := 64, slots := 1830, locals := 64 }) (va_Pc [] (fun U => U.heap.size = sz ∧ K6 D AC U)) (va_Qr (fun _ : Nat → Nat => True) (fun ad a t => ad b = a ∧ va_P D cl (wl (rng b 64) AC ad μz) t.heap ∧ va_D (va_A [] sz) (wl (rng b 64) AC ad μz)) (va_A [] sz)) 64 1830 (va_A [] sz) := by
  obtain ⟨⟨hkb, hNb⟩, ⟨⟨hm0, hob0⟩, hc0, hs0⟩, ⟨⟨hm1, hob1⟩, hc1, hs1⟩, ⟨⟨hm2, hob2⟩, hc2, hs2⟩⟩ := zs_Su_newMixes b hbb
  refine Met.ofW (cc := prog_8_method_2_code) (maxL := 2) (ret := (some (.array (.object "TypesInside$Mix")))) (by decide) rfl ?_
  intro p e s m args below meth c s₁ B hml hv
  obtain ⟨rfl, hsz, hK6⟩ := hv
  have hK := hK6.1
  have hx := B.exec
  have hb := B.bytes
  have hr := B.returns
  have hts0 := atoms_spec (ws := ws_ ⟨"TypesInside$Sums", "newMixes", "()[LTypesInside$Mix;"⟩ prog_8_method_2_code 2 (some (.array (.object "TypesInside$Mix")))) B.pre
  have hts : ∀ w ∈ LW, w.before _ s = true := fun w hw => hts0 w (List.mem_cons_of_mem _ hw)
  have hown : s.vm.findClass "TypesInside$Sums" = some m.cls := findClass_of_methodNamed B.named
  have hlocks := B.notSynchronized
  subst hsz
  generalize hAe : va_A [] s.heap.size = A
  have hA : ∀ q : Nat, s.heap.size ≤ q → A q := fun q h => by rw [← hAe]; exact Or.inr h
  have hS : va_S A s.heap s.heap [] := va_S.rf
  have hl := lv_entry ([]) (n := 2) (Nat.le_of_ble_eq_true rfl)
  rw [lg_entry_eq]
  generalize (lg_sl ([]) ++ List.replicate (2 - (lg_sl ([])).length) Slot.unset).toArray = ls at hl ⊢
  have hl : lv_has ls 2 [] := hl
  have hP : va_P D cl [] s.heap := P_nil
  have hD : va_D A [] := D_nil
  refine lv_iconst (v := (3 : Int32)) hx hb zd_Su_newMixes_0 (by decide) ?_
  refine va_newq hx hb hown (hts _ zw103) hK6.2.2.1 hK hP hD hS hA (n := 3) (N' := 3) (by decide) (by decide) (Nat.le_of_ble_eq_true rfl) (Nat.le_of_ble_eq_true rfl) (Nat.le_of_ble_eq_true rfl) zd_Su_newMixes_1 (fun h0 cA H hK1 hP hD hS => ?_)
  obtain rfl := K_new 4 hK1 rfl
  obtain ⟨T0, eT0⟩ : ∃ T : va_W, T = [] := ⟨_, rfl⟩
  obtain ⟨G0, eG0⟩ : ∃ G : Nat → Option Nat, G = fun _ => none := ⟨_, rfl⟩
  have hP : va_P D cl ((h0, .inl (AC 4, 3, .inr (.inr (.inr (.inr G0))))) :: T0) H := by rw [eT0, eG0]; exact hP
  have hD : va_D A ((h0, .inl (AC 4, 3, .inr (.inr (.inr (.inr G0))))) :: T0) := by rw [eT0, eG0]; exact hD
  refine lv_astore_n (lv' := [(0, .ref h0)]) hx hb zd_Su_newMixes_4 rfl hl (by decide) rfl (fun ls hl => ?_)
  refine lv_iconst (v := (0 : Int32)) hx hb zd_Su_newMixes_5 (by decide) ?_
  refine lv_istore_n (lv' := [(1, .int 0), (0, .ref h0)]) hx hb zd_Su_newMixes_6 rfl hl (by decide) rfl (fun ls hl => ?_)
  refine lv_iload_n hx hb zd_Su_newMixes_7 rfl (lv_at hl 0 rfl) ?_
  refine lv_aload_n hx hb zd_Su_newMixes_8 rfl (lv_at hl 1 rfl) ?_
  refine va_alen hx hb hK hP 0 4 rfl rfl (v := (3 : Int32)) rfl zd_Su_newMixes_9 ?_
  refine lv_icmp_ge (tgt := 29) hx hb zd_Su_newMixes_10 (by decide) (fun c_ => absurd c_ (by decide)) (fun _ => ?_)
  refine lv_aload_n hx hb zd_Su_newMixes_13 rfl (lv_at hl 1 rfl) ?_
  refine lv_iload_n hx hb zd_Su_newMixes_14 rfl (lv_at hl 0 rfl) ?_
  refine va_new (ci := 3) (fs := [.null]) (C := "TypesInside$Mix") (T := fT3) (N := 1) hx hb hts clw3 fY3 fYok3 hown (hts _ zw103) (hts _ zw105) (hts _ zw5) hK hP hD hS hA rfl (fun j hj => by obtain rfl : j = 0 := Nat.lt_one_iff.mp hj; rfl) (Nat.le_of_ble_eq_true rfl) (Nat.le_of_ble_eq_true rfl) zd_Su_newMixes_15 (fun q0 H hP hD hS => ?_)
  have hP : va_P D cl (((h0, .inl (AC 4, 3, .inr (.inr (.inr (.inr G0))))) :: T0) ++ [(q0, .inr (3, [.null]))]) H := hP
  have hD : va_D A (((h0, .inl (AC 4, 3, .inr (.inr (.inr (.inr G0))))) :: T0) ++ [(q0, .inr (3, [.null]))]) := hD
  refine lv_dup hx hb zd_Su_newMixes_18 rfl ?_
  have hPc := P_r hP
  have hDc := D_r hD
  have hFc := free2 hD hS hA
  refine va_callv (va_runIN (As := []) (rest := [.ref q0, .int 0, .ref h0]) ⟨hx, hb, hml, hown, hts⟩ (c_Mi_init l D AC q0 H.size (b + 1) (hm0)) (⟨va_cnB (own := "TypesInside$Sums") (host := "TypesInside") (index := 37) 0 hts (LW_gin zw108) rfl rfl rfl (N6_3 hK6.2.2.2.2) (hts _ zw5) zh_Mi_init ⟨Nat.le_of_ble_eq_true rfl, Nat.le_of_ble_eq_true rfl⟩, rfl, hts _ zw107⟩) ⟨fun a U g mk q => by obtain ⟨q0, q1, qP, qK, qD⟩ := q; exact ⟨q0, q1, qP, K6.same (u := U) (U := U.calling g mk a) rfl qK, qD⟩, fun U hU hW => ⟨rfl, by rw [hU], by rw [hU]; exact hPc, hK6.warm hW, hDc.weaken (fun _ _ _ _ => trivial)⟩⟩ rfl rfl hl.1 rfl (lv_room (Nat.le_of_ble_eq_true rfl)) zd_Su_newMixes_19 ⟨Nat.le_of_ble_eq_true rfl, Nat.le_of_ble_eq_true rfl⟩) hS (fun q _ h => hFc q h) hFc (fun a0 t H1 locs ht hvm hw hB hz1 hk1 hS => ?_)
  obtain ⟨hP1, hD1⟩ := hB
  rw [ht] at hP1
  obtain ⟨hP, hD⟩ := join2 hP hD hk1 hFc hP1 hD1
  have ha0 : a0 (b + 1) = q0 := hw
  obtain ⟨qk0, hqk0⟩ := blk_in (AC := AC) (μ := μz) (n := 21) (c := 3) (X := (h0, .inl (AC 4, 3, .inr (.inr (.inr (.inr G0))))) :: T0) (by decide) hob0 ha0
  refine va_astq hx hb hK hP hD hS 0 4 qk0 3 (r := ("TypesInside$Mix", fT3, 1)) rfl rfl hqk0 rfl (i := (0 : Int32)) (by unfold vp_in; decide) zd_Su_newMixes_22 (fun H locs hP hD hS => ?_)
  obtain ⟨T1, eT1⟩ : ∃ T, T = T0 ++ wl (rng (b + 1) 21) AC a0 μz := ⟨_, rfl⟩
  obtain ⟨G1, eG1⟩ : ∃ G, G = va_up G0 (Int32.toNatClampNeg 0) (some q0) := ⟨_, rfl⟩
  have hP : va_P D cl ((h0, .inl (AC 4, 3, .inr (.inr (.inr (.inr G1))))) :: T1) H := by rw [eT1, eG1]; exact hP
  have hD : va_D A ((h0, .inl (AC 4, 3, .inr (.inr (.inr (.inr G1))))) :: T1) := by rw [eT1, eG1]; exact hD
  refine lv_iinc (v := (1 : Int32)) (lv' := [(1, .int 1), (0, .ref h0)]) hx hb zd_Su_newMixes_23 hl (k := 0) rfl (by decide) (by decide) rfl (fun ls hl => ?_)
  refine lv_goto (tgt := 7) hx hb zd_Su_newMixes_26 (by decide) ?_
  refine lv_iload_n hx hb zd_Su_newMixes_7 rfl (lv_at hl 0 rfl) ?_
  refine lv_aload_n hx hb zd_Su_newMixes_8 rfl (lv_at hl 1 rfl) ?_
  refine va_alen hx hb hK hP 0 4 rfl rfl (v := (3 : Int32)) rfl zd_Su_newMixes_9 ?_
  refine lv_icmp_ge (tgt := 29) hx hb zd_Su_newMixes_10 (by decide) (fun c_ => absurd c_ (by decide)) (fun _ => ?_)
  refine lv_aload_n hx hb zd_Su_newMixes_13 rfl (lv_at hl 1 rfl) ?_
  refine lv_iload_n hx hb zd_Su_newMixes_14 rfl (lv_at hl 0 rfl) ?_
  refine va_new (ci := 3) (fs := [.null]) (C := "TypesInside$Mix") (T := fT3) (N := 1) hx hb hts clw3 fY3 fYok3 hown (hts _ zw103) (hts _ zw105) (hts _ zw5) hK hP hD hS hA rfl (fun j hj => by obtain rfl : j = 0 := Nat.lt_one_iff.mp hj; rfl) (Nat.le_of_ble_eq_true rfl) (Nat.le_of_ble_eq_true rfl) zd_Su_newMixes_15 (fun q1 H hP hD hS => ?_)
  have hP : va_P D cl (((h0, .inl (AC 4, 3, .inr (.inr (.inr (.inr G1))))) :: T1) ++ [(q1, .inr (3, [.null]))]) H := hP
  have hD : va_D A (((h0, .inl (AC 4, 3, .inr (.inr (.inr (.inr G1))))) :: T1) ++ [(q1, .inr (3, [.null]))]) := hD
  refine lv_dup hx hb zd_Su_newMixes_18 rfl ?_
  have hPc := P_r hP
  have hDc := D_r hD
  have hFc := free2 hD hS hA
  refine va_callv (va_runIN (As := []) (rest := [.ref q1, .int 1, .ref h0]) ⟨hx, hb, hml, hown, hts⟩ (c_Mi_init l D AC q1 H.size (b + 22) (hm1)) (⟨va_cnB (own := "TypesInside$Sums") (host := "TypesInside") (index := 37) 0 hts (LW_gin zw108) rfl rfl rfl (N6_3 hK6.2.2.2.2) (hts _ zw5) zh_Mi_init ⟨Nat.le_of_ble_eq_true rfl, Nat.le_of_ble_eq_true rfl⟩, rfl, hts _ zw107⟩) ⟨fun a U g mk q => by obtain ⟨q0, q1, qP, qK, qD⟩ := q; exact ⟨q0, q1, qP, K6.same (u := U) (U := U.calling g mk a) rfl qK, qD⟩, fun U hU hW => ⟨rfl, by rw [hU], by rw [hU]; exact hPc, hK6.warm hW, hDc.weaken (fun _ _ _ _ => trivial)⟩⟩ rfl rfl hl.1 rfl (lv_room (Nat.le_of_ble_eq_true rfl)) zd_Su_newMixes_19 ⟨Nat.le_of_ble_eq_true rfl, Nat.le_of_ble_eq_true rfl⟩) hS (fun q _ h => hFc q h) hFc (fun a1 t H1 locs ht hvm hw hB hz1 hk1 hS => ?_)
  obtain ⟨hP1, hD1⟩ := hB
  rw [ht] at hP1
  obtain ⟨hP, hD⟩ := join2 hP hD hk1 hFc hP1 hD1
  have ha1 : a1 (b + 22) = q1 := hw
  obtain ⟨qk1, hqk1⟩ := blk_in (AC := AC) (μ := μz) (n := 21) (c := 3) (X := (h0, .inl (AC 4, 3, .inr (.inr (.inr (.inr G1))))) :: T1) (by decide) hob1 ha1
  refine va_astq hx hb hK hP hD hS 0 4 qk1 3 (r := ("TypesInside$Mix", fT3, 1)) rfl rfl hqk1 rfl (i := (1 : Int32)) (by unfold vp_in; decide) zd_Su_newMixes_22 (fun H locs hP hD hS => ?_)
  obtain ⟨T2, eT2⟩ : ∃ T, T = T1 ++ wl (rng (b + 22) 21) AC a1 μz := ⟨_, rfl⟩
  obtain ⟨G2, eG2⟩ : ∃ G, G = va_up G1 (Int32.toNatClampNeg 1) (some q1) := ⟨_, rfl⟩
  have hP : va_P D cl ((h0, .inl (AC 4, 3, .inr (.inr (.inr (.inr G2))))) :: T2) H := by rw [eT2, eG2]; exact hP
  have hD : va_D A ((h0, .inl (AC 4, 3, .inr (.inr (.inr (.inr G2))))) :: T2) := by rw [eT2, eG2]; exact hD
  refine lv_iinc (v := (2 : Int32)) (lv' := [(1, .int 2), (0, .ref h0)]) hx hb zd_Su_newMixes_23 hl (k := 0) rfl (by decide) (by decide) rfl (fun ls hl => ?_)
  refine lv_goto (tgt := 7) hx hb zd_Su_newMixes_26 (by decide) ?_
  refine lv_iload_n hx hb zd_Su_newMixes_7 rfl (lv_at hl 0 rfl) ?_
  refine lv_aload_n hx hb zd_Su_newMixes_8 rfl (lv_at hl 1 rfl) ?_
  refine va_alen hx hb hK hP 0 4 rfl rfl (v := (3 : Int32)) rfl zd_Su_newMixes_9 ?_
  refine lv_icmp_ge (tgt := 29) hx hb zd_Su_newMixes_10 (by decide) (fun c_ => absurd c_ (by decide)) (fun _ => ?_)
  refine lv_aload_n hx hb zd_Su_newMixes_13 rfl (lv_at hl 1 rfl) ?_
  refine lv_iload_n hx hb zd_Su_newMixes_14 rfl (lv_at hl 0 rfl) ?_
  refine va_new (ci := 3) (fs := [.null]) (C := "TypesInside$Mix") (T := fT3) (N := 1) hx hb hts clw3 fY3 fYok3 hown (hts _ zw103) (hts _ zw105) (hts _ zw5) hK hP hD hS hA rfl (fun j hj => by obtain rfl : j = 0 := Nat.lt_one_iff.mp hj; rfl) (Nat.le_of_ble_eq_true rfl) (Nat.le_of_ble_eq_true rfl) zd_Su_newMixes_15 (fun q2 H hP hD hS => ?_)
  have hP : va_P D cl (((h0, .inl (AC 4, 3, .inr (.inr (.inr (.inr G2))))) :: T2) ++ [(q2, .inr (3, [.null]))]) H := hP
  have hD : va_D A (((h0, .inl (AC 4, 3, .inr (.inr (.inr (.inr G2))))) :: T2) ++ [(q2, .inr (3, [.null]))]) := hD
  refine lv_dup hx hb zd_Su_newMixes_18 rfl ?_
  have hPc := P_r hP
  have hDc := D_r hD
  have hFc := free2 hD hS hA
  refine va_callv (va_runIN (As := []) (rest := [.ref q2, .int 2, .ref h0]) ⟨hx, hb, hml, hown, hts⟩ (c_Mi_init l D AC q2 H.size (b + 43) (hm2)) (⟨va_cnB (own := "TypesInside$Sums") (host := "TypesInside") (index := 37) 0 hts (LW_gin zw108) rfl rfl rfl (N6_3 hK6.2.2.2.2) (hts _ zw5) zh_Mi_init ⟨Nat.le_of_ble_eq_true rfl, Nat.le_of_ble_eq_true rfl⟩, rfl, hts _ zw107⟩) ⟨fun a U g mk q => by obtain ⟨q0, q1, qP, qK, qD⟩ := q; exact ⟨q0, q1, qP, K6.same (u := U) (U := U.calling g mk a) rfl qK, qD⟩, fun U hU hW => ⟨rfl, by rw [hU], by rw [hU]; exact hPc, hK6.warm hW, hDc.weaken (fun _ _ _ _ => trivial)⟩⟩ rfl rfl hl.1 rfl (lv_room (Nat.le_of_ble_eq_true rfl)) zd_Su_newMixes_19 ⟨Nat.le_of_ble_eq_true rfl, Nat.le_of_ble_eq_true rfl⟩) hS (fun q _ h => hFc q h) hFc (fun a2 t H1 locs ht hvm hw hB hz1 hk1 hS => ?_)
  obtain ⟨hP1, hD1⟩ := hB
  rw [ht] at hP1
  obtain ⟨hP, hD⟩ := join2 hP hD hk1 hFc hP1 hD1
  have ha2 : a2 (b + 43) = q2 := hw
  obtain ⟨qk2, hqk2⟩ := blk_in (AC := AC) (μ := μz) (n := 21) (c := 3) (X := (h0, .inl (AC 4, 3, .inr (.inr (.inr (.inr G2))))) :: T2) (by decide) hob2 ha2
  refine va_astq hx hb hK hP hD hS 0 4 qk2 3 (r := ("TypesInside$Mix", fT3, 1)) rfl rfl hqk2 rfl (i := (2 : Int32)) (by unfold vp_in; decide) zd_Su_newMixes_22 (fun H locs hP hD hS => ?_)
  obtain ⟨T3, eT3⟩ : ∃ T, T = T2 ++ wl (rng (b + 43) 21) AC a2 μz := ⟨_, rfl⟩
  obtain ⟨G3, eG3⟩ : ∃ G, G = va_up G2 (Int32.toNatClampNeg 2) (some q2) := ⟨_, rfl⟩
  have hP : va_P D cl ((h0, .inl (AC 4, 3, .inr (.inr (.inr (.inr G3))))) :: T3) H := by rw [eT3, eG3]; exact hP
  have hD : va_D A ((h0, .inl (AC 4, 3, .inr (.inr (.inr (.inr G3))))) :: T3) := by rw [eT3, eG3]; exact hD
  refine lv_iinc (v := (3 : Int32)) (lv' := [(1, .int 3), (0, .ref h0)]) hx hb zd_Su_newMixes_23 hl (k := 0) rfl (by decide) (by decide) rfl (fun ls hl => ?_)
  refine lv_goto (tgt := 7) hx hb zd_Su_newMixes_26 (by decide) ?_
  refine lv_iload_n hx hb zd_Su_newMixes_7 rfl (lv_at hl 0 rfl) ?_
  refine lv_aload_n hx hb zd_Su_newMixes_8 rfl (lv_at hl 1 rfl) ?_
  refine va_alen hx hb hK hP 0 4 rfl rfl (v := (3 : Int32)) rfl zd_Su_newMixes_9 ?_
  refine lv_icmp_ge (tgt := 29) hx hb zd_Su_newMixes_10 (by decide) (fun _ => ?_) (fun c_ => absurd (by decide) c_)
  refine lv_aload_n hx hb zd_Su_newMixes_29 rfl (lv_at hl 1 rfl) ?_
  obtain ⟨ad, ead⟩ : ∃ ad : Nat → Nat, ad = fun k => if k < b + 1 then h0 else if k < b + 22 then a0 k else if k < b + 43 then a1 k else a2 k := ⟨_, rfl⟩
  have had : ad b = h0 := by rw [ead]; exact if_pos (by omega)
  have g0 : ∀ k, b + 1 ≤ k → k < b + 1 + 21 → ad k = a0 k := fun k k1 k2 => by rw [ead]; show (if _ then _ else _) = _; rw [if_neg (by omega), if_pos (by omega)]
  have g1 : ∀ k, b + 22 ≤ k → k < b + 22 + 21 → ad k = a1 k := fun k k1 k2 => by rw [ead]; show (if _ then _ else _) = _; rw [if_neg (by omega), if_neg (by omega), if_pos (by omega)]
  have g2 : ∀ k, b + 43 ≤ k → k < b + 43 + 21 → ad k = a2 k := fun k k1 k2 => by rw [ead]; show (if _ then _ else _) = _; rw [if_neg (by omega), if_neg (by omega), if_neg (by omega)]
  have hPT := P_tl hP
  rw [eT3] at hPT
  have p2 := P_r hPT
  have hPT := P_l hPT
  rw [eT2] at hPT
  have p1 := P_r hPT
  have hPT := P_l hPT
  rw [eT1] at hPT
  have p0 := P_r hPT
  have hPT := P_l hPT
  have P0 : va_P D cl (wl (rng (b + 1) 0) AC ad μz) H := P_0
  have m0 : T0.map (fun x => x.1) = (rng (b + 1) 0).map ad := by rw [eT0]; rfl
  have P1 : va_P D cl (wl (rng (b + 1) 21) AC ad μz) H := P_step P0 (wl_mv (ad1 := a0) (hc0) g0 p0)
  have m1 : T1.map (fun x => x.1) = (rng (b + 1) 21).map ad := m_step m0 eT1 (blk_m g0)
  have P2 : va_P D cl (wl (rng (b + 1) 42) AC ad μz) H := P_step P1 (wl_mv (ad1 := a1) (hc1) g1 p1)
  have m2 : T2.map (fun x => x.1) = (rng (b + 1) 42).map ad := m_step m1 eT2 (blk_m g1)
  have P3 : va_P D cl (wl (rng (b + 1) 63) AC ad μz) H := P_step P2 (wl_mv (ad1 := a2) (hc2) g2 p2)
  have m3 : T3.map (fun x => x.1) = (rng (b + 1) 63).map ad := m_step m2 eT3 (blk_m g2)
  have hG : ∀ j, j < 3 → G3 j = some (ad (sub b j)) := fun j hj => by
    rcases (show j = 0 ∨ j = 1 ∨ j = 2 by omega) with rfl | rfl | rfl
    · rw [hs0, (g0 _ (by omega) (by omega)).trans ha0, eG3, eG2, eG1]; rfl
    · rw [hs1, (g1 _ (by omega) (by omega)).trans ha1, eG3, eG2, eG1]; rfl
    · rw [hs2, (g2 _ (by omega) (by omega)).trans ha2, eG3, eG2, eG1]; rfl
  have hPf : va_P D cl (wl (rng b 64) AC ad μz) H := headQ_P (n := 63) (m := 3) hkb (by decide) (by decide) hNb hG had hP P3
  have hDf : va_D A (wl (rng b 64) AC ad μz) := head_D (n := 63) had hD m3
  refine W.widen (k := 64) (n := 1830) (Nat.le_of_ble_eq_true rfl) (Nat.le_of_ble_eq_true rfl) ?_
  exact W.aret hx hb hr (Or.inr ⟨_, rfl⟩) (Or.inr ⟨_, rfl⟩) (fun t ht hW => ⟨⟨ad, h0, rfl, trivial, had, by rw [ht]; exact hPf, hDf⟩, hS.F ht⟩) hS.2.2 zd_Su_newMixes_30
theorem zd_TI_newShelves_0 : decode prog_1_method_2_code 0 = .ok (.iconst 4, 1) := by decide +kernel
theorem zd_TI_newShelves_1 : decode prog_1_method_2_code 1 = .ok (.anewarray 53, 3) := by decide +kernel
theorem zd_TI_newShelves_4 : decode prog_1_method_2_code 4 = .ok (.astore_n 0, 1) := by decide +kernel
theorem zd_TI_newShelves_5 : decode prog_1_method_2_code 5 = .ok (.iconst 0, 1) := by decide +kernel
theorem zd_TI_newShelves_6 : decode prog_1_method_2_code 6 = .ok (.istore_n 1, 1) := by decide +kernel
theorem zd_TI_newShelves_7 : decode prog_1_method_2_code 7 = .ok (.iload_n 1, 1) := by decide +kernel
theorem zd_TI_newShelves_8 : decode prog_1_method_2_code 8 = .ok (.aload_n 0, 1) := by decide +kernel
theorem zd_TI_newShelves_9 : decode prog_1_method_2_code 9 = .ok (.arraylength, 1) := by decide +kernel
theorem zd_TI_newShelves_10 : decode prog_1_method_2_code 10 = .ok (.if_icmp .ge 19, 3) := by decide +kernel
theorem zd_TI_newShelves_13 : decode prog_1_method_2_code 13 = .ok (.aload_n 0, 1) := by decide +kernel
theorem zd_TI_newShelves_14 : decode prog_1_method_2_code 14 = .ok (.iload_n 1, 1) := by decide +kernel
theorem zd_TI_newShelves_15 : decode prog_1_method_2_code 15 = .ok (.new 53, 3) := by decide +kernel
theorem zd_TI_newShelves_18 : decode prog_1_method_2_code 18 = .ok (.dup, 1) := by decide +kernel
theorem zd_TI_newShelves_19 : decode prog_1_method_2_code 19 = .ok (.invokespecial 76, 3) := by decide +kernel
theorem zd_TI_newShelves_22 : decode prog_1_method_2_code 22 = .ok (.aastore, 1) := by decide +kernel
theorem zd_TI_newShelves_23 : decode prog_1_method_2_code 23 = .ok (.iinc 1 1, 3) := by decide +kernel
theorem zd_TI_newShelves_26 : decode prog_1_method_2_code 26 = .ok (.goto (-19), 3) := by decide +kernel
theorem zd_TI_newShelves_29 : decode prog_1_method_2_code 29 = .ok (.aload_n 0, 1) := by decide +kernel
theorem zd_TI_newShelves_30 : decode prog_1_method_2_code 30 = .ok (.areturn, 1) := by decide +kernel
theorem zs_TI_newShelves : ∀ b, b ∈ ([265, 297] : List Nat) → (shK b = 5 ∧ shN b = 4) ∧ ((b + 1 ∈ shB2 ∧ shK (b + 1) = 10 + 4) ∧ (clo (b + 1) 2 = true ∧ sub b 0 = b + 1)) ∧ ((b + 3 ∈ shB2 ∧ shK (b + 3) = 10 + 4) ∧ (clo (b + 3) 2 = true ∧ sub b 1 = b + 3)) ∧ ((b + 5 ∈ shB2 ∧ shK (b + 5) = 10 + 4) ∧ (clo (b + 5) 2 = true ∧ sub b 2 = b + 5)) ∧ ((b + 7 ∈ shB2 ∧ shK (b + 7) = 10 + 4) ∧ (clo (b + 7) 2 = true ∧ sub b 3 = b + 7)) := by decide +kernel
set_option maxHeartbeats 4000000 in
theorem c_TI_newShelves (l : Launch) (D : va_G) (AC : Nat → ClassId) (sz b : Nat) (hbb : b ∈ ([265, 297] : List Nat)) : Met l ⟨"TypesInside", "newShelves", "()[LTypesInside$Shelf;"⟩ (ws_ ⟨"TypesInside", "newShelves", "()[LTypesInside$Shelf;"⟩ prog_1_method_2_code 2 (some (.array (.object "TypesInside$Shelf")))) ({ frames := 2, cells := 9, slots := 96, locals := 64 }) (va_Pc [] (fun U => U.heap.size = sz ∧ K6 D AC U)) (va_Qr (fun _ : Nat → Nat => True) (fun ad a t => ad b = a ∧ va_P D cl (wl (rng b 9) AC ad μz) t.heap ∧ va_D (va_A [] sz) (wl (rng b 9) AC ad μz)) (va_A [] sz)) 9 96 (va_A [] sz) := by
  obtain ⟨⟨hkb, hNb⟩, ⟨⟨hm0, hob0⟩, hc0, hs0⟩, ⟨⟨hm1, hob1⟩, hc1, hs1⟩, ⟨⟨hm2, hob2⟩, hc2, hs2⟩, ⟨⟨hm3, hob3⟩, hc3, hs3⟩⟩ := zs_TI_newShelves b hbb
  refine Met.ofW (cc := prog_1_method_2_code) (maxL := 2) (ret := (some (.array (.object "TypesInside$Shelf")))) (by decide) rfl ?_
  intro p e s m args below meth c s₁ B hml hv
  obtain ⟨rfl, hsz, hK6⟩ := hv
  have hK := hK6.1
  have hx := B.exec
  have hb := B.bytes
  have hr := B.returns
  have hts0 := atoms_spec (ws := ws_ ⟨"TypesInside", "newShelves", "()[LTypesInside$Shelf;"⟩ prog_1_method_2_code 2 (some (.array (.object "TypesInside$Shelf")))) B.pre
  have hts : ∀ w ∈ LW, w.before _ s = true := fun w hw => hts0 w (List.mem_cons_of_mem _ hw)
  have hown : s.vm.findClass "TypesInside" = some m.cls := findClass_of_methodNamed B.named
  have hlocks := B.notSynchronized
  subst hsz
  generalize hAe : va_A [] s.heap.size = A
  have hA : ∀ q : Nat, s.heap.size ≤ q → A q := fun q h => by rw [← hAe]; exact Or.inr h
  have hS : va_S A s.heap s.heap [] := va_S.rf
  have hl := lv_entry ([]) (n := 2) (Nat.le_of_ble_eq_true rfl)
  rw [lg_entry_eq]
  generalize (lg_sl ([]) ++ List.replicate (2 - (lg_sl ([])).length) Slot.unset).toArray = ls at hl ⊢
  have hl : lv_has ls 2 [] := hl
  have hP : va_P D cl [] s.heap := P_nil
  have hD : va_D A [] := D_nil
  refine lv_iconst (v := (4 : Int32)) hx hb zd_TI_newShelves_0 (by decide) ?_
  refine va_newq hx hb hown (hts _ zw149) hK6.2.2.2.1 hK hP hD hS hA (n := 4) (N' := 4) (by decide) (by decide) (Nat.le_of_ble_eq_true rfl) (Nat.le_of_ble_eq_true rfl) (Nat.le_of_ble_eq_true rfl) zd_TI_newShelves_1 (fun h0 cA H hK1 hP hD hS => ?_)
  obtain rfl := K_new 5 hK1 rfl
  obtain ⟨T0, eT0⟩ : ∃ T : va_W, T = [] := ⟨_, rfl⟩
  obtain ⟨G0, eG0⟩ : ∃ G : Nat → Option Nat, G = fun _ => none := ⟨_, rfl⟩
  have hP : va_P D cl ((h0, .inl (AC 5, 4, .inr (.inr (.inr (.inr G0))))) :: T0) H := by rw [eT0, eG0]; exact hP
  have hD : va_D A ((h0, .inl (AC 5, 4, .inr (.inr (.inr (.inr G0))))) :: T0) := by rw [eT0, eG0]; exact hD
  refine lv_astore_n (lv' := [(0, .ref h0)]) hx hb zd_TI_newShelves_4 rfl hl (by decide) rfl (fun ls hl => ?_)
  refine lv_iconst (v := (0 : Int32)) hx hb zd_TI_newShelves_5 (by decide) ?_
  refine lv_istore_n (lv' := [(1, .int 0), (0, .ref h0)]) hx hb zd_TI_newShelves_6 rfl hl (by decide) rfl (fun ls hl => ?_)
  refine lv_iload_n hx hb zd_TI_newShelves_7 rfl (lv_at hl 0 rfl) ?_
  refine lv_aload_n hx hb zd_TI_newShelves_8 rfl (lv_at hl 1 rfl) ?_
  refine va_alen hx hb hK hP 0 5 rfl rfl (v := (4 : Int32)) rfl zd_TI_newShelves_9 ?_
  refine lv_icmp_ge (tgt := 29) hx hb zd_TI_newShelves_10 (by decide) (fun c_ => absurd c_ (by decide)) (fun _ => ?_)
  refine lv_aload_n hx hb zd_TI_newShelves_13 rfl (lv_at hl 1 rfl) ?_
  refine lv_iload_n hx hb zd_TI_newShelves_14 rfl (lv_at hl 0 rfl) ?_
  refine va_new (ci := 4) (fs := [.int 0, .int 0, .null]) (C := "TypesInside$Shelf") (T := fT4) (N := 3) hx hb hts clw4 fY4 fYok4 hown (hts _ zw149) (hts _ zw151) (hts _ zw6) hK hP hD hS hA rfl (fun j hj => by rcases (show j = 0 ∨ j = 1 ∨ j = 2 by omega) with rfl | rfl | rfl <;> rfl) (Nat.le_of_ble_eq_true rfl) (Nat.le_of_ble_eq_true rfl) zd_TI_newShelves_15 (fun q0 H hP hD hS => ?_)
  have hP : va_P D cl (((h0, .inl (AC 5, 4, .inr (.inr (.inr (.inr G0))))) :: T0) ++ [(q0, .inr (4, [.int 0, .int 0, .null]))]) H := hP
  have hD : va_D A (((h0, .inl (AC 5, 4, .inr (.inr (.inr (.inr G0))))) :: T0) ++ [(q0, .inr (4, [.int 0, .int 0, .null]))]) := hD
  refine lv_dup hx hb zd_TI_newShelves_18 rfl ?_
  have hPc := P_r hP
  have hDc := D_r hD
  have hFc := free2 hD hS hA
  refine va_callv (va_runIN (As := []) (rest := [.ref q0, .int 0, .ref h0]) ⟨hx, hb, hml, hown, hts⟩ (c_Sh_init l D AC q0 H.size (b + 1) (hm0)) (⟨va_cnB (own := "TypesInside") (host := "TypesInside") (index := 76) 0 hts (LW_gin zw154) rfl rfl rfl (N6_5 hK6.2.2.2.2) (hts _ zw6) zh_Sh_init ⟨Nat.le_of_ble_eq_true rfl, Nat.le_of_ble_eq_true rfl⟩, rfl, hts _ zw153⟩) ⟨fun a U g mk q => by obtain ⟨q0, q1, qP, qK, qD⟩ := q; exact ⟨q0, q1, qP, K6.same (u := U) (U := U.calling g mk a) rfl qK, qD⟩, fun U hU hW => ⟨rfl, by rw [hU], by rw [hU]; exact hPc, hK6.warm hW, hDc.weaken (fun _ _ _ _ => trivial)⟩⟩ rfl rfl hl.1 rfl (lv_room (Nat.le_of_ble_eq_true rfl)) zd_TI_newShelves_19 ⟨Nat.le_of_ble_eq_true rfl, Nat.le_of_ble_eq_true rfl⟩) hS (fun q _ h => hFc q h) hFc (fun a0 t H1 locs ht hvm hw hB hz1 hk1 hS => ?_)
  obtain ⟨hP1, hD1⟩ := hB
  rw [ht] at hP1
  obtain ⟨hP, hD⟩ := join2 hP hD hk1 hFc hP1 hD1
  have ha0 : a0 (b + 1) = q0 := hw
  obtain ⟨qk0, hqk0⟩ := blk_in (AC := AC) (μ := μz) (n := 2) (c := 4) (X := (h0, .inl (AC 5, 4, .inr (.inr (.inr (.inr G0))))) :: T0) (by decide) hob0 ha0
  refine va_astq hx hb hK hP hD hS 0 5 qk0 4 (r := ("TypesInside$Shelf", fT4, 3)) rfl rfl hqk0 rfl (i := (0 : Int32)) (by unfold vp_in; decide) zd_TI_newShelves_22 (fun H locs hP hD hS => ?_)
  obtain ⟨T1, eT1⟩ : ∃ T, T = T0 ++ wl (rng (b + 1) 2) AC a0 μz := ⟨_, rfl⟩
  obtain ⟨G1, eG1⟩ : ∃ G, G = va_up G0 (Int32.toNatClampNeg 0) (some q0) := ⟨_, rfl⟩
  have hP : va_P D cl ((h0, .inl (AC 5, 4, .inr (.inr (.inr (.inr G1))))) :: T1) H := by rw [eT1, eG1]; exact hP
  have hD : va_D A ((h0, .inl (AC 5, 4, .inr (.inr (.inr (.inr G1))))) :: T1) := by rw [eT1, eG1]; exact hD
  refine lv_iinc (v := (1 : Int32)) (lv' := [(1, .int 1), (0, .ref h0)]) hx hb zd_TI_newShelves_23 hl (k := 0) rfl (by decide) (by decide) rfl (fun ls hl => ?_)
  refine lv_goto (tgt := 7) hx hb zd_TI_newShelves_26 (by decide) ?_
  refine lv_iload_n hx hb zd_TI_newShelves_7 rfl (lv_at hl 0 rfl) ?_
  refine lv_aload_n hx hb zd_TI_newShelves_8 rfl (lv_at hl 1 rfl) ?_
  refine va_alen hx hb hK hP 0 5 rfl rfl (v := (4 : Int32)) rfl zd_TI_newShelves_9 ?_
  refine lv_icmp_ge (tgt := 29) hx hb zd_TI_newShelves_10 (by decide) (fun c_ => absurd c_ (by decide)) (fun _ => ?_)
  refine lv_aload_n hx hb zd_TI_newShelves_13 rfl (lv_at hl 1 rfl) ?_
  refine lv_iload_n hx hb zd_TI_newShelves_14 rfl (lv_at hl 0 rfl) ?_
  refine va_new (ci := 4) (fs := [.int 0, .int 0, .null]) (C := "TypesInside$Shelf") (T := fT4) (N := 3) hx hb hts clw4 fY4 fYok4 hown (hts _ zw149) (hts _ zw151) (hts _ zw6) hK hP hD hS hA rfl (fun j hj => by rcases (show j = 0 ∨ j = 1 ∨ j = 2 by omega) with rfl | rfl | rfl <;> rfl) (Nat.le_of_ble_eq_true rfl) (Nat.le_of_ble_eq_true rfl) zd_TI_newShelves_15 (fun q1 H hP hD hS => ?_)
  have hP : va_P D cl (((h0, .inl (AC 5, 4, .inr (.inr (.inr (.inr G1))))) :: T1) ++ [(q1, .inr (4, [.int 0, .int 0, .null]))]) H := hP
  have hD : va_D A (((h0, .inl (AC 5, 4, .inr (.inr (.inr (.inr G1))))) :: T1) ++ [(q1, .inr (4, [.int 0, .int 0, .null]))]) := hD
  refine lv_dup hx hb zd_TI_newShelves_18 rfl ?_
  have hPc := P_r hP
  have hDc := D_r hD
  have hFc := free2 hD hS hA
  refine va_callv (va_runIN (As := []) (rest := [.ref q1, .int 1, .ref h0]) ⟨hx, hb, hml, hown, hts⟩ (c_Sh_init l D AC q1 H.size (b + 3) (hm1)) (⟨va_cnB (own := "TypesInside") (host := "TypesInside") (index := 76) 0 hts (LW_gin zw154) rfl rfl rfl (N6_5 hK6.2.2.2.2) (hts _ zw6) zh_Sh_init ⟨Nat.le_of_ble_eq_true rfl, Nat.le_of_ble_eq_true rfl⟩, rfl, hts _ zw153⟩) ⟨fun a U g mk q => by obtain ⟨q0, q1, qP, qK, qD⟩ := q; exact ⟨q0, q1, qP, K6.same (u := U) (U := U.calling g mk a) rfl qK, qD⟩, fun U hU hW => ⟨rfl, by rw [hU], by rw [hU]; exact hPc, hK6.warm hW, hDc.weaken (fun _ _ _ _ => trivial)⟩⟩ rfl rfl hl.1 rfl (lv_room (Nat.le_of_ble_eq_true rfl)) zd_TI_newShelves_19 ⟨Nat.le_of_ble_eq_true rfl, Nat.le_of_ble_eq_true rfl⟩) hS (fun q _ h => hFc q h) hFc (fun a1 t H1 locs ht hvm hw hB hz1 hk1 hS => ?_)
  obtain ⟨hP1, hD1⟩ := hB
  rw [ht] at hP1
  obtain ⟨hP, hD⟩ := join2 hP hD hk1 hFc hP1 hD1
  have ha1 : a1 (b + 3) = q1 := hw
  obtain ⟨qk1, hqk1⟩ := blk_in (AC := AC) (μ := μz) (n := 2) (c := 4) (X := (h0, .inl (AC 5, 4, .inr (.inr (.inr (.inr G1))))) :: T1) (by decide) hob1 ha1
  refine va_astq hx hb hK hP hD hS 0 5 qk1 4 (r := ("TypesInside$Shelf", fT4, 3)) rfl rfl hqk1 rfl (i := (1 : Int32)) (by unfold vp_in; decide) zd_TI_newShelves_22 (fun H locs hP hD hS => ?_)
  obtain ⟨T2, eT2⟩ : ∃ T, T = T1 ++ wl (rng (b + 3) 2) AC a1 μz := ⟨_, rfl⟩
  obtain ⟨G2, eG2⟩ : ∃ G, G = va_up G1 (Int32.toNatClampNeg 1) (some q1) := ⟨_, rfl⟩
  have hP : va_P D cl ((h0, .inl (AC 5, 4, .inr (.inr (.inr (.inr G2))))) :: T2) H := by rw [eT2, eG2]; exact hP
  have hD : va_D A ((h0, .inl (AC 5, 4, .inr (.inr (.inr (.inr G2))))) :: T2) := by rw [eT2, eG2]; exact hD
  refine lv_iinc (v := (2 : Int32)) (lv' := [(1, .int 2), (0, .ref h0)]) hx hb zd_TI_newShelves_23 hl (k := 0) rfl (by decide) (by decide) rfl (fun ls hl => ?_)
  refine lv_goto (tgt := 7) hx hb zd_TI_newShelves_26 (by decide) ?_
  refine lv_iload_n hx hb zd_TI_newShelves_7 rfl (lv_at hl 0 rfl) ?_
  refine lv_aload_n hx hb zd_TI_newShelves_8 rfl (lv_at hl 1 rfl) ?_
  refine va_alen hx hb hK hP 0 5 rfl rfl (v := (4 : Int32)) rfl zd_TI_newShelves_9 ?_
  refine lv_icmp_ge (tgt := 29) hx hb zd_TI_newShelves_10 (by decide) (fun c_ => absurd c_ (by decide)) (fun _ => ?_)
  refine lv_aload_n hx hb zd_TI_newShelves_13 rfl (lv_at hl 1 rfl) ?_
  refine lv_iload_n hx hb zd_TI_newShelves_14 rfl (lv_at hl 0 rfl) ?_
  refine va_new (ci := 4) (fs := [.int 0, .int 0, .null]) (C := "TypesInside$Shelf") (T := fT4) (N := 3) hx hb hts clw4 fY4 fYok4 hown (hts _ zw149) (hts _ zw151) (hts _ zw6) hK hP hD hS hA rfl (fun j hj => by rcases (show j = 0 ∨ j = 1 ∨ j = 2 by omega) with rfl | rfl | rfl <;> rfl) (Nat.le_of_ble_eq_true rfl) (Nat.le_of_ble_eq_true rfl) zd_TI_newShelves_15 (fun q2 H hP hD hS => ?_)
  have hP : va_P D cl (((h0, .inl (AC 5, 4, .inr (.inr (.inr (.inr G2))))) :: T2) ++ [(q2, .inr (4, [.int 0, .int 0, .null]))]) H := hP
  have hD : va_D A (((h0, .inl (AC 5, 4, .inr (.inr (.inr (.inr G2))))) :: T2) ++ [(q2, .inr (4, [.int 0, .int 0, .null]))]) := hD
  refine lv_dup hx hb zd_TI_newShelves_18 rfl ?_
  have hPc := P_r hP
  have hDc := D_r hD
  have hFc := free2 hD hS hA
  refine va_callv (va_runIN (As := []) (rest := [.ref q2, .int 2, .ref h0]) ⟨hx, hb, hml, hown, hts⟩ (c_Sh_init l D AC q2 H.size (b + 5) (hm2)) (⟨va_cnB (own := "TypesInside") (host := "TypesInside") (index := 76) 0 hts (LW_gin zw154) rfl rfl rfl (N6_5 hK6.2.2.2.2) (hts _ zw6) zh_Sh_init ⟨Nat.le_of_ble_eq_true rfl, Nat.le_of_ble_eq_true rfl⟩, rfl, hts _ zw153⟩) ⟨fun a U g mk q => by obtain ⟨q0, q1, qP, qK, qD⟩ := q; exact ⟨q0, q1, qP, K6.same (u := U) (U := U.calling g mk a) rfl qK, qD⟩, fun U hU hW => ⟨rfl, by rw [hU], by rw [hU]; exact hPc, hK6.warm hW, hDc.weaken (fun _ _ _ _ => trivial)⟩⟩ rfl rfl hl.1 rfl (lv_room (Nat.le_of_ble_eq_true rfl)) zd_TI_newShelves_19 ⟨Nat.le_of_ble_eq_true rfl, Nat.le_of_ble_eq_true rfl⟩) hS (fun q _ h => hFc q h) hFc (fun a2 t H1 locs ht hvm hw hB hz1 hk1 hS => ?_)
  obtain ⟨hP1, hD1⟩ := hB
  rw [ht] at hP1
  obtain ⟨hP, hD⟩ := join2 hP hD hk1 hFc hP1 hD1
  have ha2 : a2 (b + 5) = q2 := hw
  obtain ⟨qk2, hqk2⟩ := blk_in (AC := AC) (μ := μz) (n := 2) (c := 4) (X := (h0, .inl (AC 5, 4, .inr (.inr (.inr (.inr G2))))) :: T2) (by decide) hob2 ha2
  refine va_astq hx hb hK hP hD hS 0 5 qk2 4 (r := ("TypesInside$Shelf", fT4, 3)) rfl rfl hqk2 rfl (i := (2 : Int32)) (by unfold vp_in; decide) zd_TI_newShelves_22 (fun H locs hP hD hS => ?_)
  obtain ⟨T3, eT3⟩ : ∃ T, T = T2 ++ wl (rng (b + 5) 2) AC a2 μz := ⟨_, rfl⟩
  obtain ⟨G3, eG3⟩ : ∃ G, G = va_up G2 (Int32.toNatClampNeg 2) (some q2) := ⟨_, rfl⟩
  have hP : va_P D cl ((h0, .inl (AC 5, 4, .inr (.inr (.inr (.inr G3))))) :: T3) H := by rw [eT3, eG3]; exact hP
  have hD : va_D A ((h0, .inl (AC 5, 4, .inr (.inr (.inr (.inr G3))))) :: T3) := by rw [eT3, eG3]; exact hD
  refine lv_iinc (v := (3 : Int32)) (lv' := [(1, .int 3), (0, .ref h0)]) hx hb zd_TI_newShelves_23 hl (k := 0) rfl (by decide) (by decide) rfl (fun ls hl => ?_)
  refine lv_goto (tgt := 7) hx hb zd_TI_newShelves_26 (by decide) ?_
  refine lv_iload_n hx hb zd_TI_newShelves_7 rfl (lv_at hl 0 rfl) ?_
  refine lv_aload_n hx hb zd_TI_newShelves_8 rfl (lv_at hl 1 rfl) ?_
  refine va_alen hx hb hK hP 0 5 rfl rfl (v := (4 : Int32)) rfl zd_TI_newShelves_9 ?_
  refine lv_icmp_ge (tgt := 29) hx hb zd_TI_newShelves_10 (by decide) (fun c_ => absurd c_ (by decide)) (fun _ => ?_)
  refine lv_aload_n hx hb zd_TI_newShelves_13 rfl (lv_at hl 1 rfl) ?_
  refine lv_iload_n hx hb zd_TI_newShelves_14 rfl (lv_at hl 0 rfl) ?_
  refine va_new (ci := 4) (fs := [.int 0, .int 0, .null]) (C := "TypesInside$Shelf") (T := fT4) (N := 3) hx hb hts clw4 fY4 fYok4 hown (hts _ zw149) (hts _ zw151) (hts _ zw6) hK hP hD hS hA rfl (fun j hj => by rcases (show j = 0 ∨ j = 1 ∨ j = 2 by omega) with rfl | rfl | rfl <;> rfl) (Nat.le_of_ble_eq_true rfl) (Nat.le_of_ble_eq_true rfl) zd_TI_newShelves_15 (fun q3 H hP hD hS => ?_)
  have hP : va_P D cl (((h0, .inl (AC 5, 4, .inr (.inr (.inr (.inr G3))))) :: T3) ++ [(q3, .inr (4, [.int 0, .int 0, .null]))]) H := hP
  have hD : va_D A (((h0, .inl (AC 5, 4, .inr (.inr (.inr (.inr G3))))) :: T3) ++ [(q3, .inr (4, [.int 0, .int 0, .null]))]) := hD
  refine lv_dup hx hb zd_TI_newShelves_18 rfl ?_
  have hPc := P_r hP
  have hDc := D_r hD
  have hFc := free2 hD hS hA
  refine va_callv (va_runIN (As := []) (rest := [.ref q3, .int 3, .ref h0]) ⟨hx, hb, hml, hown, hts⟩ (c_Sh_init l D AC q3 H.size (b + 7) (hm3)) (⟨va_cnB (own := "TypesInside") (host := "TypesInside") (index := 76) 0 hts (LW_gin zw154) rfl rfl rfl (N6_5 hK6.2.2.2.2) (hts _ zw6) zh_Sh_init ⟨Nat.le_of_ble_eq_true rfl, Nat.le_of_ble_eq_true rfl⟩, rfl, hts _ zw153⟩) ⟨fun a U g mk q => by obtain ⟨q0, q1, qP, qK, qD⟩ := q; exact ⟨q0, q1, qP, K6.same (u := U) (U := U.calling g mk a) rfl qK, qD⟩, fun U hU hW => ⟨rfl, by rw [hU], by rw [hU]; exact hPc, hK6.warm hW, hDc.weaken (fun _ _ _ _ => trivial)⟩⟩ rfl rfl hl.1 rfl (lv_room (Nat.le_of_ble_eq_true rfl)) zd_TI_newShelves_19 ⟨Nat.le_of_ble_eq_true rfl, Nat.le_of_ble_eq_true rfl⟩) hS (fun q _ h => hFc q h) hFc (fun a3 t H1 locs ht hvm hw hB hz1 hk1 hS => ?_)
  obtain ⟨hP1, hD1⟩ := hB
  rw [ht] at hP1
  obtain ⟨hP, hD⟩ := join2 hP hD hk1 hFc hP1 hD1
  have ha3 : a3 (b + 7) = q3 := hw
  obtain ⟨qk3, hqk3⟩ := blk_in (AC := AC) (μ := μz) (n := 2) (c := 4) (X := (h0, .inl (AC 5, 4, .inr (.inr (.inr (.inr G3))))) :: T3) (by decide) hob3 ha3
  refine va_astq hx hb hK hP hD hS 0 5 qk3 4 (r := ("TypesInside$Shelf", fT4, 3)) rfl rfl hqk3 rfl (i := (3 : Int32)) (by unfold vp_in; decide) zd_TI_newShelves_22 (fun H locs hP hD hS => ?_)
  obtain ⟨T4, eT4⟩ : ∃ T, T = T3 ++ wl (rng (b + 7) 2) AC a3 μz := ⟨_, rfl⟩
  obtain ⟨G4, eG4⟩ : ∃ G, G = va_up G3 (Int32.toNatClampNeg 3) (some q3) := ⟨_, rfl⟩
  have hP : va_P D cl ((h0, .inl (AC 5, 4, .inr (.inr (.inr (.inr G4))))) :: T4) H := by rw [eT4, eG4]; exact hP
  have hD : va_D A ((h0, .inl (AC 5, 4, .inr (.inr (.inr (.inr G4))))) :: T4) := by rw [eT4, eG4]; exact hD
  refine lv_iinc (v := (4 : Int32)) (lv' := [(1, .int 4), (0, .ref h0)]) hx hb zd_TI_newShelves_23 hl (k := 0) rfl (by decide) (by decide) rfl (fun ls hl => ?_)
  refine lv_goto (tgt := 7) hx hb zd_TI_newShelves_26 (by decide) ?_
  refine lv_iload_n hx hb zd_TI_newShelves_7 rfl (lv_at hl 0 rfl) ?_
  refine lv_aload_n hx hb zd_TI_newShelves_8 rfl (lv_at hl 1 rfl) ?_
  refine va_alen hx hb hK hP 0 5 rfl rfl (v := (4 : Int32)) rfl zd_TI_newShelves_9 ?_
  refine lv_icmp_ge (tgt := 29) hx hb zd_TI_newShelves_10 (by decide) (fun _ => ?_) (fun c_ => absurd (by decide) c_)
  refine lv_aload_n hx hb zd_TI_newShelves_29 rfl (lv_at hl 1 rfl) ?_
  obtain ⟨ad, ead⟩ : ∃ ad : Nat → Nat, ad = fun k => if k < b + 1 then h0 else if k < b + 3 then a0 k else if k < b + 5 then a1 k else if k < b + 7 then a2 k else a3 k := ⟨_, rfl⟩
  have had : ad b = h0 := by rw [ead]; exact if_pos (by omega)
  have g0 : ∀ k, b + 1 ≤ k → k < b + 1 + 2 → ad k = a0 k := fun k k1 k2 => by rw [ead]; show (if _ then _ else _) = _; rw [if_neg (by omega), if_pos (by omega)]
  have g1 : ∀ k, b + 3 ≤ k → k < b + 3 + 2 → ad k = a1 k := fun k k1 k2 => by rw [ead]; show (if _ then _ else _) = _; rw [if_neg (by omega), if_neg (by omega), if_pos (by omega)]
  have g2 : ∀ k, b + 5 ≤ k → k < b + 5 + 2 → ad k = a2 k := fun k k1 k2 => by rw [ead]; show (if _ then _ else _) = _; rw [if_neg (by omega), if_neg (by omega), if_neg (by omega), if_pos (by omega)]
  have g3 : ∀ k, b + 7 ≤ k → k < b + 7 + 2 → ad k = a3 k := fun k k1 k2 => by rw [ead]; show (if _ then _ else _) = _; rw [if_neg (by omega), if_neg (by omega), if_neg (by omega), if_neg (by omega)]
  have hPT := P_tl hP
  rw [eT4] at hPT
  have p3 := P_r hPT
  have hPT := P_l hPT
  rw [eT3] at hPT
  have p2 := P_r hPT
  have hPT := P_l hPT
  rw [eT2] at hPT
  have p1 := P_r hPT
  have hPT := P_l hPT
  rw [eT1] at hPT
  have p0 := P_r hPT
  have hPT := P_l hPT
  have P0 : va_P D cl (wl (rng (b + 1) 0) AC ad μz) H := P_0
  have m0 : T0.map (fun x => x.1) = (rng (b + 1) 0).map ad := by rw [eT0]; rfl
  have P1 : va_P D cl (wl (rng (b + 1) 2) AC ad μz) H := P_step P0 (wl_mv (ad1 := a0) (hc0) g0 p0)
  have m1 : T1.map (fun x => x.1) = (rng (b + 1) 2).map ad := m_step m0 eT1 (blk_m g0)
  have P2 : va_P D cl (wl (rng (b + 1) 4) AC ad μz) H := P_step P1 (wl_mv (ad1 := a1) (hc1) g1 p1)
  have m2 : T2.map (fun x => x.1) = (rng (b + 1) 4).map ad := m_step m1 eT2 (blk_m g1)
  have P3 : va_P D cl (wl (rng (b + 1) 6) AC ad μz) H := P_step P2 (wl_mv (ad1 := a2) (hc2) g2 p2)
  have m3 : T3.map (fun x => x.1) = (rng (b + 1) 6).map ad := m_step m2 eT3 (blk_m g2)
  have P4 : va_P D cl (wl (rng (b + 1) 8) AC ad μz) H := P_step P3 (wl_mv (ad1 := a3) (hc3) g3 p3)
  have m4 : T4.map (fun x => x.1) = (rng (b + 1) 8).map ad := m_step m3 eT4 (blk_m g3)
  have hG : ∀ j, j < 4 → G4 j = some (ad (sub b j)) := fun j hj => by
    rcases (show j = 0 ∨ j = 1 ∨ j = 2 ∨ j = 3 by omega) with rfl | rfl | rfl | rfl
    · rw [hs0, (g0 _ (by omega) (by omega)).trans ha0, eG4, eG3, eG2, eG1]; rfl
    · rw [hs1, (g1 _ (by omega) (by omega)).trans ha1, eG4, eG3, eG2, eG1]; rfl
    · rw [hs2, (g2 _ (by omega) (by omega)).trans ha2, eG4, eG3, eG2, eG1]; rfl
    · rw [hs3, (g3 _ (by omega) (by omega)).trans ha3, eG4, eG3, eG2, eG1]; rfl
  have hPf : va_P D cl (wl (rng b 9) AC ad μz) H := headQ_P (n := 8) (m := 4) hkb (by decide) (by decide) hNb hG had hP P4
  have hDf : va_D A (wl (rng b 9) AC ad μz) := head_D (n := 8) had hD m4
  refine W.widen (k := 9) (n := 96) (Nat.le_of_ble_eq_true rfl) (Nat.le_of_ble_eq_true rfl) ?_
  exact W.aret hx hb hr (Or.inr ⟨_, rfl⟩) (Or.inr ⟨_, rfl⟩) (fun t ht hW => ⟨⟨ad, h0, rfl, trivial, had, by rw [ht]; exact hPf, hDf⟩, hS.F ht⟩) hS.2.2 zd_TI_newShelves_30
theorem zd_Gr_init_0 : decode prog_4_method_1_code 0 = .ok (.aload_n 0, 1) := by decide +kernel
theorem zd_Gr_init_1 : decode prog_4_method_1_code 1 = .ok (.invokespecial 1, 3) := by decide +kernel
theorem zd_Gr_init_4 : decode prog_4_method_1_code 4 = .ok (.aload_n 0, 1) := by decide +kernel
theorem zd_Gr_init_5 : decode prog_4_method_1_code 5 = .ok (.iconst 0, 1) := by decide +kernel
theorem zd_Gr_init_6 : decode prog_4_method_1_code 6 = .ok (.putfield 7, 3) := by decide +kernel
theorem zd_Gr_init_9 : decode prog_4_method_1_code 9 = .ok (.aload_n 0, 1) := by decide +kernel
theorem zd_Gr_init_10 : decode prog_4_method_1_code 10 = .ok (.iconst 2, 1) := by decide +kernel
theorem zd_Gr_init_11 : decode prog_4_method_1_code 11 = .ok (.putfield 13, 3) := by decide +kernel
theorem zd_Gr_init_14 : decode prog_4_method_1_code 14 = .ok (.aload_n 0, 1) := by decide +kernel
theorem zd_Gr_init_15 : decode prog_4_method_1_code 15 = .ok (.iconst 1, 1) := by decide +kernel
theorem zd_Gr_init_16 : decode prog_4_method_1_code 16 = .ok (.putfield 16, 3) := by decide +kernel
theorem zd_Gr_init_19 : decode prog_4_method_1_code 19 = .ok (.aload_n 0, 1) := by decide +kernel
theorem zd_Gr_init_20 : decode prog_4_method_1_code 20 = .ok (.iconst 0, 1) := by decide +kernel
theorem zd_Gr_init_21 : decode prog_4_method_1_code 21 = .ok (.putfield 19, 3) := by decide +kernel
theorem zd_Gr_init_24 : decode prog_4_method_1_code 24 = .ok (.aload_n 0, 1) := by decide +kernel
theorem zd_Gr_init_25 : decode prog_4_method_1_code 25 = .ok (.iconst 5, 1) := by decide +kernel
theorem zd_Gr_init_26 : decode prog_4_method_1_code 26 = .ok (.newarray .int, 2) := by decide +kernel
theorem zd_Gr_init_28 : decode prog_4_method_1_code 28 = .ok (.putfield 24, 3) := by decide +kernel
theorem zd_Gr_init_31 : decode prog_4_method_1_code 31 = .ok (.aload_n 0, 1) := by decide +kernel
theorem zd_Gr_init_32 : decode prog_4_method_1_code 32 = .ok (.iconst 5, 1) := by decide +kernel
theorem zd_Gr_init_33 : decode prog_4_method_1_code 33 = .ok (.newarray .int, 2) := by decide +kernel
theorem zd_Gr_init_35 : decode prog_4_method_1_code 35 = .ok (.putfield 28, 3) := by decide +kernel
theorem zd_Gr_init_38 : decode prog_4_method_1_code 38 = .ok (.aload_n 0, 1) := by decide +kernel
theorem zd_Gr_init_39 : decode prog_4_method_1_code 39 = .ok (.sipush 1024, 3) := by decide +kernel
theorem zd_Gr_init_42 : decode prog_4_method_1_code 42 = .ok (.newarray .int, 2) := by decide +kernel
theorem zd_Gr_init_44 : decode prog_4_method_1_code 44 = .ok (.putfield 31, 3) := by decide +kernel
theorem zd_Gr_init_47 : decode prog_4_method_1_code 47 = .ok (.aload_n 0, 1) := by decide +kernel
theorem zd_Gr_init_48 : decode prog_4_method_1_code 48 = .ok (.bipush 32, 2) := by decide +kernel
theorem zd_Gr_init_50 : decode prog_4_method_1_code 50 = .ok (.newarray .int, 2) := by decide +kernel
theorem zd_Gr_init_52 : decode prog_4_method_1_code 52 = .ok (.putfield 34, 3) := by decide +kernel
theorem zd_Gr_init_55 : decode prog_4_method_1_code 55 = .ok (.aload_n 0, 1) := by decide +kernel
theorem zd_Gr_init_56 : decode prog_4_method_1_code 56 = .ok (.iconst 0, 1) := by decide +kernel
theorem zd_Gr_init_57 : decode prog_4_method_1_code 57 = .ok (.putfield 37, 3) := by decide +kernel
theorem zd_Gr_init_60 : decode prog_4_method_1_code 60 = .ok (.aload_n 0, 1) := by decide +kernel
theorem zd_Gr_init_61 : decode prog_4_method_1_code 61 = .ok (.iconst 0, 1) := by decide +kernel
theorem zd_Gr_init_62 : decode prog_4_method_1_code 62 = .ok (.putfield 41, 3) := by decide +kernel
theorem zd_Gr_init_65 : decode prog_4_method_1_code 65 = .ok (.aload_n 0, 1) := by decide +kernel
theorem zd_Gr_init_66 : decode prog_4_method_1_code 66 = .ok (.sipush 400, 3) := by decide +kernel
theorem zd_Gr_init_69 : decode prog_4_method_1_code 69 = .ok (.newarray .long, 2) := by decide +kernel
theorem zd_Gr_init_71 : decode prog_4_method_1_code 71 = .ok (.putfield 44, 3) := by decide +kernel
theorem zd_Gr_init_74 : decode prog_4_method_1_code 74 = .ok (.aload_n 0, 1) := by decide +kernel
theorem zd_Gr_init_75 : decode prog_4_method_1_code 75 = .ok (.sipush 400, 3) := by decide +kernel
theorem zd_Gr_init_78 : decode prog_4_method_1_code 78 = .ok (.newarray .int, 2) := by decide +kernel
theorem zd_Gr_init_80 : decode prog_4_method_1_code 80 = .ok (.putfield 48, 3) := by decide +kernel
theorem zd_Gr_init_83 : decode prog_4_method_1_code 83 = .ok (.aload_n 0, 1) := by decide +kernel
theorem zd_Gr_init_84 : decode prog_4_method_1_code 84 = .ok (.sipush 400, 3) := by decide +kernel
theorem zd_Gr_init_87 : decode prog_4_method_1_code 87 = .ok (.newarray .int, 2) := by decide +kernel
theorem zd_Gr_init_89 : decode prog_4_method_1_code 89 = .ok (.putfield 51, 3) := by decide +kernel
theorem zd_Gr_init_92 : decode prog_4_method_1_code 92 = .ok (.return_, 1) := by decide +kernel
set_option maxHeartbeats 4000000 in
theorem c_Gr_init (l : Launch) (D : va_G) (AC : Nat → ClassId) (h0 sz : Nat) : Met l ⟨"TypesInside$Group", "<init>", "()V"⟩ (ws_ ⟨"TypesInside$Group", "<init>", "()V"⟩ prog_4_method_1_code 1 none) ({ frames := 1, cells := 7, slots := 2266, locals := 32 }) (va_Pc [.ref h0] (fun U => U.heap.size = sz ∧ va_P D cl [(h0, .inr (2, [.int 0, .int 0, .int 0, .int 0, .null, .null, .null, .null, .int 0, .int 0, .null, .null, .null]))] U.heap ∧ K6 D AC U ∧ va_D (fun _ => True) [(h0, .inr (2, [.int 0, .int 0, .int 0, .int 0, .null, .null, .null, .null, .int 0, .int 0, .null, .null, .null]))])) (va_Qv (fun ad : Nat → Nat => ad (61) = h0) (fun ad t => va_P D cl (wl (rng (61) 8) AC ad μz) t.heap ∧ va_D (va_A [(h0, .inr (2, [.int 0, .int 0, .int 0, .int 0, .null, .null, .null, .null, .int 0, .int 0, .null, .null, .null]))] sz) (wl (rng (61) 8) AC ad μz)) (va_A [(h0, .inr (2, [.int 0, .int 0, .int 0, .int 0, .null, .null, .null, .null, .int 0, .int 0, .null, .null, .null]))] sz)) 7 2266 (va_A [(h0, .inr (2, [.int 0, .int 0, .int 0, .int 0, .null, .null, .null, .null, .int 0, .int 0, .null, .null, .null]))] sz) := by
  refine Met.ofW (cc := prog_4_method_1_code) (maxL := 1) (ret := none) (by decide) rfl ?_
  intro p e s m args below meth c s₁ B hml hv
  obtain ⟨rfl, hsz, hP, hK6, hD0⟩ := hv
  have hK := hK6.1
  have hx := B.exec
  have hb := B.bytes
  have hr := B.returns
  have hts0 := atoms_spec (ws := ws_ ⟨"TypesInside$Group", "<init>", "()V"⟩ prog_4_method_1_code 1 none) B.pre
  have hts : ∀ w ∈ LW, w.before _ s = true := fun w hw => hts0 w (List.mem_cons_of_mem _ hw)
  have hown : s.vm.findClass "TypesInside$Group" = some m.cls := findClass_of_methodNamed B.named
  have hlocks := B.notSynchronized
  have hin : meth.name = "<init>" := (name_of_methodNamed B.named B.method).1
  subst hsz
  have hD := hD0.self (sz := s.heap.size)
  generalize hAe : va_A [(h0, .inr (2, [.int 0, .int 0, .int 0, .int 0, .null, .null, .null, .null, .int 0, .int 0, .null, .null, .null]))] s.heap.size = A at hD ⊢
  have hA : ∀ q : Nat, s.heap.size ≤ q → A q := fun q h => by rw [← hAe]; exact Or.inr h
  have hS : va_S A s.heap s.heap [] := va_S.rf
  have hl := lv_entry ([.ref h0]) (n := 1) (Nat.le_of_ble_eq_true rfl)
  rw [lg_entry_eq]
  generalize (lg_sl ([.ref h0]) ++ List.replicate (1 - (lg_sl ([.ref h0])).length) Slot.unset).toArray = ls at hl ⊢
  have hl : lv_has ls 1 [(0, .ref h0)] := hl
  obtain ⟨T0, eT0⟩ : ∃ T : va_W, T = [] := ⟨_, rfl⟩
  have hP : va_P D cl ((h0, .inr (2, [.int 0, .int 0, .int 0, .int 0, .null, .null, .null, .null, .int 0, .int 0, .null, .null, .null])) :: T0) s.heap := by rw [eT0]; exact hP
  have hD : va_D A ((h0, .inr (2, [.int 0, .int 0, .int 0, .int 0, .null, .null, .null, .null, .int 0, .int 0, .null, .null, .null])) :: T0) := by rw [eT0]; exact hD
  refine lv_aload_n hx hb zd_Gr_init_0 rfl (lv_at hl 0 rfl) ?_
  refine W.objInit hx hb hown (hts _ zw52) (hts _ zw17) (hts _ zw18) rfl (by rw [hml]; exact hl.1) rfl zd_Gr_init_1 (Nat.le_of_ble_eq_true rfl) (Nat.le_of_ble_eq_true rfl) ?_
  refine W.eq (g2 := F0 m 4 ls []) rfl ?_
  refine lv_aload_n hx hb zd_Gr_init_4 rfl (lv_at hl 0 rfl) ?_
  refine lv_iconst (v := (0 : Int32)) hx hb zd_Gr_init_5 (by decide) ?_
  refine va_put (D := D) (ci := 2) (v := .int (0 : Int32)) (C := "TypesInside$Group") (T := fT2) (N := 13) hx hb hts clw2 fY2 fYok2 zn2 hown hK hP hD hS 0 rfl rfl 0 (by decide) (hts _ zw53) (fun _ h9 => h9) rfl (ty := fY2 0) (fYok2 0 (by decide)) rfl rfl (Nat.le_of_ble_eq_true rfl) zd_Gr_init_6 (fun H locs hP hD hS => ?_)
  have hP : va_P D cl ((h0, .inr (2, [.int (0 : Int32), .int 0, .int 0, .int 0, .null, .null, .null, .null, .int 0, .int 0, .null, .null, .null])) :: T0) H := hP
  have hD : va_D A ((h0, .inr (2, [.int (0 : Int32), .int 0, .int 0, .int 0, .null, .null, .null, .null, .int 0, .int 0, .null, .null, .null])) :: T0) := hD
  refine lv_aload_n hx hb zd_Gr_init_9 rfl (lv_at hl 0 rfl) ?_
  refine lv_iconst (v := (2 : Int32)) hx hb zd_Gr_init_10 (by decide) ?_
  refine va_put (D := D) (ci := 2) (v := .int (2 : Int32)) (C := "TypesInside$Group") (T := fT2) (N := 13) hx hb hts clw2 fY2 fYok2 zn2 hown hK hP hD hS 0 rfl rfl 1 (by decide) (hts _ zw54) (fun _ h9 => h9) rfl (ty := fY2 1) (fYok2 1 (by decide)) rfl rfl (Nat.le_of_ble_eq_true rfl) zd_Gr_init_11 (fun H locs hP hD hS => ?_)
  have hP : va_P D cl ((h0, .inr (2, [.int (0 : Int32), .int (2 : Int32), .int 0, .int 0, .null, .null, .null, .null, .int 0, .int 0, .null, .null, .null])) :: T0) H := hP
  have hD : va_D A ((h0, .inr (2, [.int (0 : Int32), .int (2 : Int32), .int 0, .int 0, .null, .null, .null, .null, .int 0, .int 0, .null, .null, .null])) :: T0) := hD
  refine lv_aload_n hx hb zd_Gr_init_14 rfl (lv_at hl 0 rfl) ?_
  refine lv_iconst (v := (1 : Int32)) hx hb zd_Gr_init_15 (by decide) ?_
  refine va_put (D := D) (ci := 2) (v := .int (1 : Int32)) (C := "TypesInside$Group") (T := fT2) (N := 13) hx hb hts clw2 fY2 fYok2 zn2 hown hK hP hD hS 0 rfl rfl 2 (by decide) (hts _ zw55) (fun _ h9 => h9) rfl (ty := fY2 2) (fYok2 2 (by decide)) rfl rfl (Nat.le_of_ble_eq_true rfl) zd_Gr_init_16 (fun H locs hP hD hS => ?_)
  have hP : va_P D cl ((h0, .inr (2, [.int (0 : Int32), .int (2 : Int32), .int (1 : Int32), .int 0, .null, .null, .null, .null, .int 0, .int 0, .null, .null, .null])) :: T0) H := hP
  have hD : va_D A ((h0, .inr (2, [.int (0 : Int32), .int (2 : Int32), .int (1 : Int32), .int 0, .null, .null, .null, .null, .int 0, .int 0, .null, .null, .null])) :: T0) := hD
  refine lv_aload_n hx hb zd_Gr_init_19 rfl (lv_at hl 0 rfl) ?_
  refine lv_iconst (v := (0 : Int32)) hx hb zd_Gr_init_20 (by decide) ?_
  refine va_put (D := D) (ci := 2) (v := .int (0 : Int32)) (C := "TypesInside$Group") (T := fT2) (N := 13) hx hb hts clw2 fY2 fYok2 zn2 hown hK hP hD hS 0 rfl rfl 3 (by decide) (hts _ zw56) (fun _ h9 => h9) rfl (ty := fY2 3) (fYok2 3 (by decide)) rfl rfl (Nat.le_of_ble_eq_true rfl) zd_Gr_init_21 (fun H locs hP hD hS => ?_)
  have hP : va_P D cl ((h0, .inr (2, [.int (0 : Int32), .int (2 : Int32), .int (1 : Int32), .int (0 : Int32), .null, .null, .null, .null, .int 0, .int 0, .null, .null, .null])) :: T0) H := hP
  have hD : va_D A ((h0, .inr (2, [.int (0 : Int32), .int (2 : Int32), .int (1 : Int32), .int (0 : Int32), .null, .null, .null, .null, .int 0, .int 0, .null, .null, .null])) :: T0) := hD
  refine lv_aload_n hx hb zd_Gr_init_24 rfl (lv_at hl 0 rfl) ?_
  refine lv_iconst (v := (5 : Int32)) hx hb zd_Gr_init_25 (by decide) ?_
  refine va_newa (atype := .int) (ty := .int) hx hb (hts _ zw93) rfl hK hP hD hS hA (n := 5) (N' := 5) (a0 := (5, .inl (fun _ => (0 : Int32)))) (fun _ => rfl) (by decide) (by decide) (Nat.le_of_ble_eq_true rfl) (Nat.le_of_ble_eq_true rfl) (Nat.le_of_ble_eq_true rfl) zd_Gr_init_26 (fun q1 cA H hK1 hP hD hS => ?_)
  obtain rfl := K_new 0 hK1 rfl
  obtain ⟨T1, eT1⟩ : ∃ T, T = T0 ++ [(q1, .inl (AC 0, 5, .inl (fun _ => (0 : Int32))))] := ⟨_, rfl⟩
  have hP : va_P D cl ((h0, .inr (2, [.int (0 : Int32), .int (2 : Int32), .int (1 : Int32), .int (0 : Int32), .null, .null, .null, .null, .int 0, .int 0, .null, .null, .null])) :: T1) H := by rw [eT1]; exact hP
  have hD : va_D A ((h0, .inr (2, [.int (0 : Int32), .int (2 : Int32), .int (1 : Int32), .int (0 : Int32), .null, .null, .null, .null, .int 0, .int 0, .null, .null, .null])) :: T1) := by rw [eT1]; exact hD
  refine va_putF (D := D) (ci := 2) (v := .ref q1) (C := "TypesInside$Group") (T := fT2) (N := 13) hx hb hts clw2 fY2 fYok2 zn2 hown hK hP hD hS 0 rfl rfl 4 (by decide) (hts _ zw57) (fun _ h9 => h9) rfl hin rfl (ty := fY2 4) (fYok2 4 (by decide)) rfl rfl (Nat.le_of_ble_eq_true rfl) zd_Gr_init_28 (fun H locs hP hD hS => ?_)
  have hP : va_P D cl ((h0, .inr (2, [.int (0 : Int32), .int (2 : Int32), .int (1 : Int32), .int (0 : Int32), .ref q1, .null, .null, .null, .int 0, .int 0, .null, .null, .null])) :: T1) H := hP
  have hD : va_D A ((h0, .inr (2, [.int (0 : Int32), .int (2 : Int32), .int (1 : Int32), .int (0 : Int32), .ref q1, .null, .null, .null, .int 0, .int 0, .null, .null, .null])) :: T1) := hD
  refine lv_aload_n hx hb zd_Gr_init_31 rfl (lv_at hl 0 rfl) ?_
  refine lv_iconst (v := (5 : Int32)) hx hb zd_Gr_init_32 (by decide) ?_
  refine va_newa (atype := .int) (ty := .int) hx hb (hts _ zw93) rfl hK hP hD hS hA (n := 5) (N' := 5) (a0 := (5, .inl (fun _ => (0 : Int32)))) (fun _ => rfl) (by decide) (by decide) (Nat.le_of_ble_eq_true rfl) (Nat.le_of_ble_eq_true rfl) (Nat.le_of_ble_eq_true rfl) zd_Gr_init_33 (fun q2 cA H hK1 hP hD hS => ?_)
  obtain rfl := K_new 0 hK1 rfl
  obtain ⟨T2, eT2⟩ : ∃ T, T = T1 ++ [(q2, .inl (AC 0, 5, .inl (fun _ => (0 : Int32))))] := ⟨_, rfl⟩
  have hP : va_P D cl ((h0, .inr (2, [.int (0 : Int32), .int (2 : Int32), .int (1 : Int32), .int (0 : Int32), .ref q1, .null, .null, .null, .int 0, .int 0, .null, .null, .null])) :: T2) H := by rw [eT2]; exact hP
  have hD : va_D A ((h0, .inr (2, [.int (0 : Int32), .int (2 : Int32), .int (1 : Int32), .int (0 : Int32), .ref q1, .null, .null, .null, .int 0, .int 0, .null, .null, .null])) :: T2) := by rw [eT2]; exact hD
  refine va_putF (D := D) (ci := 2) (v := .ref q2) (C := "TypesInside$Group") (T := fT2) (N := 13) hx hb hts clw2 fY2 fYok2 zn2 hown hK hP hD hS 0 rfl rfl 5 (by decide) (hts _ zw58) (fun _ h9 => h9) rfl hin rfl (ty := fY2 5) (fYok2 5 (by decide)) rfl rfl (Nat.le_of_ble_eq_true rfl) zd_Gr_init_35 (fun H locs hP hD hS => ?_)
  have hP : va_P D cl ((h0, .inr (2, [.int (0 : Int32), .int (2 : Int32), .int (1 : Int32), .int (0 : Int32), .ref q1, .ref q2, .null, .null, .int 0, .int 0, .null, .null, .null])) :: T2) H := hP
  have hD : va_D A ((h0, .inr (2, [.int (0 : Int32), .int (2 : Int32), .int (1 : Int32), .int (0 : Int32), .ref q1, .ref q2, .null, .null, .int 0, .int 0, .null, .null, .null])) :: T2) := hD
  refine lv_aload_n hx hb zd_Gr_init_38 rfl (lv_at hl 0 rfl) ?_
  refine lv_sipush (v := (1024 : Int32)) hx hb zd_Gr_init_39 (by decide) ?_
  refine va_newa (atype := .int) (ty := .int) hx hb (hts _ zw93) rfl hK hP hD hS hA (n := 1024) (N' := 1024) (a0 := (1024, .inl (fun _ => (0 : Int32)))) (fun _ => rfl) (by decide) (by decide) (Nat.le_of_ble_eq_true rfl) (Nat.le_of_ble_eq_true rfl) (Nat.le_of_ble_eq_true rfl) zd_Gr_init_42 (fun q3 cA H hK1 hP hD hS => ?_)
  obtain rfl := K_new 0 hK1 rfl
  obtain ⟨T3, eT3⟩ : ∃ T, T = T2 ++ [(q3, .inl (AC 0, 1024, .inl (fun _ => (0 : Int32))))] := ⟨_, rfl⟩
  have hP : va_P D cl ((h0, .inr (2, [.int (0 : Int32), .int (2 : Int32), .int (1 : Int32), .int (0 : Int32), .ref q1, .ref q2, .null, .null, .int 0, .int 0, .null, .null, .null])) :: T3) H := by rw [eT3]; exact hP
  have hD : va_D A ((h0, .inr (2, [.int (0 : Int32), .int (2 : Int32), .int (1 : Int32), .int (0 : Int32), .ref q1, .ref q2, .null, .null, .int 0, .int 0, .null, .null, .null])) :: T3) := by rw [eT3]; exact hD
  refine va_putF (D := D) (ci := 2) (v := .ref q3) (C := "TypesInside$Group") (T := fT2) (N := 13) hx hb hts clw2 fY2 fYok2 zn2 hown hK hP hD hS 0 rfl rfl 6 (by decide) (hts _ zw59) (fun _ h9 => h9) rfl hin rfl (ty := fY2 6) (fYok2 6 (by decide)) rfl rfl (Nat.le_of_ble_eq_true rfl) zd_Gr_init_44 (fun H locs hP hD hS => ?_)
  have hP : va_P D cl ((h0, .inr (2, [.int (0 : Int32), .int (2 : Int32), .int (1 : Int32), .int (0 : Int32), .ref q1, .ref q2, .ref q3, .null, .int 0, .int 0, .null, .null, .null])) :: T3) H := hP
  have hD : va_D A ((h0, .inr (2, [.int (0 : Int32), .int (2 : Int32), .int (1 : Int32), .int (0 : Int32), .ref q1, .ref q2, .ref q3, .null, .int 0, .int 0, .null, .null, .null])) :: T3) := hD
  refine lv_aload_n hx hb zd_Gr_init_47 rfl (lv_at hl 0 rfl) ?_
  refine lv_bipush (v := (32 : Int32)) hx hb zd_Gr_init_48 (by decide) ?_
  refine va_newa (atype := .int) (ty := .int) hx hb (hts _ zw93) rfl hK hP hD hS hA (n := 32) (N' := 32) (a0 := (32, .inl (fun _ => (0 : Int32)))) (fun _ => rfl) (by decide) (by decide) (Nat.le_of_ble_eq_true rfl) (Nat.le_of_ble_eq_true rfl) (Nat.le_of_ble_eq_true rfl) zd_Gr_init_50 (fun q4 cA H hK1 hP hD hS => ?_)
  obtain rfl := K_new 0 hK1 rfl
  obtain ⟨T4, eT4⟩ : ∃ T, T = T3 ++ [(q4, .inl (AC 0, 32, .inl (fun _ => (0 : Int32))))] := ⟨_, rfl⟩
  have hP : va_P D cl ((h0, .inr (2, [.int (0 : Int32), .int (2 : Int32), .int (1 : Int32), .int (0 : Int32), .ref q1, .ref q2, .ref q3, .null, .int 0, .int 0, .null, .null, .null])) :: T4) H := by rw [eT4]; exact hP
  have hD : va_D A ((h0, .inr (2, [.int (0 : Int32), .int (2 : Int32), .int (1 : Int32), .int (0 : Int32), .ref q1, .ref q2, .ref q3, .null, .int 0, .int 0, .null, .null, .null])) :: T4) := by rw [eT4]; exact hD
  refine va_putF (D := D) (ci := 2) (v := .ref q4) (C := "TypesInside$Group") (T := fT2) (N := 13) hx hb hts clw2 fY2 fYok2 zn2 hown hK hP hD hS 0 rfl rfl 7 (by decide) (hts _ zw60) (fun _ h9 => h9) rfl hin rfl (ty := fY2 7) (fYok2 7 (by decide)) rfl rfl (Nat.le_of_ble_eq_true rfl) zd_Gr_init_52 (fun H locs hP hD hS => ?_)
  have hP : va_P D cl ((h0, .inr (2, [.int (0 : Int32), .int (2 : Int32), .int (1 : Int32), .int (0 : Int32), .ref q1, .ref q2, .ref q3, .ref q4, .int 0, .int 0, .null, .null, .null])) :: T4) H := hP
  have hD : va_D A ((h0, .inr (2, [.int (0 : Int32), .int (2 : Int32), .int (1 : Int32), .int (0 : Int32), .ref q1, .ref q2, .ref q3, .ref q4, .int 0, .int 0, .null, .null, .null])) :: T4) := hD
  refine lv_aload_n hx hb zd_Gr_init_55 rfl (lv_at hl 0 rfl) ?_
  refine lv_iconst (v := (0 : Int32)) hx hb zd_Gr_init_56 (by decide) ?_
  refine va_put (D := D) (ci := 2) (v := .int (0 : Int32)) (C := "TypesInside$Group") (T := fT2) (N := 13) hx hb hts clw2 fY2 fYok2 zn2 hown hK hP hD hS 0 rfl rfl 8 (by decide) (hts _ zw61) (fun _ h9 => h9) rfl (ty := fY2 8) (fYok2 8 (by decide)) rfl rfl (Nat.le_of_ble_eq_true rfl) zd_Gr_init_57 (fun H locs hP hD hS => ?_)
  have hP : va_P D cl ((h0, .inr (2, [.int (0 : Int32), .int (2 : Int32), .int (1 : Int32), .int (0 : Int32), .ref q1, .ref q2, .ref q3, .ref q4, .int (0 : Int32), .int 0, .null, .null, .null])) :: T4) H := hP
  have hD : va_D A ((h0, .inr (2, [.int (0 : Int32), .int (2 : Int32), .int (1 : Int32), .int (0 : Int32), .ref q1, .ref q2, .ref q3, .ref q4, .int (0 : Int32), .int 0, .null, .null, .null])) :: T4) := hD
  refine lv_aload_n hx hb zd_Gr_init_60 rfl (lv_at hl 0 rfl) ?_
  refine lv_iconst (v := (0 : Int32)) hx hb zd_Gr_init_61 (by decide) ?_
  refine va_put (D := D) (ci := 2) (v := .int (0 : Int32)) (C := "TypesInside$Group") (T := fT2) (N := 13) hx hb hts clw2 fY2 fYok2 zn2 hown hK hP hD hS 0 rfl rfl 9 (by decide) (hts _ zw62) (fun _ h9 => h9) rfl (ty := fY2 9) (fYok2 9 (by decide)) rfl rfl (Nat.le_of_ble_eq_true rfl) zd_Gr_init_62 (fun H locs hP hD hS => ?_)
  have hP : va_P D cl ((h0, .inr (2, [.int (0 : Int32), .int (2 : Int32), .int (1 : Int32), .int (0 : Int32), .ref q1, .ref q2, .ref q3, .ref q4, .int (0 : Int32), .int (0 : Int32), .null, .null, .null])) :: T4) H := hP
  have hD : va_D A ((h0, .inr (2, [.int (0 : Int32), .int (2 : Int32), .int (1 : Int32), .int (0 : Int32), .ref q1, .ref q2, .ref q3, .ref q4, .int (0 : Int32), .int (0 : Int32), .null, .null, .null])) :: T4) := hD
  refine lv_aload_n hx hb zd_Gr_init_65 rfl (lv_at hl 0 rfl) ?_
  refine lv_sipush (v := (400 : Int32)) hx hb zd_Gr_init_66 (by decide) ?_
  refine va_newa (atype := .long) (ty := .long) hx hb (hts _ zw46) rfl hK hP hD hS hA (n := 400) (N' := 400) (a0 := (400, .inr (.inl (fun _ => (0 : Int64))))) (fun _ => rfl) (by decide) (by decide) (Nat.le_of_ble_eq_true rfl) (Nat.le_of_ble_eq_true rfl) (Nat.le_of_ble_eq_true rfl) zd_Gr_init_69 (fun q5 cA H hK1 hP hD hS => ?_)
  obtain rfl := K_new 1 hK1 rfl
  obtain ⟨T5, eT5⟩ : ∃ T, T = T4 ++ [(q5, .inl (AC 1, 400, .inr (.inl (fun _ => (0 : Int64)))))] := ⟨_, rfl⟩
  have hP : va_P D cl ((h0, .inr (2, [.int (0 : Int32), .int (2 : Int32), .int (1 : Int32), .int (0 : Int32), .ref q1, .ref q2, .ref q3, .ref q4, .int (0 : Int32), .int (0 : Int32), .null, .null, .null])) :: T5) H := by rw [eT5]; exact hP
  have hD : va_D A ((h0, .inr (2, [.int (0 : Int32), .int (2 : Int32), .int (1 : Int32), .int (0 : Int32), .ref q1, .ref q2, .ref q3, .ref q4, .int (0 : Int32), .int (0 : Int32), .null, .null, .null])) :: T5) := by rw [eT5]; exact hD
  refine va_putF (D := D) (ci := 2) (v := .ref q5) (C := "TypesInside$Group") (T := fT2) (N := 13) hx hb hts clw2 fY2 fYok2 zn2 hown hK hP hD hS 0 rfl rfl 10 (by decide) (hts _ zw63) (fun _ h9 => h9) rfl hin rfl (ty := fY2 10) (fYok2 10 (by decide)) rfl rfl (Nat.le_of_ble_eq_true rfl) zd_Gr_init_71 (fun H locs hP hD hS => ?_)
  have hP : va_P D cl ((h0, .inr (2, [.int (0 : Int32), .int (2 : Int32), .int (1 : Int32), .int (0 : Int32), .ref q1, .ref q2, .ref q3, .ref q4, .int (0 : Int32), .int (0 : Int32), .ref q5, .null, .null])) :: T5) H := hP
  have hD : va_D A ((h0, .inr (2, [.int (0 : Int32), .int (2 : Int32), .int (1 : Int32), .int (0 : Int32), .ref q1, .ref q2, .ref q3, .ref q4, .int (0 : Int32), .int (0 : Int32), .ref q5, .null, .null])) :: T5) := hD
  refine lv_aload_n hx hb zd_Gr_init_74 rfl (lv_at hl 0 rfl) ?_
  refine lv_sipush (v := (400 : Int32)) hx hb zd_Gr_init_75 (by decide) ?_
  refine va_newa (atype := .int) (ty := .int) hx hb (hts _ zw93) rfl hK hP hD hS hA (n := 400) (N' := 400) (a0 := (400, .inl (fun _ => (0 : Int32)))) (fun _ => rfl) (by decide) (by decide) (Nat.le_of_ble_eq_true rfl) (Nat.le_of_ble_eq_true rfl) (Nat.le_of_ble_eq_true rfl) zd_Gr_init_78 (fun q6 cA H hK1 hP hD hS => ?_)
  obtain rfl := K_new 0 hK1 rfl
  obtain ⟨T6, eT6⟩ : ∃ T, T = T5 ++ [(q6, .inl (AC 0, 400, .inl (fun _ => (0 : Int32))))] := ⟨_, rfl⟩
  have hP : va_P D cl ((h0, .inr (2, [.int (0 : Int32), .int (2 : Int32), .int (1 : Int32), .int (0 : Int32), .ref q1, .ref q2, .ref q3, .ref q4, .int (0 : Int32), .int (0 : Int32), .ref q5, .null, .null])) :: T6) H := by rw [eT6]; exact hP
  have hD : va_D A ((h0, .inr (2, [.int (0 : Int32), .int (2 : Int32), .int (1 : Int32), .int (0 : Int32), .ref q1, .ref q2, .ref q3, .ref q4, .int (0 : Int32), .int (0 : Int32), .ref q5, .null, .null])) :: T6) := by rw [eT6]; exact hD
  refine va_putF (D := D) (ci := 2) (v := .ref q6) (C := "TypesInside$Group") (T := fT2) (N := 13) hx hb hts clw2 fY2 fYok2 zn2 hown hK hP hD hS 0 rfl rfl 11 (by decide) (hts _ zw64) (fun _ h9 => h9) rfl hin rfl (ty := fY2 11) (fYok2 11 (by decide)) rfl rfl (Nat.le_of_ble_eq_true rfl) zd_Gr_init_80 (fun H locs hP hD hS => ?_)
  have hP : va_P D cl ((h0, .inr (2, [.int (0 : Int32), .int (2 : Int32), .int (1 : Int32), .int (0 : Int32), .ref q1, .ref q2, .ref q3, .ref q4, .int (0 : Int32), .int (0 : Int32), .ref q5, .ref q6, .null])) :: T6) H := hP
  have hD : va_D A ((h0, .inr (2, [.int (0 : Int32), .int (2 : Int32), .int (1 : Int32), .int (0 : Int32), .ref q1, .ref q2, .ref q3, .ref q4, .int (0 : Int32), .int (0 : Int32), .ref q5, .ref q6, .null])) :: T6) := hD
  refine lv_aload_n hx hb zd_Gr_init_83 rfl (lv_at hl 0 rfl) ?_
  refine lv_sipush (v := (400 : Int32)) hx hb zd_Gr_init_84 (by decide) ?_
  refine va_newa (atype := .int) (ty := .int) hx hb (hts _ zw93) rfl hK hP hD hS hA (n := 400) (N' := 400) (a0 := (400, .inl (fun _ => (0 : Int32)))) (fun _ => rfl) (by decide) (by decide) (Nat.le_of_ble_eq_true rfl) (Nat.le_of_ble_eq_true rfl) (Nat.le_of_ble_eq_true rfl) zd_Gr_init_87 (fun q7 cA H hK1 hP hD hS => ?_)
  obtain rfl := K_new 0 hK1 rfl
  obtain ⟨T7, eT7⟩ : ∃ T, T = T6 ++ [(q7, .inl (AC 0, 400, .inl (fun _ => (0 : Int32))))] := ⟨_, rfl⟩
  have hP : va_P D cl ((h0, .inr (2, [.int (0 : Int32), .int (2 : Int32), .int (1 : Int32), .int (0 : Int32), .ref q1, .ref q2, .ref q3, .ref q4, .int (0 : Int32), .int (0 : Int32), .ref q5, .ref q6, .null])) :: T7) H := by rw [eT7]; exact hP
  have hD : va_D A ((h0, .inr (2, [.int (0 : Int32), .int (2 : Int32), .int (1 : Int32), .int (0 : Int32), .ref q1, .ref q2, .ref q3, .ref q4, .int (0 : Int32), .int (0 : Int32), .ref q5, .ref q6, .null])) :: T7) := by rw [eT7]; exact hD
  refine va_putF (D := D) (ci := 2) (v := .ref q7) (C := "TypesInside$Group") (T := fT2) (N := 13) hx hb hts clw2 fY2 fYok2 zn2 hown hK hP hD hS 0 rfl rfl 12 (by decide) (hts _ zw65) (fun _ h9 => h9) rfl hin rfl (ty := fY2 12) (fYok2 12 (by decide)) rfl rfl (Nat.le_of_ble_eq_true rfl) zd_Gr_init_89 (fun H locs hP hD hS => ?_)
  have hP : va_P D cl ((h0, .inr (2, [.int (0 : Int32), .int (2 : Int32), .int (1 : Int32), .int (0 : Int32), .ref q1, .ref q2, .ref q3, .ref q4, .int (0 : Int32), .int (0 : Int32), .ref q5, .ref q6, .ref q7])) :: T7) H := hP
  have hD : va_D A ((h0, .inr (2, [.int (0 : Int32), .int (2 : Int32), .int (1 : Int32), .int (0 : Int32), .ref q1, .ref q2, .ref q3, .ref q4, .int (0 : Int32), .int (0 : Int32), .ref q5, .ref q6, .ref q7])) :: T7) := hD
  obtain ⟨ad, ead⟩ : ∃ ad : Nat → Nat, ad = fun k => if k < 62 then h0 else if k < 63 then q1 else if k < 64 then q2 else if k < 65 then q3 else if k < 66 then q4 else if k < 67 then q5 else if k < 68 then q6 else q7 := ⟨_, rfl⟩
  have had : ad (61) = h0 := by rw [ead]; exact if_pos (by omega)
  have g0 : ad (62) = q1 := by rw [ead]; show (if _ then _ else _) = _; rw [if_neg (by omega), if_pos (by omega)]
  have g1 : ad (63) = q2 := by rw [ead]; show (if _ then _ else _) = _; rw [if_neg (by omega), if_neg (by omega), if_pos (by omega)]
  have g2 : ad (64) = q3 := by rw [ead]; show (if _ then _ else _) = _; rw [if_neg (by omega), if_neg (by omega), if_neg (by omega), if_pos (by omega)]
  have g3 : ad (65) = q4 := by rw [ead]; show (if _ then _ else _) = _; rw [if_neg (by omega), if_neg (by omega), if_neg (by omega), if_neg (by omega), if_pos (by omega)]
  have g4 : ad (66) = q5 := by rw [ead]; show (if _ then _ else _) = _; rw [if_neg (by omega), if_neg (by omega), if_neg (by omega), if_neg (by omega), if_neg (by omega), if_pos (by omega)]
  have g5 : ad (67) = q6 := by rw [ead]; show (if _ then _ else _) = _; rw [if_neg (by omega), if_neg (by omega), if_neg (by omega), if_neg (by omega), if_neg (by omega), if_neg (by omega), if_pos (by omega)]
  have g6 : ad (68) = q7 := by rw [ead]; show (if _ then _ else _) = _; rw [if_neg (by omega), if_neg (by omega), if_neg (by omega), if_neg (by omega), if_neg (by omega), if_neg (by omega), if_neg (by omega)]
  have hPT := P_tl hP
  rw [eT7] at hPT
  have p6 := P_r hPT
  have hPT := P_l hPT
  rw [eT6] at hPT
  have p5 := P_r hPT
  have hPT := P_l hPT
  rw [eT5] at hPT
  have p4 := P_r hPT
  have hPT := P_l hPT
  rw [eT4] at hPT
  have p3 := P_r hPT
  have hPT := P_l hPT
  rw [eT3] at hPT
  have p2 := P_r hPT
  have hPT := P_l hPT
  rw [eT2] at hPT
  have p1 := P_r hPT
  have hPT := P_l hPT
  rw [eT1] at hPT
  have p0 := P_r hPT
  have hPT := P_l hPT
  have P0 : va_P D cl (wl (rng (62) 0) AC ad μz) H := P_0
  have m0 : T0.map (fun x => x.1) = (rng (62) 0).map ad := by rw [eT0]; rfl
  have P1 : va_P D cl (wl (rng (62) 1) AC ad μz) H := P_step P0 (one_P g0 ((cE_i (k := 62) rfl)) p0)
  have m1 : T1.map (fun x => x.1) = (rng (62) 1).map ad := m_step m0 eT1 (one_m g0)
  have P2 : va_P D cl (wl (rng (62) 2) AC ad μz) H := P_step P1 (one_P g1 ((cE_i (k := 63) rfl)) p1)
  have m2 : T2.map (fun x => x.1) = (rng (62) 2).map ad := m_step m1 eT2 (one_m g1)
  have P3 : va_P D cl (wl (rng (62) 3) AC ad μz) H := P_step P2 (one_P g2 ((cE_i (k := 64) rfl)) p2)
  have m3 : T3.map (fun x => x.1) = (rng (62) 3).map ad := m_step m2 eT3 (one_m g2)
  have P4 : va_P D cl (wl (rng (62) 4) AC ad μz) H := P_step P3 (one_P g3 ((cE_i (k := 65) rfl)) p3)
  have m4 : T4.map (fun x => x.1) = (rng (62) 4).map ad := m_step m3 eT4 (one_m g3)
  have P5 : va_P D cl (wl (rng (62) 5) AC ad μz) H := P_step P4 (one_P g4 ((cE_l (k := 66) rfl)) p4)
  have m5 : T5.map (fun x => x.1) = (rng (62) 5).map ad := m_step m4 eT5 (one_m g4)
  have P6 : va_P D cl (wl (rng (62) 6) AC ad μz) H := P_step P5 (one_P g5 ((cE_i (k := 67) rfl)) p5)
  have m6 : T6.map (fun x => x.1) = (rng (62) 6).map ad := m_step m5 eT6 (one_m g5)
  have P7 : va_P D cl (wl (rng (62) 7) AC ad μz) H := P_step P6 (one_P g6 ((cE_i (k := 68) rfl)) p6)
  have m7 : T7.map (fun x => x.1) = (rng (62) 7).map ad := m_step m6 eT7 (one_m g6)
  have hfl : fl ad 2 (61) (cN 2) (μz.1 (61)) = [.int (0 : Int32), .int (2 : Int32), .int (1 : Int32), .int (0 : Int32), .ref q1, .ref q2, .ref q3, .ref q4, .int (0 : Int32), .int (0 : Int32), .ref q5, .ref q6, .ref q7] := by
    show ([.int (0 : Int32), .int (2 : Int32), .int (1 : Int32), .int (0 : Int32), .ref (ad (62)), .ref (ad (63)), .ref (ad (64)), .ref (ad (65)), .int (0 : Int32), .int (0 : Int32), .ref (ad (66)), .ref (ad (67)), .ref (ad (68))] : List Value) = _
    rw [g0]
    rw [g1]
    rw [g2]
    rw [g3]
    rw [g4]
    rw [g5]
    rw [g6]
  have hPf : va_P D cl (wl (rng (61) 8) AC ad μz) H := head_P (n := 7) (show shK 61 = 10 + 2 from rfl) hfl had hP P7
  have hDf : va_D A (wl (rng (61) 8) AC ad μz) := head_D (n := 7) had hD m7
  refine W.widen (k := 7) (n := 2266) (Nat.le_of_ble_eq_true rfl) (Nat.le_of_ble_eq_true rfl) ?_
  exact W.vret hx hb hr (fun t ht hW => ⟨⟨ad, rfl, had, by rw [ht]; exact hPf, hDf⟩, hS.F ht⟩) hS.2.2 zd_Gr_init_92
