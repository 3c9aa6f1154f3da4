/-! calls from the law, and the law's own helpers -/
/-- a call of a method of the block, by its number -/
theorem cR {p : Program} {l : Launch} {e : Env} {R : Room} {s : State} {m : MethodId} {args : Array Value} {below : List Frame} {meth : Method} {c : Code} {H : Heap} {locs : List Loc} {cells slots : Nat} {Q : State → Prop}
    {own : String} {cc : ByteArray} {nL : Nat} {ret : Option FieldType} {pc : Nat} {ls : Array Slot} {rest st0 st1 : List Value} {D : va_G} {AC : Nat → ClassId} {ad : Nat → Nat} {tn : Nat} {μ μ' : Mm} {A : Nat → Prop} {r : Option Value} {as : List Value}
    {index k c0 ci B : Nat} {T : u_T} {M : Nat} (X : Cx p s m args meth c own cc nL ret) (hK : va_K D cl (tyL AC) s) (hN : Nst A tn s s.heap) (hA : ∀ q, Ar kA ad q → A q) (hi : adI kA ad) (hW : Wd kA D AC ad μ H) (hS : va_S A s.heap H locs)
    (hc : c0 < NM) (hps : pS c0 = false) (hcm : csum (.ref k :: as) ≤ pM c0) (he : semC (ent c0 (.ref k :: as) μ) = some (r, μ')) (hs : shK k = 10 + ci) (hk : k ∈ kA) (hcl : cl[ci]? = some ((pY c0).cls, T, M)) (hl : Cond.methodLink own index (pY c0) ∈ LW) (hn : as.length = pNp c0) (hB : pK c0 (.ref k :: as) ≤ B) (hR : B + 1 ≤ R.frames) (hm : 40 + 40 * B ≤ R.locals) (hcs : cells + 0 ≤ R.cells ∧ slots + 0 ≤ R.slots) (hls : ls.size = nL) (hst : st0 = (as.map (rv ad tn)).reverse ++ .ref (ad k) :: rest) (hcat : (rest.map fun v => v.category).sum ≤ 8) (hdg : decode cc pc = .ok (.invokevirtual index, 3)) (h1 : (r.map (rv ad tn)).toList ++ rest = st1)
    (kk : ∀ (H1 : Heap) (locs1 : List Loc), Wd kA D AC ad μ' H1 → va_S A s.heap H1 locs1 → W p l e R s m args below meth c H1 locs1 cells slots Q (F0 m (pc + 3) ls st1)) : W p l e R s m args below meth c H locs cells slots Q (F0 m pc ls st0) := by
  subst h1
  obtain ⟨g1, g2, g3, -, g5, g6, g7, g8⟩ := mw_all hc
  have g9 := g5 hps
  exact cMVR X hK hN hA hi hW hS (met_C hc hcm he) hs hk hcl g1 hl g2 g9.1 g9.2 g7 hn (by omega) (by omega) hcs hls hst hcat hdg kk
section LR
variable {p : Program} {l : Launch} {e : Env} {R : Room} {s : State} {m : MethodId} {args : Array Value} {below : List Frame} {meth : Method} {c : Code} {H : Heap} {locs : List Loc} {cells slots : Nat} {Q : State → Prop}
variable {own : String} {cc : ByteArray} {nL : Nat} {ret0 : Option FieldType} {pc : Nat} {ls : Array Slot} {rest st0 st1 : List Value}
variable {D : va_G} {AC : Nat → ClassId} {ad : Nat → Nat} {tn : Nat} {μ μ' : Mm} {A : Nat → Prop} {b L : Nat} {xs : Nat → Int32}
/-- a call of a static method of the block, by its number -/
theorem cRS {r : Option Value} {as : List Value} {index c0 B : Nat} (X : Cx p s m args meth c own cc nL ret0) (hK : va_K D cl (tyL AC) s) (hN : Nst A tn s s.heap) (hA : ∀ q, Ar kA ad q → A q) (hi : adI kA ad) (hW : Wd kA D AC ad μ H) (hS : va_S A s.heap H locs)
    (hc : c0 < NM) (hps : pS c0 = true) (hcm : csum as ≤ pM c0) (he : semC (ent c0 as μ) = some (r, μ')) (hl : Cond.methodLink own index (pY c0) ∈ LW) (hn : as.length = pNp c0) (hB : pK c0 as ≤ B) (hR : B + 1 ≤ R.frames) (hm : 40 + 40 * B ≤ R.locals) (hcs : cells + 0 ≤ R.cells ∧ slots + 0 ≤ R.slots) (hls : ls.size = nL) (hst : st0 = (as.map (rv ad tn)).reverse ++ rest) (hcat : (rest.map fun v => v.category).sum ≤ 8) (hdg : decode cc pc = .ok (.invokestatic index, 3)) (h1 : (r.map (rv ad tn)).toList ++ rest = st1)
    (kk : ∀ (H1 : Heap) (locs1 : List Loc), Wd kA D AC ad μ' H1 → va_S A s.heap H1 locs1 → W p l e R s m args below meth c H1 locs1 cells slots Q (F0 m (pc + 3) ls st1)) : W p l e R s m args below meth c H locs cells slots Q (F0 m pc ls st0) := by
  subst h1
  obtain ⟨g1, g2, g3, g4, -, g6, g7, g8⟩ := mw_all hc
  refine k_mR (va_runS (As := as.map (rv ad tn)) (rest := rest) ⟨X.1, X.2.1, X.2.2.1, X.2.2.2.1, X.2.2.2.2.1⟩ (met_C hc hcm he l D AC ad tn) ⟨cBR X.2.2.2.2.1 (pNp c0) g1 hl g2 g7 (by omega) (by omega), X.2.2.2.2.1 _ (g4 hps)⟩ ⟨blindM _, fun U hU hw => ⟨rfl, preR hK hN hA hi hW hS hU hw⟩⟩ rfl (by rw [List.length_map]; exact hn) hls hst (lv_room hcat) hdg hcs) hA hA hS (fun t locs1 hF _ hS1 => ?_)
  exact kk t.heap locs1 hF hS1
/-! cell, some: they read the script and change nothing -/
def cellV (L : Nat) (xs : Nat → Int32) (k : Nat) : Int32 := if k < L then xs k else nI 7919 * nI k + nI 12
def someV (L : Nat) (xs : Nat → Int32) (k : Nat) (n : Int32) : Int32 := ((cellV L xs k).toUInt32 >>> ((nI 3).toUInt32 &&& Int32.toUInt32 31)).toInt32 - ((cellV L xs k).toUInt32 >>> ((nI 3).toUInt32 &&& Int32.toUInt32 31)).toInt32 / n * n
theorem some_lt (L : Nat) (xs : Nat → Int32) (k : Nat) {n : Nat} (h0 : 0 < n) (hn : n < 2 ^ 31) : ∃ r, r < n ∧ someV L xs k (nI n) = nI r := by
  obtain ⟨u, hu⟩ : ∃ u, u = (cellV L xs k).toUInt32 := ⟨_, rfl⟩
  have e : ((cellV L xs k).toUInt32 >>> ((nI 3).toUInt32 &&& Int32.toUInt32 31)).toInt32 = nI (u.toNat / 8) := by
    rw [← hu]
    have e1 : ((nI 3).toUInt32 &&& Int32.toUInt32 31) = 3 := by decide
    rw [e1]
    have e2 : (u >>> 3 : UInt32) = UInt32.ofNat (u.toNat / 8) := by
      apply UInt32.toNat_inj.mp
      rw [UInt32.toNat_shiftRight, UInt32.toNat_ofNat_of_lt' (by have := u.toNat_lt; show u.toNat / 8 < 2 ^ 32; omega)]
      show u.toNat >>> (3 % 32) = _
      rw [Nat.shiftRight_eq_div_pow]
    rw [e2]
    rfl
  have hlt : u.toNat / 8 < 2 ^ 31 := by have := u.toNat_lt; omega
  refine ⟨u.toNat / 8 % n, Nat.mod_lt _ h0, ?_⟩
  unfold someV
  rw [e, nI_rem hlt hn]
/-- where the script stands -/
def Xs (b L : Nat) (xs : Nat → Int32) (H0 : Heap) : State → Prop := fun U => U.heap = H0 ∧ va_X b L xs U H0 ∧ b < H0.size
theorem blindX (As : List Value) (H0 : Heap) : FrameBlind (va_Pc As (Xs b L xs H0)) := fun a U g mk q => ⟨q.1, q.2.1, va_X.moved (u := U) (U := U.calling g mk a) (Vm.Alike.refl U.vm) q.2.2.1, q.2.2.2⟩
abbrev nA : Nat → Prop := fun _ => False
abbrev QX (H0 : Heap) (r : Int32) : Array Value → State → Outcome → State → Prop := QM nA (fun H => H = H0) (some (.int r))
def rmX (f n : Nat) : Room := { frames := f, cells := 0, slots := 0, locals := n }
theorem preX {U : State} (hX : va_X b L xs s s.heap) (hbl : b < s.heap.size) (hbA : ¬ A b) (hS : va_S A s.heap H locs) (hU : U.heap = H) (hw : s.WarmedH U.vm) : Xs b L xs H U := ⟨hU, (hX.kept (hS.2.1 b hbl hbA)).moved hw.alike, Nat.lt_of_lt_of_le hbl hS.1⟩
theorem callX {y : MethodName} {bytes : ByteArray} {maxL f n index k0 : Nat} {ret' : Option FieldType} {As : List Value} {v : Int32} (X : Cx p s m args meth c own cc nL ret0) (hX : va_X b L xs s s.heap) (hbl : b < s.heap.size) (hbA : ¬ A b) (hS : va_S A s.heap H locs) (hM : Met l y (ws_ y bytes maxL ret') (rmX f n) (va_Pc As (Xs b L xs H)) (QX H v) 0 0 nA)
    (hc : Cond.code y bytes maxL ret' ∈ LW) (hl : Cond.methodLink own index y ∈ LW) (hini : Cond.initialized y.cls ∈ LW) (hstt : Cond.static y ∈ LW) (hd : y.cls ≠ "java/lang/invoke/MethodHandle" ∧ y.cls ≠ "java/lang/invoke/VarHandle" ∧ (parseMethodDescriptor y.desc).map (fun d => d.parameters.length) = some k0) (hn : As.length = k0) (hR : f + 1 ≤ R.frames) (hm : 8 + (maxL + 11) + n ≤ R.locals) (hcs : cells + 0 ≤ R.cells ∧ slots + 0 ≤ R.slots) (hls : ls.size = nL) (hst : st0 = As.reverse ++ rest) (hcat : (rest.map fun v => v.category).sum ≤ 8) (hdg : decode cc pc = .ok (.invokestatic index, 3))
    (kk : ∀ (locs1 : List Loc), va_S A s.heap H locs1 → W p l e R s m args below meth c H locs1 cells slots Q (F0 m (pc + 3) ls (.int v :: rest))) : W p l e R s m args below meth c H locs cells slots Q (F0 m pc ls st0) := by
  refine k_mR (va_runS (As := As) (rest := rest) ⟨X.1, X.2.1, X.2.2.1, X.2.2.2.1, X.2.2.2.2.1⟩ hM ⟨callB_of k0 X.2.2.2.2.1 (LW_gin hc) rfl rfl rfl (X.2.2.2.2.1 _ hini) (X.2.2.2.2.1 _ hl) hd ⟨hR, hm⟩, X.2.2.2.2.1 _ hstt⟩ ⟨blindX As H, fun U hU hw => ⟨rfl, preX hX hbl hbA hS hU hw⟩⟩ rfl hn hls hst (lv_room hcat) hdg hcs) (fun _ h => h.elim) (fun _ h => h.elim) hS (fun t locs1 hF _ hS1 => ?_)
  rw [hF] at hS1
  rw [hF]
  exact kk locs1 hS1

end LR
theorem zw506 : Jvm.Cond.code ⟨"TypesInsideLaw", "cell", "([II)I"⟩ method_2_code 2 (some FieldType.int) ∈ LW := lc3 26 rfl rfl
theorem zw504 : Jvm.Cond.methodLink "TypesInsideLaw" 7 ⟨"TypesInsideLaw", "cell", "([II)I"⟩ ∈ LW := lc3 24 rfl rfl
theorem zw0 : Jvm.Cond.initialized "TypesInsideLaw" ∈ LW := lc1 0 rfl rfl
theorem zw505 : Jvm.Cond.static ⟨"TypesInsideLaw", "cell", "([II)I"⟩ ∈ LW := lc3 25 rfl rfl
theorem zh_La_cell : (⟨"TypesInsideLaw", "cell", "([II)I"⟩ : MethodName).cls ≠ "java/lang/invoke/MethodHandle" ∧ (⟨"TypesInsideLaw", "cell", "([II)I"⟩ : MethodName).cls ≠ "java/lang/invoke/VarHandle" ∧ (parseMethodDescriptor (⟨"TypesInsideLaw", "cell", "([II)I"⟩ : MethodName).desc).map (fun d => d.parameters.length) = some 2 := by decide +kernel
theorem zh_La_some : (⟨"TypesInsideLaw", "some", "([III)I"⟩ : MethodName).cls ≠ "java/lang/invoke/MethodHandle" ∧ (⟨"TypesInsideLaw", "some", "([III)I"⟩ : MethodName).cls ≠ "java/lang/invoke/VarHandle" ∧ (parseMethodDescriptor (⟨"TypesInsideLaw", "some", "([III)I"⟩ : MethodName).desc).map (fun d => d.parameters.length) = some 3 := by decide +kernel
theorem zd_La_cell_0 : decode method_2_code 0 = .ok (.iload_n 1, 1) := by decide +kernel
theorem zd_La_cell_1 : decode method_2_code 1 = .ok (.aload_n 0, 1) := by decide +kernel
theorem zd_La_cell_2 : decode method_2_code 2 = .ok (.arraylength, 1) := by decide +kernel
theorem zd_La_cell_3 : decode method_2_code 3 = .ok (.if_icmp .ge 9, 3) := by decide +kernel
theorem zd_La_cell_12 : decode method_2_code 12 = .ok (.sipush 7919, 3) := by decide +kernel
theorem zd_La_cell_15 : decode method_2_code 15 = .ok (.iload_n 1, 1) := by decide +kernel
theorem zd_La_cell_16 : decode method_2_code 16 = .ok (.imul, 1) := by decide +kernel
theorem zd_La_cell_17 : decode method_2_code 17 = .ok (.bipush 12, 2) := by decide +kernel
theorem zd_La_cell_19 : decode method_2_code 19 = .ok (.iadd, 1) := by decide +kernel
theorem zd_La_cell_20 : decode method_2_code 20 = .ok (.ireturn, 1) := by decide +kernel
theorem zd_La_cell_6 : decode method_2_code 6 = .ok (.aload_n 0, 1) := by decide +kernel
theorem zd_La_cell_7 : decode method_2_code 7 = .ok (.iload_n 1, 1) := by decide +kernel
theorem zd_La_cell_8 : decode method_2_code 8 = .ok (.iaload, 1) := by decide +kernel
theorem zd_La_cell_9 : decode method_2_code 9 = .ok (.goto 11, 3) := by decide +kernel
theorem zd_La_some_0 : decode method_3_code 0 = .ok (.aload_n 0, 1) := by decide +kernel
theorem zd_La_some_1 : decode method_3_code 1 = .ok (.iload_n 1, 1) := by decide +kernel
theorem zd_La_some_2 : decode method_3_code 2 = .ok (.invokestatic 7, 3) := by decide +kernel
theorem zd_La_some_5 : decode method_3_code 5 = .ok (.iconst 3, 1) := by decide +kernel
theorem zd_La_some_6 : decode method_3_code 6 = .ok (.iushr, 1) := by decide +kernel
theorem zd_La_some_7 : decode method_3_code 7 = .ok (.iload_n 2, 1) := by decide +kernel
theorem zd_La_some_8 : decode method_3_code 8 = .ok (.irem, 1) := by decide +kernel
theorem zd_La_some_9 : decode method_3_code 9 = .ok (.ireturn, 1) := by decide +kernel
theorem c_cell (l : Launch) (b L : Nat) (hL : L < 2 ^ 30) (xs : Nat → Int32) (H0 : Heap) (k : Nat) (hk : k < 2 ^ 30) : Met l ⟨"TypesInsideLaw", "cell", "([II)I"⟩ (ws_ ⟨"TypesInsideLaw", "cell", "([II)I"⟩ method_2_code 2 (some .int)) (rmX 0 0) (va_Pc [.ref b, .int (nI k)] (Xs b L xs H0)) (QX H0 (cellV L xs k)) 0 0 nA := by
  refine Met.ofW (cc := method_2_code) (maxL := 2) (ret := (some .int)) (by decide) rfl ?_
  intro p e s m args below meth c s₁ B hml hv
  obtain ⟨rfl, hH, hX, hbl⟩ := hv
  subst hH
  have hS : va_S nA s.heap s.heap [] := va_S.rf
  have hbA : ¬ nA b := id
  have hts0 := atoms_spec (ws := ws_ ⟨"TypesInsideLaw", "cell", "([II)I"⟩ method_2_code 2 (some .int)) B.pre
  have X : Cx p s m ([.ref b, .int (nI k)] : List Value).toArray meth c "TypesInsideLaw" method_2_code 2 (some .int) := ⟨B.exec, B.bytes, hml, findClass_of_methodNamed B.named, fun w hw => hts0 w (List.mem_cons_of_mem _ hw), B.returns, B.notSynchronized⟩
  have hx := X.1
  have hb := X.2.1
  have hl := lv_entry ([.ref b, .int (nI k)] : List Value) (n := 2) (Nat.le_of_ble_eq_true rfl)
  rw [lg_entry_eq]
  generalize (lg_sl ([.ref b, .int (nI k)] : List Value) ++ List.replicate (2 - (lg_sl ([.ref b, .int (nI k)] : List Value)).length) Slot.unset).toArray = ls at hl ⊢
  have hl : lv_has ls 2 [(0, .ref b), (1, .int (nI k))] := hl
  refine lv_iload_n hx hb zd_La_cell_0 rfl (lv_at hl 1 rfl) ?_
  refine lv_aload_n hx hb zd_La_cell_1 rfl (lv_at hl 0 rfl) ?_
  refine va_slen hx hb hX hbl hbA hS zd_La_cell_2 ?_
  refine lv_icmp_ge (tgt := 12) hx hb zd_La_cell_3 (by decide) (fun c_ => ?_) (fun c_ => ?_)
  · have q : L ≤ k := (nI_leI (a := L) (b := k) (by omega) (by omega)).mp c_
    refine lv_sipush (v := nI 7919) hx hb zd_La_cell_12 (by decide) ?_
    refine lv_iload_n hx hb zd_La_cell_15 rfl (lv_at hl 1 rfl) ?_
    refine lv_imul hx hb zd_La_cell_16 ?_
    refine lv_bipush (v := nI 12) hx hb zd_La_cell_17 (by decide) ?_
    refine lv_iadd hx hb zd_La_cell_19 ?_
    have ev : nI 7919 * nI k + nI 12 = cellV L xs k := (if_neg (by omega)).symm
    rw [ev]
    exact W.iret hx hb X.2.2.2.2.2.1 (fun t ht _ => ⟨rfl, ht, hS.F ht⟩) hS.2.2 zd_La_cell_20 X.2.2.2.2.2.2
  · have q : k < L := Nat.not_le.mp fun q => c_ ((nI_leI (a := L) (b := k) (by omega) (by omega)).mpr q)
    refine lv_aload_n hx hb zd_La_cell_6 rfl (lv_at hl 0 rfl) ?_
    refine lv_iload_n hx hb zd_La_cell_7 rfl (lv_at hl 1 rfl) ?_
    refine va_sld hx hb hX hbl hbA hS (i := nI k) (vp_in_nI q (by omega)) zd_La_cell_8 ?_
    refine lv_goto (tgt := 20) hx hb zd_La_cell_9 (by decide) ?_
    have ev : xs (nI k).toNatClampNeg = cellV L xs k := by rw [nI_clamp (by omega)]; exact (if_pos q).symm
    rw [ev]
    exact W.iret hx hb X.2.2.2.2.2.1 (fun t ht _ => ⟨rfl, ht, hS.F ht⟩) hS.2.2 zd_La_cell_20 X.2.2.2.2.2.2
theorem c_some (l : Launch) (b L : Nat) (hL : L < 2 ^ 30) (xs : Nat → Int32) (H0 : Heap) (k : Nat) (hk : k < 2 ^ 30) (n : Nat) (h0 : 0 < n) (hn : n < 2 ^ 30) : Met l ⟨"TypesInsideLaw", "some", "([III)I"⟩ (ws_ ⟨"TypesInsideLaw", "some", "([III)I"⟩ method_3_code 3 (some .int)) (rmX 1 24) (va_Pc [.ref b, .int (nI k), .int (nI n)] (Xs b L xs H0)) (QX H0 (someV L xs k (nI n))) 0 0 nA := by
  refine Met.ofW (cc := method_3_code) (maxL := 3) (ret := (some .int)) (by decide) rfl ?_
  intro p e s m args below meth c s₁ B hml hv
  obtain ⟨rfl, hH, hX, hbl⟩ := hv
  subst hH
  have hS : va_S nA s.heap s.heap [] := va_S.rf
  have hbA : ¬ nA b := id
  have hts0 := atoms_spec (ws := ws_ ⟨"TypesInsideLaw", "some", "([III)I"⟩ method_3_code 3 (some .int)) B.pre
  have X : Cx p s m ([.ref b, .int (nI k), .int (nI n)] : List Value).toArray meth c "TypesInsideLaw" method_3_code 3 (some .int) := ⟨B.exec, B.bytes, hml, findClass_of_methodNamed B.named, fun w hw => hts0 w (List.mem_cons_of_mem _ hw), B.returns, B.notSynchronized⟩
  have hx := X.1
  have hb := X.2.1
  have hl := lv_entry ([.ref b, .int (nI k), .int (nI n)] : List Value) (n := 3) (Nat.le_of_ble_eq_true rfl)
  rw [lg_entry_eq]
  generalize (lg_sl ([.ref b, .int (nI k), .int (nI n)] : List Value) ++ List.replicate (3 - (lg_sl ([.ref b, .int (nI k), .int (nI n)] : List Value)).length) Slot.unset).toArray = ls at hl ⊢
  have hl : lv_has ls 3 [(0, .ref b), (1, .int (nI k)), (2, .int (nI n))] := hl
  refine lv_aload_n hx hb zd_La_some_0 rfl (lv_at hl 0 rfl) ?_
  refine lv_iload_n hx hb zd_La_some_1 rfl (lv_at hl 1 rfl) ?_
  refine callX (v := cellV L xs k) (rest := []) X hX hbl hbA hS (c_cell l b L hL xs s.heap k hk) zw506 zw504 zw0 zw505 zh_La_cell rfl (Nat.le_of_ble_eq_true rfl) (Nat.le_of_ble_eq_true rfl) ⟨Nat.le_of_ble_eq_true rfl, Nat.le_of_ble_eq_true rfl⟩ hl.1 rfl (Nat.le_of_ble_eq_true rfl) zd_La_some_2 (fun locs hS => ?_)
  refine lv_iconst (v := nI 3) hx hb zd_La_some_5 (by decide) ?_
  refine lv_iushr (v := ((cellV L xs k).toUInt32 >>> ((nI 3).toUInt32 &&& Int32.toUInt32 31)).toInt32) hx hb zd_La_some_6 rfl ?_
  refine lv_iload_n hx hb zd_La_some_7 rfl (lv_at hl 2 rfl) ?_
  refine lv_irem hx hb zd_La_some_8 (nI_ne0 h0 (by omega)) ?_
  exact W.iret hx hb X.2.2.2.2.2.1 (fun t ht _ => ⟨rfl, ht, hS.F ht⟩) hS.2.2 zd_La_some_9 X.2.2.2.2.2.2
