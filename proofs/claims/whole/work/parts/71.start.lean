/-! the law from its entry to its end -/
theorem zw18 : Jvm.Cond.classLink "TypesInsideLaw" 7 "TypesInside" ∈ LW := lc1 18 rfl rfl
theorem zw19 : Jvm.Cond.instantiable "TypesInside" 12 ∈ LW := lc1 19 rfl rfl
theorem zw22 : Jvm.Cond.code ⟨"TypesInside", "<init>", "()V"⟩ prog_1_method_1_code 1 none ∈ LW := lc1 22 rfl rfl
theorem zw20 : Jvm.Cond.methodLink "TypesInsideLaw" 9 ⟨"TypesInside", "<init>", "()V"⟩ ∈ LW := lc1 20 rfl rfl
theorem zw21 : Jvm.Cond.instanceMethod ⟨"TypesInside", "<init>", "()V"⟩ ∈ LW := lc1 21 rfl rfl
theorem zh_TI_init : (⟨"TypesInside", "<init>", "()V"⟩ : MethodName).cls ≠ "java/lang/invoke/MethodHandle" ∧ (⟨"TypesInside", "<init>", "()V"⟩ : MethodName).cls ≠ "java/lang/invoke/VarHandle" ∧ (parseMethodDescriptor (⟨"TypesInside", "<init>", "()V"⟩ : MethodName).desc).map (fun d => d.parameters.length) = some 0 := by decide +kernel
theorem zw844 : Jvm.Cond.classLink "TypesInsideLaw" 10 "TypesInsideModel" ∈ LW := lc4 124 rfl rfl
theorem zw845 : Jvm.Cond.instantiable "TypesInsideModel" 44 ∈ LW := lc4 125 rfl rfl
theorem zw848 : Jvm.Cond.code ⟨"TypesInsideModel", "<init>", "()V"⟩ prog_11_method_2_code 2 none ∈ LW := lc4 128 rfl rfl
theorem zw846 : Jvm.Cond.methodLink "TypesInsideLaw" 12 ⟨"TypesInsideModel", "<init>", "()V"⟩ ∈ LW := lc4 126 rfl rfl
theorem zw847 : Jvm.Cond.instanceMethod ⟨"TypesInsideModel", "<init>", "()V"⟩ ∈ LW := lc4 127 rfl rfl
theorem zh_Mo_init : (⟨"TypesInsideModel", "<init>", "()V"⟩ : MethodName).cls ≠ "java/lang/invoke/MethodHandle" ∧ (⟨"TypesInsideModel", "<init>", "()V"⟩ : MethodName).cls ≠ "java/lang/invoke/VarHandle" ∧ (parseMethodDescriptor (⟨"TypesInsideModel", "<init>", "()V"⟩ : MethodName).desc).map (fun d => d.parameters.length) = some 0 := by decide +kernel
/-! THE CLAIM OUT OF ONE WALK OF THE LAW'S BODY. Your part is whole_start (and what it stands on); all else here is the same for every law, but numbers. -/
def R_law : String := "TypesInsideLaw"
def lw_P (b : Addr) (xs : List Int32) (args : Array Value) (s : State) : Prop := args = #[.ref b] ∧ s.IntsAt b xs ∧ xs.length ≤ 3072 ∧ (Jvm.Cond.and given_1 narrow_1).before args s = true
/-- what a walk over the start with the record d0 says of its end, said of the start itself -/
theorem lw_closed {s t : State} {o : Outcome} {d0 : Drawn} {L : List Loc} {k n : Nat} (hd0 : s.drawn.sameBut d0 lw_cs) (hv : ∃ v, o = .returned v) (hW : (s.setDrawn d0).WarmedH t.vm) (hs : (s.setDrawn d0).sameButNew ({ t with vm := s.vm } : State) L k n) : State.butDraws s t lw_cs (fun t1 => Framed s o t1 L k n) := by
  have h2 : t.drawn = d0 := congrArg State.drawn hs.1
  refine ⟨⟨hv, hW, State.sameButNew.setDrawn hs s.drawn⟩, ?_, by decide⟩
  rw [h2]
  exact hd0
def lw_Q (_ : Array Value) (s : State) (o : Outcome) (t : State) : Prop := o = .returned (some (.int 1)) ∧ State.butDraws s t lw_cs (fun t1 => Framed s o t1 [] 600000 7302250)
def lw_Z (below : List Frame) (a : Array Value) (s : State) : State → Prop := fun t => ∃ o, t.status = .running ∧ Ended t below o ∧ lw_Q a s o t
/-- the law's own end, with 1 on the stack, nothing written that was there before, its room as the claim has it; d0: the record of draws at this point (at the entry s.drawn: begin with 'refine W.base ?_' and 'have hd0 := Drawn.sameBut.refl s.drawn lw_cs') -/
theorem lw_ret {p : Program} {l : Launch} {e : Env} {s : State} {m : MethodId} {below : List Frame} {meth : Method} {c : Code} {b : Nat} {d0 : Drawn} (hd0 : s.drawn.sameBut d0 lw_cs) (hx : p.tables.exec = Jvm.exec) (hb : c.code = code) (hr : meth.sig.returnType = ret) (hlocks : meth.locks = false) {pc : Nat} {H : Heap} {ls : Array Slot} (hdg : decode code pc = .ok (.ireturn, 1)) : W p l e room_1 (s.setDrawn d0) m #[Value.ref b] below meth c H [] 600000 7302250 (lw_Z below #[Value.ref b] s) (F0 m pc ls [.int 1]) := by
  intro T hT X
  obtain ⟨fs, hret, hrun, hended, hW, hframe⟩ := X.leave (v := some (.int 1)) (hlocks := hlocks) (fun h => by rw [hr] at h; cases h)
  have hmeth' : T.vm.method? m = some meth := X.method'
  refine ⟨T.setFrames fs, ?_, .returned (some (.int 1)), hrun, hended, rfl, lw_closed hd0 ⟨_, rfl⟩ hW hframe⟩
  jvm_step X.here [X.here.top, hx, hb, hdg, hmeth', hr, ret, narrow_b1]
  (try refine ⟨rfl, ?_⟩); (try refine ⟨rfl, ?_⟩)
  first | (intro acts; rw [hret _ acts rfl rfl rfl]) | rw [hret _ _ rfl rfl rfl]
  exact Steps.refl _
/-- what holds at the law's entry: the machine, the code, the tables' words (any of lw_tbl by 'hts w (by decide +kernel)'), the script of L ints xs at the cell b, what the Statement gives of the start (any of its parts by flat_of_before) -/
def lw_At (p : Program) (s : State) (m : MethodId) (meth : Method) (c : Code) (b L : Nat) (xs : Nat → Int32) : Prop :=
  p.tables.exec = Jvm.exec ∧ c.code = code ∧ meth.sig.returnType = ret ∧ c.maxLocals = 4 ∧ s.vm.findClass R_law = some m.cls ∧ (∀ w ∈ lw_tbl, w.before #[Value.ref b] s = true) ∧ va_X b L xs s s.heap ∧ b < s.heap.size ∧ meth.locks = false ∧ (Jvm.Cond.and given_1 narrow_1).before #[Value.ref b] s = true
set_option maxHeartbeats 4000000 in
theorem whole_start {p : Program} {e : Env} {s : State} {m : MethodId} {below : List Frame} {meth : Method} {c : Code} (l : Launch) (hflags : l.flags = flags0) {b L : Nat} {xs : Nat → Int32} (hL : L ≤ 3072) (C0 : lw_At p s m meth c b L xs) : W p l e room_1 s m #[Value.ref b] below meth c s.heap [] 0 0 (lw_Z below #[Value.ref b] s) (entryFrame m ([Value.ref b] : List Value).toArray 4) := by
  obtain ⟨hx, hb, hr, hml, hown, hts, hX, hbl, hlocks, hgv⟩ := C0
  have ht : ∀ w ∈ LW, w.before #[Value.ref b] s = true := fun w hw => hts w (List.mem_filter.mp hw).1
  have hown : s.vm.findClass "TypesInsideLaw" = some m.cls := hown
  obtain ⟨D, AC, hK6⟩ := en_K hts
  have hK := hK6.1
  obtain ⟨A, eA⟩ : ∃ A : Nat → Prop, A = fun q => s.heap.size ≤ q := ⟨_, rfl⟩
  have hA : ∀ q : Nat, s.heap.size ≤ q → A q := fun q h => by rw [eA]; exact h
  have hA2 : ∀ q : Nat, A q → s.heap.size ≤ q := fun q h => by rw [eA] at h; exact h
  have hbA : ¬ A b := fun h => Nat.not_le.mpr hbl (hA2 b h)
  obtain ⟨tn, hN⟩ := en_N (A := A) hts hgv (fun a h g => Nat.not_le.mpr h (hA2 a g))
  have X : Cx p s m #[Value.ref b] meth c "TypesInsideLaw" code 4 ret := ⟨hx, hb, hml, hown, ht, hr, hlocks⟩
  have hS : va_S A s.heap s.heap [] := va_S.rf
  have hl := lv_entry ([.ref b]) (n := 4) (Nat.le_of_ble_eq_true rfl)
  rw [lg_entry_eq]
  generalize (lg_sl ([.ref b]) ++ List.replicate (4 - (lg_sl ([.ref b])).length) Slot.unset).toArray = ls at hl ⊢
  have hl : lv_has ls 4 [(0, .ref b)] := hl
  have hP : va_P D cl [] s.heap := P_nil
  have hD : va_D A [] := D_nil
  refine va_new (ci := 0) (fs := [.null, .null, .null, .null, .null, .null, .null, .int 0, .int 0, .int 0, .null, .null]) (C := "TypesInside") (T := fT0) (N := 12) hx hb ht clw0 fY0 fYok0 hown (ht _ zw18) (ht _ zw19) (ht _ zw1) hK hP hD hS hA rfl (fun j hj => by rcases (show j = 0 ∨ j = 1 ∨ j = 2 ∨ j = 3 ∨ j = 4 ∨ j = 5 ∨ j = 6 ∨ j = 7 ∨ j = 8 ∨ j = 9 ∨ j = 10 ∨ j = 11 by omega) with rfl | rfl | rfl | rfl | rfl | rfl | rfl | rfl | rfl | rfl | rfl | rfl <;> rfl) (Nat.le_of_ble_eq_true rfl) (Nat.le_of_ble_eq_true rfl) zd_La_law_0 (fun q1 H hP hD hS => ?_)
  have hP : va_P D cl [(q1, .inr (0, [.null, .null, .null, .null, .null, .null, .null, .int 0, .int 0, .int 0, .null, .null]))] H := hP
  have hD : va_D A [(q1, .inr (0, [.null, .null, .null, .null, .null, .null, .null, .int 0, .int 0, .int 0, .null, .null]))] := hD
  refine lv_dup hx hb zd_La_law_3 rfl ?_
  have hFc := free0 hD hS hA
  refine va_callv (va_runI (As := []) (rest := [.ref q1]) ⟨hx, hb, hml, hown, ht⟩ (c_TI_init l D AC q1 H.size) (cwI 0 ht (LW_gin zw22) rfl rfl rfl (ht _ zw1) (ht _ zw20) (ht _ zw21) rfl zh_TI_init ⟨Nat.le_of_ble_eq_true rfl, Nat.le_of_ble_eq_true rfl⟩) ⟨fun a U g mk q => by obtain ⟨q0, q1, qP, qK, qD⟩ := q; exact ⟨q0, q1, qP, K6.same (u := U) (U := U.calling g mk a) rfl qK, qD⟩, fun U hU hW => ⟨rfl, by rw [hU], by rw [hU]; exact hP, hK6.warm hW, hD.weaken (fun _ _ _ _ => trivial)⟩⟩ rfl rfl hl.1 rfl (lv_room (Nat.le_of_ble_eq_true rfl)) zd_La_law_4 ⟨Nat.le_of_ble_eq_true rfl, Nat.le_of_ble_eq_true rfl⟩) hS (fun q _ h => hFc q h) hFc (fun a1 t H1 locs ht1 hvm hw hB hz1 hk1 hS => ?_)
  obtain ⟨hP1, hD1⟩ := hB
  rw [ht1] at hP1
  have hP : va_P D cl (wl (rng 0 306) AC a1 μz) H1 := hP1
  have hD : va_D A (wl (rng 0 306) AC a1 μz) := D_into hD1 hFc
  have hw : a1 0 = q1 := hw
  refine lv_astore_n (lv' := [(1, .ref q1), (0, .ref b)]) hx hb zd_La_law_7 rfl hl (by decide) rfl (fun ls hl => ?_)
  refine va_new (ci := 6) (fs := moF) (C := "TypesInsideModel") (T := fT6) (N := 44) hx hb ht clw6 fY6 fYok6 hown (ht _ zw844) (ht _ zw845) (ht _ zw7) hK hP hD hS hA rfl (fun j hj => by rcases (show j = 0 ∨ j = 1 ∨ j = 2 ∨ j = 3 ∨ j = 4 ∨ j = 5 ∨ j = 6 ∨ j = 7 ∨ j = 8 ∨ j = 9 ∨ j = 10 ∨ j = 11 ∨ j = 12 ∨ j = 13 ∨ j = 14 ∨ j = 15 ∨ j = 16 ∨ j = 17 ∨ j = 18 ∨ j = 19 ∨ j = 20 ∨ j = 21 ∨ j = 22 ∨ j = 23 ∨ j = 24 ∨ j = 25 ∨ j = 26 ∨ j = 27 ∨ j = 28 ∨ j = 29 ∨ j = 30 ∨ j = 31 ∨ j = 32 ∨ j = 33 ∨ j = 34 ∨ j = 35 ∨ j = 36 ∨ j = 37 ∨ j = 38 ∨ j = 39 ∨ j = 40 ∨ j = 41 ∨ j = 42 ∨ j = 43 by omega) with rfl | rfl | rfl | rfl | rfl | rfl | rfl | rfl | rfl | rfl | rfl | rfl | rfl | rfl | rfl | rfl | rfl | rfl | rfl | rfl | rfl | rfl | rfl | rfl | rfl | rfl | rfl | rfl | rfl | rfl | rfl | rfl | rfl | rfl | rfl | rfl | rfl | rfl | rfl | rfl | rfl | rfl | rfl | rfl <;> rfl) (Nat.le_of_ble_eq_true rfl) (Nat.le_of_ble_eq_true rfl) zd_La_law_8 (fun q2 H hP hD hS => ?_)
  have hPa : va_P D cl ((q2, .inr (6, moF)) :: wl (rng 0 306) AC a1 μz) H := P_cons (P_hd (P_r hP)) (P_l hP)
  have hDa : va_D A ((q2, .inr (6, moF)) :: wl (rng 0 306) AC a1 μz) := D_rot hD
  refine lv_dup hx hb zd_La_law_11 rfl ?_
  have hFc := free0 hDa hS hA
  refine va_callv (va_runI (As := []) (rest := [.ref q2]) ⟨hx, hb, hml, hown, ht⟩ (c_Mo_init l D AC q2 H.size tn a1) (cwI 0 ht (LW_gin zw848) rfl rfl rfl (ht _ zw7) (ht _ zw846) (ht _ zw847) rfl zh_Mo_init ⟨Nat.le_of_ble_eq_true rfl, Nat.le_of_ble_eq_true rfl⟩) ⟨fun a U g mk q => by obtain ⟨q0, q1, qP, qK, qD, qN⟩ := q; exact ⟨q0, q1, qP, K6.same (u := U) (U := U.calling g mk a) rfl qK, qD, Nst.moved (u := U) (U := U.calling g mk a) (Vm.Alike.refl U.vm) qN⟩, fun U hU hW => ⟨rfl, by rw [hU], by rw [hU]; exact hPa, hK6.warm hW, hDa.weaken (fun _ _ _ _ => trivial), by rw [hU]; exact ((hN.kept hS.2.1).moved hW.alike).narrow hFc⟩⟩ rfl rfl hl.1 rfl (lv_room (Nat.le_of_ble_eq_true rfl)) zd_La_law_12 ⟨Nat.le_of_ble_eq_true rfl, Nat.le_of_ble_eq_true rfl⟩) hS (fun q _ h => hFc q h) hFc (fun ad t H1 locs ht1 hvm hw2 hB hz1 hk1 hS => ?_)
  obtain ⟨μ, hI, hP1, hD1⟩ := hB
  rw [ht1] at hP1
  have hW : Wd kA D AC ad μ H1 := hP1
  have hDA : va_D A (wl kA AC ad μ) := D_into hD1 hFc
  have e2 : ad 306 = q2 := hw2.1
  have e1 : ad 0 = q1 := (hw2.2 0 (by omega)).trans hw
  rw [← e1] at hl
  rw [← e2]
  refine lv_astore_n (lv' := [(2, .ref (ad 306)), (1, .ref (ad 0)), (0, .ref b)]) hx hb zd_La_law_15 rfl hl (by decide) rfl (fun ls hl => ?_)
  refine lv_iconst (v := nI 0) hx hb zd_La_law_16 (by decide) ?_
  refine lv_istore_n (lv' := laV ad b 0) hx hb zd_La_law_17 rfl hl (by decide) rfl (fun ls hl => ?_)
  refine la_loop ⟨⟨X, hK, hN⟩, ⟨Ar_of hDA, adI_of List.nodup_range hDA⟩, ⟨hX, hbl, hbA⟩, hL, Nat.le_of_ble_eq_true rfl, Nat.le_of_ble_eq_true rfl, Nat.le_of_ble_eq_true rfl, Nat.le_of_ble_eq_true rfl⟩ (fun H locs ls hS => ?_) (L + 6) 0 (by omega) (by omega) μ H1 _ ls hI hW hS hl
  refine lv_iconst (v := (1 : Int32)) hx hb zd_La_law_1451 (by decide) ?_
  refine W.widen (k := 600000) (n := 7302250) (Nat.le_of_ble_eq_true rfl) (Nat.le_of_ble_eq_true rfl) ?_
  refine va_forget (fun q hq => hA2 _ (hS.2.2 q hq)) ?_
  refine W.base ?_
  exact lw_ret (Drawn.sameBut.refl s.drawn lw_cs) hx hb hr hlocks zd_La_law_1452
