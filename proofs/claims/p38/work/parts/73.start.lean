/-! the law from its entry to its end -/
theorem zw11 : Jvm.Cond.classLink "TypesInsideLaw" 18 "TypesInside" ∈ LW := lc1 11 rfl rfl
theorem zw12 : Jvm.Cond.instantiable "TypesInside" 12 ∈ LW := lc1 12 rfl rfl
theorem zw15 : Jvm.Cond.code ⟨"TypesInside", "<init>", "()V"⟩ prog_1_method_1_code 1 none ∈ LW := lc1 15 rfl rfl
theorem zw13 : Jvm.Cond.methodLink "TypesInsideLaw" 30 ⟨"TypesInside", "<init>", "()V"⟩ ∈ LW := lc1 13 rfl rfl
theorem zw14 : Jvm.Cond.instanceMethod ⟨"TypesInside", "<init>", "()V"⟩ ∈ LW := lc1 14 rfl rfl
theorem zh_TI_init : (⟨"TypesInside", "<init>", "()V"⟩ : MethodName).cls ≠ "java/lang/invoke/MethodHandle" ∧ (⟨"TypesInside", "<init>", "()V"⟩ : MethodName).cls ≠ "java/lang/invoke/VarHandle" ∧ (parseMethodDescriptor (⟨"TypesInside", "<init>", "()V"⟩ : MethodName).desc).map (fun d => d.parameters.length) = some 0 := by decide +kernel
section ALL
variable {p : Program} {l : Launch} {e : Env} {R : Room} {s : State} {m : MethodId} {args : Array Value} {below : List Frame} {meth : Method} {c : Code} {cells slots : Nat} {Q : State → Prop} {D : va_G} {AC : Nat → ClassId} {ad : Nat → Nat} {tn : Nat} {A : Nat → Prop} {b L : Nat} {xs : Nat → Int32}
/-- the law's walk behind the object's making -/
theorem ls_all (C : LAx p s m args meth c R D AC ad tn A b L xs cells slots) {μ : Mm} {H : Heap} {locs : List Loc} {ls : Array Slot} (hJ : J 0 μ) (hW : Wd kA D AC ad μ H) (hS : va_S A s.heap H locs) (hl : lv_has ls 13 [(1, .ref (ad 0)), (0, .ref b)])
    (K : ∀ (H : Heap) (locs : List Loc) (ls : Array Slot), va_S A s.heap H locs → W p l e R s m args below meth c H locs cells slots Q (F0 m 568 ls [])) : W p l e R s m args below meth c H locs cells slots Q (F0 m 8 ls []) :=
  ls_a C hJ hW hS hl (fun μ H locs ls hJ hW hS hl => ls_b C hJ hW hS hl (fun g μ H locs ls hJ hW hS hl => ls_c C hJ hW hS hl (fun μ H locs ls hJ hW hS hl => lp_1 C (fun μ H locs ls hJ hW hS hl => ls_f C hJ hW hS hl (fun μ H locs ls hJ hW hS hl => lp_2 C (fun μ H locs ls hJ hW hS hl => ls_h C hJ hW hS hl (fun μ H locs ls hJ hW hS hl => lp_3 C K (lenG g) 0 (nI 1) _ _ _ _ (Nat.zero_add _) (Or.inl rfl) hJ hW hS hl)) 6 0 _ _ _ _ rfl hJ hW hS hl)) 19 0 _ _ _ _ rfl hJ hW hS hl)))
end ALL
/-! THE CLAIM OUT OF ONE WALK OF THE LAW'S BODY. Your part is whole_start (and what it stands on); all else here is the same for every law, but numbers. -/
def R_law : String := "TypesInsideLaw"
def lw_P (b : Addr) (xs : List Int32) (args : Array Value) (s : State) : Prop := args = #[.ref b] ∧ s.IntsAt b xs ∧ xs.length ≤ 260 ∧ (Jvm.Cond.and given_1 narrow_1).before args s = true
def lw_Q (_ : Array Value) (s : State) (o : Outcome) (t : State) : Prop := o = .returned (some (.int 1)) ∧ Framed s o t [] 600000 7302250
def lw_Z (below : List Frame) (a : Array Value) (s : State) : State → Prop := fun t => ∃ o, t.status = .running ∧ Ended t below o ∧ lw_Q a s o t
/-- the law's own end, with 1 on the stack, nothing written that was there before, its room as the claim has it -/
theorem lw_ret {p : Program} {l : Launch} {e : Env} {s : State} {m : MethodId} {below : List Frame} {meth : Method} {c : Code} {b : Nat} (hx : p.tables.exec = Jvm.exec) (hb : c.code = code) (hr : meth.sig.returnType = ret) (hlocks : meth.locks = false) {pc : Nat} {H : Heap} {ls : Array Slot} (hdg : decode code pc = .ok (.ireturn, 1)) : W p l e room_1 s m #[Value.ref b] below meth c H [] 600000 7302250 (lw_Z below #[Value.ref b] s) (F0 m pc ls [.int 1]) := by
  intro T hT X
  obtain ⟨fs, hret, hrun, hended, hW, hframe⟩ := X.leave (v := some (.int 1)) (hlocks := hlocks) (fun h => by rw [hr] at h; cases h)
  have hmeth' : T.vm.method? m = some meth := X.method'
  refine ⟨T.setFrames fs, ?_, .returned (some (.int 1)), hrun, hended, rfl, ⟨_, rfl⟩, hW, hframe⟩
  jvm_step X.here [X.here.top, hx, hb, hdg, hmeth', hr, ret, narrow_b1]
  (try refine ⟨rfl, ?_⟩); (try refine ⟨rfl, ?_⟩)
  first | (intro acts; rw [hret _ acts rfl rfl rfl]) | rw [hret _ _ rfl rfl rfl]
  exact Steps.refl _
/-- what holds at the law's entry: the machine, the code, the tables' words (any of lw_tbl by 'hts w (by decide +kernel)'), the script of L ints xs at the cell b, what the Statement gives of the start (any of its parts by flat_of_before) -/
def lw_At (p : Program) (s : State) (m : MethodId) (meth : Method) (c : Code) (b L : Nat) (xs : Nat → Int32) : Prop :=
  p.tables.exec = Jvm.exec ∧ c.code = code ∧ meth.sig.returnType = ret ∧ c.maxLocals = 13 ∧ s.vm.findClass R_law = some m.cls ∧ (∀ w ∈ lw_tbl, w.before #[Value.ref b] s = true) ∧ va_X b L xs s s.heap ∧ b < s.heap.size ∧ meth.locks = false ∧ (Jvm.Cond.and given_1 narrow_1).before #[Value.ref b] s = true
set_option maxHeartbeats 4000000 in
theorem whole_start {p : Program} {e : Env} {s : State} {m : MethodId} {below : List Frame} {meth : Method} {c : Code} (l : Launch) (hflags : l.flags = flags0) {b L : Nat} {xs : Nat → Int32} (hL : L ≤ 260) (C0 : lw_At p s m meth c b L xs) : W p l e room_1 s m #[Value.ref b] below meth c s.heap [] 0 0 (lw_Z below #[Value.ref b] s) (entryFrame m ([Value.ref b] : List Value).toArray 13) := by
  obtain ⟨hx, hb, hr, hml, hown, hts, hX, hbl, hlocks, hgv⟩ := C0
  have ht : ∀ w ∈ LW, w.before #[Value.ref b] s = true := fun w hw => hts w (List.mem_filter.mp hw).1
  have hown : s.vm.findClass "TypesInsideLaw" = some m.cls := hown
  obtain ⟨D, AC, hK6⟩ := en_K hts
  have hK := hK6.1
  obtain ⟨A, eA⟩ : ∃ A : Nat → Prop, A = fun q => s.heap.size ≤ q := ⟨_, rfl⟩
  have hA : ∀ q : Nat, s.heap.size ≤ q → A q := fun q h => by rw [eA]; exact h
  have hA2 : ∀ q : Nat, A q → s.heap.size ≤ q := fun q h => by rw [eA] at h; exact h
  have hbA : ¬ A b := fun h => Nat.not_le.mpr hbl (hA2 b h)
  obtain ⟨tn, hN⟩ := en_N (A := A) hts hgv (fun a h g => Nat.not_le.mpr h (hA2 a g))
  have X : Cx p s m #[Value.ref b] meth c "TypesInsideLaw" code 13 ret := ⟨hx, hb, hml, hown, ht, hr, hlocks⟩
  have hS : va_S A s.heap s.heap [] := va_S.rf
  have hl := lv_entry ([.ref b]) (n := 13) (Nat.le_of_ble_eq_true rfl)
  rw [lg_entry_eq]
  generalize (lg_sl ([.ref b]) ++ List.replicate (13 - (lg_sl ([.ref b])).length) Slot.unset).toArray = ls at hl ⊢
  have hl : lv_has ls 13 [(0, .ref b)] := hl
  have hP : va_P D cl [] s.heap := P_nil
  have hD : va_D A [] := D_nil
  refine va_new (ci := 0) (fs := [.null, .null, .null, .null, .null, .null, .null, .int 0, .int 0, .int 0, .null, .null]) (C := "TypesInside") (T := fT0) (N := 12) hx hb ht clw0 fY0 fYok0 hown (ht _ zw11) (ht _ zw12) (ht _ zw1) hK hP hD hS hA rfl (fun j hj => by rcases (show j = 0 ∨ j = 1 ∨ j = 2 ∨ j = 3 ∨ j = 4 ∨ j = 5 ∨ j = 6 ∨ j = 7 ∨ j = 8 ∨ j = 9 ∨ j = 10 ∨ j = 11 by omega) with rfl | rfl | rfl | rfl | rfl | rfl | rfl | rfl | rfl | rfl | rfl | rfl <;> rfl) (Nat.le_of_ble_eq_true rfl) (Nat.le_of_ble_eq_true rfl) zd_La_law_0 (fun q1 H hP hD hS => ?_)
  have hP : va_P D cl [(q1, .inr (0, [.null, .null, .null, .null, .null, .null, .null, .int 0, .int 0, .int 0, .null, .null]))] H := hP
  have hD : va_D A [(q1, .inr (0, [.null, .null, .null, .null, .null, .null, .null, .int 0, .int 0, .int 0, .null, .null]))] := hD
  refine lv_dup hx hb zd_La_law_3 rfl ?_
  have hFc := free0 hD hS hA
  refine va_callv (va_runI (As := []) (rest := [.ref q1]) ⟨hx, hb, hml, hown, ht⟩ (c_TI_init l D AC q1 H.size) (cwI 0 ht (LW_gin zw15) rfl rfl rfl (ht _ zw1) (ht _ zw13) (ht _ zw14) rfl zh_TI_init ⟨Nat.le_of_ble_eq_true rfl, Nat.le_of_ble_eq_true rfl⟩) ⟨fun a U g mk q => by obtain ⟨q0, q1, qP, qK, qD⟩ := q; exact ⟨q0, q1, qP, K6.same (u := U) (U := U.calling g mk a) rfl qK, qD⟩, fun U hU hW => ⟨rfl, by rw [hU], by rw [hU]; exact hP, hK6.warm hW, hD.weaken (fun _ _ _ _ => trivial)⟩⟩ rfl rfl hl.1 rfl (lv_room (Nat.le_of_ble_eq_true rfl)) zd_La_law_4 ⟨Nat.le_of_ble_eq_true rfl, Nat.le_of_ble_eq_true rfl⟩) hS (fun q _ h => hFc q h) hFc (fun ad t H1 locs ht1 hvm hw hB hz1 hk1 hS => ?_)
  obtain ⟨hP1, hD1⟩ := hB
  rw [ht1] at hP1
  rw [← wl_s] at hP1 hD1
  have hW : Wd kA D AC ad μs H1 := hP1
  have hDA : va_D A (wl kA AC ad μs) := D_into hD1 hFc
  have e1 : ad 0 = q1 := hw
  rw [← e1]
  refine lv_astore_n (lv' := [(1, .ref (ad 0)), (0, .ref b)]) hx hb zd_La_law_7 rfl hl (by decide) rfl (fun ls hl => ?_)
  refine ls_all ⟨⟨X, hK, hN⟩, ⟨Ar_of hDA, adI_of List.nodup_range hDA⟩, ⟨hX, hbl, hbA⟩, Nat.lt_of_le_of_lt hL (Nat.le_of_ble_eq_true rfl), Nat.le_of_ble_eq_true rfl, Nat.le_of_ble_eq_true rfl, Nat.le_of_ble_eq_true rfl, Nat.le_of_ble_eq_true rfl⟩ J_start hW hS hl (fun H locs ls hS => ?_)
  refine lv_iconst (v := (1 : Int32)) hx hb zd_La_law_568 (by decide) ?_
  refine W.widen (k := 600000) (n := 7302250) (Nat.le_of_ble_eq_true rfl) (Nat.le_of_ble_eq_true rfl) ?_
  refine va_forget (fun q hq => hA2 _ (hS.2.2 q hq)) ?_
  exact lw_ret hx hb hr hlocks zd_La_law_569
