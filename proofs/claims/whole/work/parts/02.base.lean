/-! My own layer: one block of cells b .. b+N-1 with a fixed shape; what may change in it are ints and longs alone. -/
abbrev Mm : Type := (Nat → Nat → Int32) × (Nat → Nat → Int64)
def sI (μ : Mm) (k j : Nat) (v : Int32) : Mm := (va_up μ.1 k (upd (μ.1 k) j v), μ.2)
def sL (μ : Mm) (k j : Nat) (v : Int64) : Mm := (μ.1, va_up μ.2 k (vp_updL (μ.2 k) j v))
/-- the shape of a cell: kind (0 ints, 1 longs, 2 booleans, 3 .. 9 references, 10 + class), length, references -/
abbrev Shp : Type := Nat → Nat × Nat × (Nat → Option Nat)
def fl (b n : Nat) (rf : Nat → Option Nat) (f : Nat → Int32) : List Value := (List.range n).map fun j => match rf j with
  | some r => .ref (b + r)
  | none => .int (f j)
theorem fl_len {b n : Nat} {rf : Nat → Option Nat} {f : Nat → Int32} : (fl b n rf f).length = n := by simp [fl]
theorem fl_int {b n j : Nat} {rf : Nat → Option Nat} {f : Nat → Int32} (hj : j < n) (hr : rf j = none) : (fl b n rf f)[j]? = some (.int (f j)) := by
  simp [fl, hj, hr]
theorem fl_ref {b n j r : Nat} {rf : Nat → Option Nat} {f : Nat → Int32} (hj : j < n) (hr : rf j = some r) : (fl b n rf f)[j]? = some (.ref (b + r)) := by
  simp [fl, hj, hr]
theorem fl_set {b n j : Nat} {rf : Nat → Option Nat} {f : Nat → Int32} {x : Int32} (hj : j < n) (hr : rf j = none) : (fl b n rf f).set j (.int x) = fl b n rf (upd f j x) := by
  apply List.ext_getElem?
  intro i
  by_cases hi : i < n
  · by_cases he : i = j
    · subst he
      rw [List.getElem?_set_self (by rw [fl_len]; exact hi), fl_int hi hr]
      simp [upd]
    · rw [List.getElem?_set_ne (Ne.symm he)]
      simp [fl, hi, upd, he]
  · rw [List.getElem?_eq_none (by rw [List.length_set, fl_len]; omega), List.getElem?_eq_none (by rw [fl_len]; omega)]
def cE (AC : Nat → ClassId) (b : Nat) (sh : Shp) (μ : Mm) (k : Nat) : va_E :=
  if (sh k).1 = 0 then .inl (AC 0, (sh k).2.1, .inl (μ.1 k))
  else if (sh k).1 = 1 then .inl (AC 1, (sh k).2.1, .inr (.inl (μ.2 k)))
  else if (sh k).1 = 2 then .inl (AC 2, (sh k).2.1, .inl (μ.1 k))
  else if (sh k).1 < 10 then .inl (AC (sh k).1, (sh k).2.1, .inr (.inr (.inr (.inr fun j => ((sh k).2.2 j).map (b + ·)))))
  else .inr ((sh k).1 - 10, fl b (sh k).2.1 (sh k).2.2 (μ.1 k))
def wl (AC : Nat → ClassId) (b N : Nat) (sh : Shp) (μ : Mm) : va_W := (List.range N).map fun k => (b + k, cE AC b sh μ k)
def Ar (b N : Nat) : Nat → Prop := fun q => b ≤ q ∧ q < b + N
section WLD
variable {AC : Nat → ClassId} {b N : Nat} {sh : Shp} {μ : Mm}
theorem wl_at {k : Nat} (hk : k < N) : (wl AC b N sh μ)[k]? = some (b + k, cE AC b sh μ k) := by
  simp [wl, hk]
theorem wl_len : (wl AC b N sh μ).length = N := by simp [wl]
theorem wl_D : va_D (Ar b N) (wl AC b N sh μ) := by
  have key : ∀ (i : Nat) (p : Nat × va_E), (wl AC b N sh μ)[i]? = some p → i < N ∧ p.1 = b + i := by
    intro i p h
    have hi : i < N := by
      have := (List.getElem?_eq_some_iff.mp h).1
      rwa [wl_len] at this
    rw [wl_at hi] at h
    cases h
    exact ⟨hi, rfl⟩
  refine ⟨fun i j p q hp hq e => ?_, fun k q hq => ?_⟩
  · have h1 := (key i p hp).2
    have h2 := (key j q hq).2
    omega
  · obtain ⟨h1, h2⟩ := key k q hq
    exact ⟨by omega, by omega⟩
theorem wl_set {μ' : Mm} {k : Nat} (hk : k < N) {e : va_E} (he : cE AC b sh μ' k = e) (ho : ∀ j, j ≠ k → cE AC b sh μ' j = cE AC b sh μ j) : (wl AC b N sh μ).set k (b + k, e) = wl AC b N sh μ' := by
  apply List.ext_getElem?
  intro i
  by_cases hi : i < N
  · by_cases e1 : i = k
    · subst e1
      rw [List.getElem?_set_self (by rw [wl_len]; exact hi), wl_at hi, he]
    · rw [List.getElem?_set_ne (Ne.symm e1), wl_at hi, wl_at hi, ho i e1]
  · rw [List.getElem?_eq_none (by rw [List.length_set, wl_len]; omega), List.getElem?_eq_none (by rw [wl_len]; omega)]
theorem cE_i {k : Nat} (h : (sh k).1 = 0) : cE AC b sh μ k = .inl (AC 0, (sh k).2.1, .inl (μ.1 k)) := by simp [cE, h]
theorem cE_l {k : Nat} (h : (sh k).1 = 1) : cE AC b sh μ k = .inl (AC 1, (sh k).2.1, .inr (.inl (μ.2 k))) := by simp [cE, h]
theorem cE_z {k : Nat} (h : (sh k).1 = 2) : cE AC b sh μ k = .inl (AC 2, (sh k).2.1, .inl (μ.1 k)) := by simp [cE, h]
theorem cE_q {k t : Nat} (h : (sh k).1 = t) (h1 : 2 < t) (h2 : t < 10) : cE AC b sh μ k = .inl (AC t, (sh k).2.1, .inr (.inr (.inr (.inr fun j => ((sh k).2.2 j).map (b + ·))))) := by
  subst h
  unfold cE
  rw [if_neg (by omega), if_neg (by omega), if_neg (by omega), if_pos h2]
theorem cE_o {k ci : Nat} (h : (sh k).1 = 10 + ci) : cE AC b sh μ k = .inr (ci, fl b (sh k).2.1 (sh k).2.2 (μ.1 k)) := by
  unfold cE
  rw [if_neg (by omega), if_neg (by omega), if_neg (by omega), if_neg (by omega), h, Nat.add_sub_cancel_left]
theorem cE_sI {k j : Nat} {v : Int32} {i : Nat} (h : i ≠ k) : cE AC b sh (sI μ k j v) i = cE AC b sh μ i := by
  simp [cE, sI, va_up, h]
theorem cE_sL {k j : Nat} {v : Int64} {i : Nat} (h : i ≠ k) : cE AC b sh (sL μ k j v) i = cE AC b sh μ i := by
  simp [cE, sL, va_up, h]
theorem sI_at {k j : Nat} {v : Int32} : (sI μ k j v).1 k = upd (μ.1 k) j v := by simp [sI, va_up]
theorem sL_at {k j : Nat} {v : Int64} : (sL μ k j v).2 k = vp_updL (μ.2 k) j v := by simp [sL, va_up]
end WLD
/-- what a method's walk stands on -/
def Cx (p : Program) (s : State) (m : MethodId) (args : Array Value) (meth : Method) (c : Code) (own : String) (cc : ByteArray) (nL : Nat) (ret : Option FieldType) : Prop :=
  p.tables.exec = Jvm.exec ∧ c.code = cc ∧ c.maxLocals = nL ∧ s.vm.findClass own = some m.cls ∧ (∀ w ∈ LW, w.before args s = true) ∧ meth.sig.returnType = ret ∧ meth.locks = false
/-- the table of the types' numbers, a static array that nobody writes -/
def Nst (A : Nat → Prop) (nums : Nat → Int32) (U : State) (H : Heap) : Prop := ∃ t : Nat, va_Z "TypesInside$Types" "NUMBERS" "[I" (.ref t) A U H ∧ va_T .int t 19 (fun j => .int (nums j)) A U H
theorem Nst.moved {A : Nat → Prop} {nums : Nat → Int32} {u U : State} {H : Heap} (hvm : u.vm.Alike U.vm) (h : Nst A nums u H) : Nst A nums U H := by
  obtain ⟨t, h1, h2⟩ := h
  exact ⟨t, h1.moved hvm, h2.moved hvm⟩
theorem Nst.kept {A : Nat → Prop} {nums : Nat → Int32} {U : State} {H H1 : Heap} (h : Nst A nums U H) (hq : ∀ a : Nat, a < H.size → ¬ A a → H1[a]? = H[a]?) : Nst A nums U H1 := by
  obtain ⟨t, h1, h2⟩ := h
  exact ⟨t, h1.kept hq, h2.kept hq⟩
theorem Nst.narrow {A B : Nat → Prop} {nums : Nat → Int32} {U : State} {H : Heap} (h : Nst A nums U H) (hAB : ∀ q, B q → A q) : Nst B nums U H := by
  obtain ⟨t, h1, h2⟩ := h
  exact ⟨t, h1.narrow hAB, h2.narrow hAB⟩
/-- the world of a block: its cells -/
def Wd (D : va_G) (cl : List vw_C) (AC : Nat → ClassId) (b N : Nat) (sh : Shp) (μ : Mm) (H : Heap) : Prop := va_P D cl (wl AC b N sh μ) H
/-- how a method that may write ends -/
def QM (A : Nat → Prop) (F : State → Heap → Prop) (r : Option Value) : Array Value → State → Outcome → State → Prop := fun _ st o t => o = .returned r ∧ F t t.heap ∧ va_F A st t
/-- how one that only computes ends -/
def QP (r : Option Value) : Array Value → State → Outcome → State → Prop := fun _ st o t => o = .returned r ∧ t.heap = st.heap
def noA : Nat → Prop := fun _ => False
def rmd (d : Nat) : Room := { frames := d, cells := 0, slots := 0, locals := 64 * d }
section ROWS
variable {p : Program} {l : Launch} {e : Env} {R : Room} {s : State} {m : MethodId} {args : Array Value} {below : List Frame} {meth : Method} {c : Code} {H : Heap} {locs : List Loc} {cells slots : Nat} {Q : State → Prop}
variable {own : String} {cc : ByteArray} {nL : Nat} {ret : Option FieldType} {pc : Nat} {ls : Array Slot} {rest st0 : List Value}
variable {D : va_G} {cl : List vw_C} {tys : List (ClassId × FieldType)} {AC : Nat → ClassId} {b N : Nat} {sh : Shp} {nums : Nat → Int32} {μ : Mm} {H0 : Heap}
/-- a row of a block's objects: read a reference -/
theorem r_gr (X : Cx p s m args meth c own cc nL ret) (hK : va_K D cl tys s) (hW : Wd D cl AC b N sh μ H) {k ci r index j M : Nat} {C : String} {T : u_T} (hk : k < N) (hs : (sh k).1 = 10 + ci) (hn : (sh k).2.1 = M) (hc : cl[ci]? = some (C, T, M)) (hin : ∀ w ∈ u_ws C T M, w ∈ LW) (hj : j < M) (hr : (sh k).2.2 j = some r)
    (hlink : Cond.fieldLink own index (T j).1 (T j).2.1 (T j).2.2.1 ∈ LW) (hdg : decode cc pc = .ok (.getfield index, 3))
    (kk : W p l e R s m args below meth c H locs cells slots Q (F0 m (pc + 3) ls (.ref (b + r) :: rest))) : W p l e R s m args below meth c H locs cells slots Q (F0 m pc ls (.ref (b + k) :: rest)) := by
  subst hn
  exact va_get X.1 X.2.1 X.2.2.2.2.1 hin X.2.2.2.1 hK hW k ((wl_at hk).trans (by rw [cE_o hs])) hc j hj (X.2.2.2.2.1 _ hlink) (fun _ h => h) (fl_ref hj hr) hdg kk
/-- .. an int (or boolean) -/
theorem r_gi (X : Cx p s m args meth c own cc nL ret) (hK : va_K D cl tys s) (hW : Wd D cl AC b N sh μ H) {k ci index j M : Nat} {C : String} {T : u_T} (hk : k < N) (hs : (sh k).1 = 10 + ci) (hn : (sh k).2.1 = M) (hc : cl[ci]? = some (C, T, M)) (hin : ∀ w ∈ u_ws C T M, w ∈ LW) (hj : j < M) (hr : (sh k).2.2 j = none)
    (hlink : Cond.fieldLink own index (T j).1 (T j).2.1 (T j).2.2.1 ∈ LW) (hdg : decode cc pc = .ok (.getfield index, 3))
    (kk : W p l e R s m args below meth c H locs cells slots Q (F0 m (pc + 3) ls (.int (μ.1 k j) :: rest))) : W p l e R s m args below meth c H locs cells slots Q (F0 m pc ls (.ref (b + k) :: rest)) := by
  subst hn
  exact va_get X.1 X.2.1 X.2.2.2.2.1 hin X.2.2.2.1 hK hW k ((wl_at hk).trans (by rw [cE_o hs])) hc j hj (X.2.2.2.2.1 _ hlink) (fun _ h => h) (fl_int hj hr) hdg kk
/-- write an int (or boolean) -/
theorem r_pi (X : Cx p s m args meth c own cc nL ret) (hK : va_K D cl tys s) (hW : Wd D cl AC b N sh μ H) (hS : va_S (Ar b N) s.heap H locs) {k ci index j M : Nat} {C : String} {T : u_T} (ty0 : Nat → FieldType) {ty : FieldType} {x : Int32} (hty : ∀ k, k < M → parseFieldDescriptor (T k).2.2.1 = some (ty0 k)) (hnm : ∀ a, a < M → ∀ b, b < M → a ≠ b → (T a).2.1 ≠ (T b).2.1)
    (hk : k < N) (hs : (sh k).1 = 10 + ci) (hn : (sh k).2.1 = M) (hc : cl[ci]? = some (C, T, M)) (hin : ∀ w ∈ u_ws C T M, w ∈ LW) (hj : j < M) (hr : (sh k).2.2 j = none) (hfin : (T j).2.2.2 = false) (hd : parseFieldDescriptor (T j).2.2.1 = some ty) (hnw : narrow ty (.int x) = .int x) (hfit : fits ty (.int x) = true)
    (hlink : Cond.fieldLink own index (T j).1 (T j).2.1 (T j).2.2.1 ∈ LW) (hdg : decode cc pc = .ok (.putfield index, 3))
    (kk : ∀ (H1 : Heap) (locs1 : List Loc), Wd D cl AC b N sh (sI μ k j x) H1 → va_S (Ar b N) s.heap H1 locs1 → W p l e R s m args below meth c H1 locs1 cells slots Q (F0 m (pc + 3) ls rest)) : W p l e R s m args below meth c H locs cells slots Q (F0 m pc ls (.int x :: .ref (b + k) :: rest)) := by
  subst hn
  have he : (wl AC b N sh μ)[k]? = some (b + k, .inr (ci, fl b (sh k).2.1 (sh k).2.2 (μ.1 k))) := (wl_at hk).trans (by rw [cE_o hs])
  refine va_put X.1 X.2.1 X.2.2.2.2.1 hin ty0 hty hnm X.2.2.2.1 hK hW wl_D hS k he hc j hj (X.2.2.2.2.1 _ hlink) (fun _ h => h) hfin hd hnw hfit (by rw [fl_len]; exact hj) hdg (fun H1 locs1 hP _ hS1 => ?_)
  rw [fl_set hj hr, wl_set (μ' := sI μ k j x) hk (by rw [cE_o hs, sI_at]) (fun i hi => cE_sI hi)] at hP
  exact kk H1 locs1 hP hS1
section ARR
variable {k n : Nat} {i : Int32}
/-- arrays: read, write, length -/
theorem r_ia (X : Cx p s m args meth c own cc nL ret) (hK : va_K D cl tys s) (hW : Wd D cl AC b N sh μ H) (ht : tys[0]? = some (AC 0, .int)) (hk : k < N) (hs : (sh k).1 = 0) (hn : (sh k).2.1 = n) (hin : vp_in i n) (hdg : decode cc pc = .ok (.iaload, 1))
    (kk : W p l e R s m args below meth c H locs cells slots Q (F0 m (pc + 1) ls (.int (μ.1 k i.toNatClampNeg) :: rest))) : W p l e R s m args below meth c H locs cells slots Q (F0 m pc ls (.int i :: .ref (b + k) :: rest)) := by
  subst hn
  exact va_iald X.1 X.2.1 hK hW k 0 ((wl_at hk).trans (by rw [cE_i hs])) ht hin hdg kk
theorem r_la (X : Cx p s m args meth c own cc nL ret) (hK : va_K D cl tys s) (hW : Wd D cl AC b N sh μ H) (ht : tys[1]? = some (AC 1, .long)) (hk : k < N) (hs : (sh k).1 = 1) (hn : (sh k).2.1 = n) (hin : vp_in i n) (hdg : decode cc pc = .ok (.laload, 1))
    (kk : W p l e R s m args below meth c H locs cells slots Q (F0 m (pc + 1) ls (.long (μ.2 k i.toNatClampNeg) :: rest))) : W p l e R s m args below meth c H locs cells slots Q (F0 m pc ls (.int i :: .ref (b + k) :: rest)) := by
  subst hn
  exact va_lald X.1 X.2.1 hK hW k 1 ((wl_at hk).trans (by rw [cE_l hs])) ht hin hdg kk
theorem r_za (X : Cx p s m args meth c own cc nL ret) (hK : va_K D cl tys s) (hW : Wd D cl AC b N sh μ H) (ht : tys[2]? = some (AC 2, .boolean)) (hk : k < N) (hs : (sh k).1 = 2) (hn : (sh k).2.1 = n) (hin : vp_in i n) (hdg : decode cc pc = .ok (.baload, 1))
    (kk : W p l e R s m args below meth c H locs cells slots Q (F0 m (pc + 1) ls (.int (μ.1 k i.toNatClampNeg) :: rest))) : W p l e R s m args below meth c H locs cells slots Q (F0 m pc ls (.int i :: .ref (b + k) :: rest)) := by
  subst hn
  exact va_zald X.1 X.2.1 hK hW k 2 ((wl_at hk).trans (by rw [cE_z hs])) ht hin hdg kk
theorem r_qa (X : Cx p s m args meth c own cc nL ret) (hK : va_K D cl tys s) (hW : Wd D cl AC b N sh μ H) {t : Nat} {ty : FieldType} {r : Nat} (hty : ty.isReference = true) (ht : tys[t]? = some (AC t, ty)) (h1 : 2 < t) (h2 : t < 10) (hk : k < N) (hs : (sh k).1 = t) (hn : (sh k).2.1 = n) (hin : vp_in i n) (hr : (sh k).2.2 i.toNatClampNeg = some r) (hdg : decode cc pc = .ok (.aaload, 1))
    (kk : W p l e R s m args below meth c H locs cells slots Q (F0 m (pc + 1) ls (.ref (b + r) :: rest))) : W p l e R s m args below meth c H locs cells slots Q (F0 m pc ls (.int i :: .ref (b + k) :: rest)) := by
  subst hn
  have hlt : i.toNatClampNeg < (sh k).2.1 := Nat.not_le.mp fun q => hin (Or.inr q)
  have ha : (wl AC b N sh μ)[k]? = some (b + k, .inl (AC t, (sh k).2.1, .inr (.inr (.inr (.inr fun j => ((sh k).2.2 j).map (b + ·)))))) := (wl_at hk).trans (by rw [cE_q hs h1 h2])
  exact W.aald (v := .ref (b + r)) (ty := ty) X.1 X.2.1 (hW k _ ha) ((hK.2 t _ ht).1 _ (fun j => va_rf (((sh k).2.2 j).map (b + ·)))) hty (fun q => by cases q) (by show ¬ (i < 0 ∨ (arrV _ _ _).slots.size ≤ _); rw [arrV_size]; exact hin) (by show (arrV _ _ _).slots[_]? = _; rw [arrV_read _ _ hlt]; show some (va_rf (((sh k).2.2 i.toNatClampNeg).map (b + ·))) = _; rw [hr]; rfl) rfl rfl hdg kk
theorem r_is (X : Cx p s m args meth c own cc nL ret) (hK : va_K D cl tys s) (hW : Wd D cl AC b N sh μ H) (hS : va_S (Ar b N) s.heap H locs) {x : Int32} (ht : tys[0]? = some (AC 0, .int)) (hk : k < N) (hs : (sh k).1 = 0) (hn : (sh k).2.1 = n) (hin : vp_in i n) (hdg : decode cc pc = .ok (.iastore, 1))
    (kk : ∀ (H1 : Heap) (locs1 : List Loc), Wd D cl AC b N sh (sI μ k i.toNatClampNeg x) H1 → va_S (Ar b N) s.heap H1 locs1 → W p l e R s m args below meth c H1 locs1 cells slots Q (F0 m (pc + 1) ls rest)) : W p l e R s m args below meth c H locs cells slots Q (F0 m pc ls (.int x :: .int i :: .ref (b + k) :: rest)) := by
  subst hn
  refine va_iast X.1 X.2.1 hK hW wl_D hS k 0 ((wl_at hk).trans (by rw [cE_i hs])) ht hin hdg (fun H1 locs1 hP _ hS1 => ?_)
  rw [wl_set (μ' := sI μ k i.toNatClampNeg x) hk (by rw [cE_i hs, sI_at]) (fun i hi => cE_sI hi)] at hP
  exact kk H1 locs1 hP hS1
theorem r_ls (X : Cx p s m args meth c own cc nL ret) (hK : va_K D cl tys s) (hW : Wd D cl AC b N sh μ H) (hS : va_S (Ar b N) s.heap H locs) {x : Int64} (ht : tys[1]? = some (AC 1, .long)) (hk : k < N) (hs : (sh k).1 = 1) (hn : (sh k).2.1 = n) (hin : vp_in i n) (hdg : decode cc pc = .ok (.lastore, 1))
    (kk : ∀ (H1 : Heap) (locs1 : List Loc), Wd D cl AC b N sh (sL μ k i.toNatClampNeg x) H1 → va_S (Ar b N) s.heap H1 locs1 → W p l e R s m args below meth c H1 locs1 cells slots Q (F0 m (pc + 1) ls rest)) : W p l e R s m args below meth c H locs cells slots Q (F0 m pc ls (.long x :: .int i :: .ref (b + k) :: rest)) := by
  subst hn
  refine va_last X.1 X.2.1 hK hW wl_D hS k 1 ((wl_at hk).trans (by rw [cE_l hs])) ht hin hdg (fun H1 locs1 hP _ hS1 => ?_)
  rw [wl_set (μ' := sL μ k i.toNatClampNeg x) hk (by rw [cE_l hs, sL_at]) (fun i hi => cE_sL hi)] at hP
  exact kk H1 locs1 hP hS1
theorem r_zs (X : Cx p s m args meth c own cc nL ret) (hK : va_K D cl tys s) (hW : Wd D cl AC b N sh μ H) (hS : va_S (Ar b N) s.heap H locs) {x : Int32} (ht : tys[2]? = some (AC 2, .boolean)) (hk : k < N) (hs : (sh k).1 = 2) (hn : (sh k).2.1 = n) (hin : vp_in i n) (hx : vp_nar .boolean x = x) (hdg : decode cc pc = .ok (.bastore, 1))
    (kk : ∀ (H1 : Heap) (locs1 : List Loc), Wd D cl AC b N sh (sI μ k i.toNatClampNeg x) H1 → va_S (Ar b N) s.heap H1 locs1 → W p l e R s m args below meth c H1 locs1 cells slots Q (F0 m (pc + 1) ls rest)) : W p l e R s m args below meth c H locs cells slots Q (F0 m pc ls (.int x :: .int i :: .ref (b + k) :: rest)) := by
  subst hn
  refine va_zast X.1 X.2.1 hK hW wl_D hS k 2 ((wl_at hk).trans (by rw [cE_z hs])) ht hin hdg (fun H1 locs1 hP _ hS1 => ?_)
  rw [hx, wl_set (μ' := sI μ k i.toNatClampNeg x) hk (by rw [cE_z hs, sI_at]) (fun i hi => cE_sI hi)] at hP
  exact kk H1 locs1 hP hS1
theorem r_len0 (X : Cx p s m args meth c own cc nL ret) (hK : va_K D cl tys s) (hW : Wd D cl AC b N sh μ H) {v : Int32} (ht : tys[0]? = some (AC 0, .int)) (hk : k < N) (hs : (sh k).1 = 0) (hn : (sh k).2.1 = n) (hv : Int32.ofNat n = v) (hdg : decode cc pc = .ok (.arraylength, 1))
    (kk : W p l e R s m args below meth c H locs cells slots Q (F0 m (pc + 1) ls (.int v :: rest))) : W p l e R s m args below meth c H locs cells slots Q (F0 m pc ls (.ref (b + k) :: rest)) := by
  subst hn
  exact va_alen X.1 X.2.1 hK hW k 0 ((wl_at hk).trans (by rw [cE_i hs])) ht hv hdg kk
theorem r_len1 (X : Cx p s m args meth c own cc nL ret) (hK : va_K D cl tys s) (hW : Wd D cl AC b N sh μ H) {v : Int32} (ht : tys[1]? = some (AC 1, .long)) (hk : k < N) (hs : (sh k).1 = 1) (hn : (sh k).2.1 = n) (hv : Int32.ofNat n = v) (hdg : decode cc pc = .ok (.arraylength, 1))
    (kk : W p l e R s m args below meth c H locs cells slots Q (F0 m (pc + 1) ls (.int v :: rest))) : W p l e R s m args below meth c H locs cells slots Q (F0 m pc ls (.ref (b + k) :: rest)) := by
  subst hn
  exact va_alen X.1 X.2.1 hK hW k 1 ((wl_at hk).trans (by rw [cE_l hs])) ht hv hdg kk
theorem r_lenq (X : Cx p s m args meth c own cc nL ret) (hK : va_K D cl tys s) (hW : Wd D cl AC b N sh μ H) {v : Int32} {t : Nat} {ty : FieldType} (ht : tys[t]? = some (AC t, ty)) (h1 : 2 < t) (h2 : t < 10) (hk : k < N) (hs : (sh k).1 = t) (hn : (sh k).2.1 = n) (hv : Int32.ofNat n = v) (hdg : decode cc pc = .ok (.arraylength, 1))
    (kk : W p l e R s m args below meth c H locs cells slots Q (F0 m (pc + 1) ls (.int v :: rest))) : W p l e R s m args below meth c H locs cells slots Q (F0 m pc ls (.ref (b + k) :: rest)) := by
  subst hn
  exact va_alen X.1 X.2.1 hK hW k t ((wl_at hk).trans (by rw [cE_q hs h1 h2])) ht hv hdg kk
end ARR
/-! calls -/
section CALLS
variable {y : MethodName} {bytes : ByteArray} {maxL d d' index : Nat} {As : List Value} {F : State → Heap → Prop} {r : Option Value} {k : Nat} {ret' : Option FieldType} {A : Nat → Prop} {B : State → Prop}
theorem cB (X : Cx p s m args meth c own cc nL ret) (n : Nat) (hc : Cond.code y bytes maxL ret' ∈ LW) (hl : Cond.methodLink own index y ∈ LW) (hi : Cond.initialized y.cls ∈ LW) (hd : y.cls ≠ "java/lang/invoke/MethodHandle" ∧ y.cls ≠ "java/lang/invoke/VarHandle" ∧ (parseMethodDescriptor y.desc).map (fun d => d.parameters.length) = some n) (hR : d + 1 ≤ d') (hm : maxL ≤ 45) : CallB (rmd d') s args own index y bytes maxL ret' (ws_ y bytes maxL ret') (rmd d) 0 0 n :=
  callB_of n X.2.2.2.2.1 (LW_gin hc) rfl rfl rfl (X.2.2.2.2.1 _ hi) (X.2.2.2.2.1 _ hl) hd ⟨hR, by show 8 + (maxL + 11) + 64 * d ≤ 64 * d'; omega⟩
/-- behind a call of a method that may write -/
theorem k_m {free : Addr → Prop} (hr : va_Run p l e R s m args below meth c H locs cells slots 0 0 (F0 m pc ls st0) rest (QM A F r As.toArray) free) (hfr : ∀ q, free q → A q) (hS : va_S A s.heap H locs)
    (kk : ∀ (t : State) (locs1 : List Loc), F t t.heap → s.vm.Alike t.vm → va_S A s.heap t.heap locs1 → W p l e R s m args below meth c t.heap locs1 cells slots Q (F0 m (pc + 3) ls (r.toList ++ rest))) : W p l e R s m args below meth c H locs cells slots Q (F0 m pc ls st0) := by
  intro T hT Xs
  obtain ⟨v, st₀, t, T', L, h0, X', hL, e1, e2, ⟨hv, hF, hz, hk⟩, st⟩ := hr T hT Xs
  cases hv
  rw [h0] at hz hk
  obtain ⟨t2, a1, b1⟩ := kk t (locs ++ L) hF (by rw [← e2]; exact X'.warmed.alike) ⟨Nat.le_trans hS.1 hz, fun q h1 h2 => (hk q (Nat.lt_of_lt_of_le h1 hS.1) h2).trans (hS.2.1 q h1 h2), fun q hq => (List.mem_append.mp hq).elim (hS.2.2 q) (fun h => hfr _ (hL q h))⟩ T' e1 X'
  exact ⟨t2, st t2 a1, b1⟩
/-- behind a call of one that only computes -/
theorem k_p (hr : va_Run p l e R s m args below meth c H locs cells slots 0 0 (F0 m pc ls st0) rest (QP r As.toArray) noA)
    (kk : W p l e R s m args below meth c H locs cells slots Q (F0 m (pc + 3) ls (r.toList ++ rest))) : W p l e R s m args below meth c H locs cells slots Q (F0 m pc ls st0) := by
  intro T hT Xs
  obtain ⟨v, st₀, t, T', L, h0, X', hL, e1, e2, ⟨hv, hh⟩, st⟩ := hr T hT Xs
  cases hv
  obtain ⟨t2, a1, b1⟩ := kk T' (by rw [e1, hh, h0]) (Stand.forget X' (fun q h => (hL q h).elim))
  exact ⟨t2, st t2 a1, b1⟩
end CALLS
end ROWS
/-! contracts -/
def PreM (D : va_G) (cl : List vw_C) (tys : List (ClassId × FieldType)) (AC : Nat → ClassId) (b N : Nat) (sh : Shp) (nums : Nat → Int32) (μ : Mm) : State → Prop := fun U => Wd D cl AC b N sh μ U.heap ∧ va_K D cl tys U ∧ Nst (Ar b N) nums U U.heap
def MM (l : Launch) (y : MethodName) (bytes : ByteArray) (maxL : Nat) (ret : Option FieldType) (d : Nat) (D : va_G) (cl : List vw_C) (tys : List (ClassId × FieldType)) (AC : Nat → ClassId) (b N : Nat) (sh : Shp) (nums : Nat → Int32) (As : List Value) (μ : Mm) (r : Option Value) (μ' : Mm) : Prop :=
  Met l y (ws_ y bytes maxL ret) (rmd d) (va_Pc As (PreM D cl tys AC b N sh nums μ)) (QM (Ar b N) (fun _ H => Wd D cl AC b N sh μ' H) r) 0 0 (Ar b N)
def MP (l : Launch) (y : MethodName) (bytes : ByteArray) (maxL : Nat) (ret : Option FieldType) (d : Nat) (nums : Nat → Int32) (As : List Value) (r : Option Value) : Prop :=
  Met l y (ws_ y bytes maxL ret) (rmd d) (va_Pc As (fun U => Nst noA nums U U.heap)) (QP r) 0 0 noA
section MK
variable {l : Launch} {y : MethodName} {bytes : ByteArray} {maxL d d' : Nat} {ret ret' : Option FieldType} {D : va_G} {cl : List vw_C} {tys : List (ClassId × FieldType)} {AC : Nat → ClassId} {b N : Nat} {sh : Shp} {nums : Nat → Int32} {As : List Value} {μ μ' : Mm} {r : Option Value}
theorem mk_M (hy : plainName y.cls = true) (hlen : (lg_sl As).length ≤ maxL)
    (body : ∀ (p : Program) (e : Env) (s : State) (m : MethodId) (below : List Frame) (meth : Method) (c : Code), Cx p s m As.toArray meth c y.cls bytes maxL ret → va_K D cl tys s → Nst (Ar b N) nums s s.heap → ∀ (H : Heap) (locs : List Loc), Wd D cl AC b N sh μ H → va_S (Ar b N) s.heap H locs → ∀ ls : Array Slot, lv_has ls maxL (lv_args 0 As) →
      W p l e (rmd d) s m As.toArray below meth c H locs 0 0 (MQ below (QM (Ar b N) (fun _ H => Wd D cl AC b N sh μ' H) r) As.toArray s 0 0 (Ar b N)) (F0 m 0 ls [])) : MM l y bytes maxL ret d D cl tys AC b N sh nums As μ r μ' := by
  refine Met.ofW (cc := bytes) (maxL := maxL) (ret := ret) hy rfl ?_
  intro p e s m args below meth c s₁ B hml hv
  obtain ⟨rfl, hW, hK, hN⟩ := hv
  have hts := atoms_spec (ws := ws_ y bytes maxL ret) B.pre
  have hl := lv_entry As (n := maxL) hlen
  rw [lg_entry_eq]
  exact body p e s m below meth c ⟨B.exec, B.bytes, hml, findClass_of_methodNamed B.named, fun w hw => hts w (List.mem_cons_of_mem _ hw), B.returns, B.notSynchronized⟩ hK hN s.heap [] hW va_S.rf _ hl
theorem mk_P (hy : plainName y.cls = true) (hlen : (lg_sl As).length ≤ maxL)
    (body : ∀ (p : Program) (e : Env) (s : State) (m : MethodId) (below : List Frame) (meth : Method) (c : Code), Cx p s m As.toArray meth c y.cls bytes maxL ret → Nst noA nums s s.heap → va_S noA s.heap s.heap [] → ∀ ls : Array Slot, lv_has ls maxL (lv_args 0 As) →
      W p l e (rmd d) s m As.toArray below meth c s.heap [] 0 0 (MQ below (QP r) As.toArray s 0 0 noA) (F0 m 0 ls [])) : MP l y bytes maxL ret d nums As r := by
  refine Met.ofW (cc := bytes) (maxL := maxL) (ret := ret) hy rfl ?_
  intro p e s m args below meth c s₁ B hml hv
  obtain ⟨rfl, hN⟩ := hv
  have hts := atoms_spec (ws := ws_ y bytes maxL ret) B.pre
  have hl := lv_entry As (n := maxL) hlen
  rw [lg_entry_eq]
  exact body p e s m below meth c ⟨B.exec, B.bytes, hml, findClass_of_methodNamed B.named, fun w hw => hts w (List.mem_cons_of_mem _ hw), B.returns, B.notSynchronized⟩ hN va_S.rf _ hl
section ENDS
variable {p : Program} {e : Env} {R : Room} {s : State} {m : MethodId} {args : Array Value} {below : List Frame} {meth : Method} {c : Code} {H : Heap} {locs : List Loc} {own : String} {cc : ByteArray} {nL pc : Nat} {ls : Array Slot} {rest st0 : List Value} {Q : State → Prop}
-- ends of methods that may write
theorem em_i {v : Int32} (X : Cx p s m args meth c own cc nL (some .int)) (hW : Wd D cl AC b N sh μ H) (hS : va_S (Ar b N) s.heap H locs) (hdg : decode cc pc = .ok (.ireturn, 1)) : W p l e R s m args below meth c H locs 0 0 (MQ below (QM (Ar b N) (fun _ H => Wd D cl AC b N sh μ H) (some (.int v))) args s 0 0 (Ar b N)) (F0 m pc ls [.int v]) :=
  W.iret X.1 X.2.1 X.2.2.2.2.2.1 (fun t ht _ => ⟨rfl, by rw [ht]; exact hW, hS.F ht⟩) hS.2.2 hdg X.2.2.2.2.2.2
theorem em_z {v : Int32} (X : Cx p s m args meth c own cc nL (some .boolean)) (hW : Wd D cl AC b N sh μ H) (hS : va_S (Ar b N) s.heap H locs) (hv : v = 0 ∨ v = 1) (hdg : decode cc pc = .ok (.ireturn, 1)) : W p l e R s m args below meth c H locs 0 0 (MQ below (QM (Ar b N) (fun _ H => Wd D cl AC b N sh μ H) (some (.int v))) args s 0 0 (Ar b N)) (F0 m pc ls [.int v]) :=
  W.zret X.1 X.2.1 X.2.2.2.2.2.1 (by rcases hv with rfl | rfl <;> rfl) (fun t ht _ => ⟨rfl, by rw [ht]; exact hW, hS.F ht⟩) hS.2.2 hdg X.2.2.2.2.2.2
theorem em_l {v : Int64} (X : Cx p s m args meth c own cc nL (some .long)) (hW : Wd D cl AC b N sh μ H) (hS : va_S (Ar b N) s.heap H locs) (hdg : decode cc pc = .ok (.lreturn, 1)) : W p l e R s m args below meth c H locs 0 0 (MQ below (QM (Ar b N) (fun _ H => Wd D cl AC b N sh μ H) (some (.long v))) args s 0 0 (Ar b N)) (F0 m pc ls [.long v]) :=
  W.lret X.1 X.2.1 X.2.2.2.2.2.1 (fun t ht _ => ⟨rfl, by rw [ht]; exact hW, hS.F ht⟩) hS.2.2 hdg X.2.2.2.2.2.2
theorem em_f {v : UInt32} (X : Cx p s m args meth c own cc nL (some .float)) (hW : Wd D cl AC b N sh μ H) (hS : va_S (Ar b N) s.heap H locs) (hdg : decode cc pc = .ok (.freturn, 1)) : W p l e R s m args below meth c H locs 0 0 (MQ below (QM (Ar b N) (fun _ H => Wd D cl AC b N sh μ H) (some (.float v))) args s 0 0 (Ar b N)) (F0 m pc ls [.float v]) :=
  W.fret X.1 X.2.1 X.2.2.2.2.2.1 (fun t ht _ => ⟨rfl, by rw [ht]; exact hW, hS.F ht⟩) hS.2.2 hdg X.2.2.2.2.2.2
theorem em_d {v : UInt64} (X : Cx p s m args meth c own cc nL (some .double)) (hW : Wd D cl AC b N sh μ H) (hS : va_S (Ar b N) s.heap H locs) (hdg : decode cc pc = .ok (.dreturn, 1)) : W p l e R s m args below meth c H locs 0 0 (MQ below (QM (Ar b N) (fun _ H => Wd D cl AC b N sh μ H) (some (.double v))) args s 0 0 (Ar b N)) (F0 m pc ls [.double v]) :=
  W.dret X.1 X.2.1 X.2.2.2.2.2.1 (fun t ht _ => ⟨rfl, by rw [ht]; exact hW, hS.F ht⟩) hS.2.2 hdg X.2.2.2.2.2.2
theorem em_v (X : Cx p s m args meth c own cc nL none) (hW : Wd D cl AC b N sh μ H) (hS : va_S (Ar b N) s.heap H locs) (hdg : decode cc pc = .ok (.return_, 1)) : W p l e R s m args below meth c H locs 0 0 (MQ below (QM (Ar b N) (fun _ H => Wd D cl AC b N sh μ H) none) args s 0 0 (Ar b N)) (F0 m pc ls []) :=
  W.vret X.1 X.2.1 X.2.2.2.2.2.1 (fun t ht _ => ⟨rfl, by rw [ht]; exact hW, hS.F ht⟩) hS.2.2 hdg X.2.2.2.2.2.2
theorem em_a {v : Value} {rt : FieldType} (X : Cx p s m args meth c own cc nL (some rt)) (hrt : (∃ n, rt = .object n) ∨ ∃ t, rt = .array t) (hv : v = .null ∨ ∃ a, v = .ref a) (hW : Wd D cl AC b N sh μ H) (hS : va_S (Ar b N) s.heap H locs) (hdg : decode cc pc = .ok (.areturn, 1)) : W p l e R s m args below meth c H locs 0 0 (MQ below (QM (Ar b N) (fun _ H => Wd D cl AC b N sh μ H) (some v)) args s 0 0 (Ar b N)) (F0 m pc ls [v]) :=
  W.aret X.1 X.2.1 X.2.2.2.2.2.1 hrt hv (fun t ht _ => ⟨rfl, by rw [ht]; exact hW, hS.F ht⟩) hS.2.2 hdg X.2.2.2.2.2.2
-- of those that compute alone
theorem ep_i {v : Int32} (X : Cx p s m args meth c own cc nL (some .int)) (hdg : decode cc pc = .ok (.ireturn, 1)) : W p l e R s m args below meth c s.heap [] 0 0 (MQ below (QP (some (.int v))) args s 0 0 noA) (F0 m pc ls [.int v]) :=
  W.iret X.1 X.2.1 X.2.2.2.2.2.1 (fun t ht _ => ⟨rfl, ht⟩) (fun _ h => by cases h) hdg X.2.2.2.2.2.2
theorem ep_z {v : Int32} (X : Cx p s m args meth c own cc nL (some .boolean)) (hv : v = 0 ∨ v = 1) (hdg : decode cc pc = .ok (.ireturn, 1)) : W p l e R s m args below meth c s.heap [] 0 0 (MQ below (QP (some (.int v))) args s 0 0 noA) (F0 m pc ls [.int v]) :=
  W.zret X.1 X.2.1 X.2.2.2.2.2.1 (by rcases hv with rfl | rfl <;> rfl) (fun t ht _ => ⟨rfl, ht⟩) (fun _ h => by cases h) hdg X.2.2.2.2.2.2
theorem ep_l {v : Int64} (X : Cx p s m args meth c own cc nL (some .long)) (hdg : decode cc pc = .ok (.lreturn, 1)) : W p l e R s m args below meth c s.heap [] 0 0 (MQ below (QP (some (.long v))) args s 0 0 noA) (F0 m pc ls [.long v]) :=
  W.lret X.1 X.2.1 X.2.2.2.2.2.1 (fun t ht _ => ⟨rfl, ht⟩) (fun _ h => by cases h) hdg X.2.2.2.2.2.2
theorem ep_d {v : UInt64} (X : Cx p s m args meth c own cc nL (some .double)) (hdg : decode cc pc = .ok (.dreturn, 1)) : W p l e R s m args below meth c s.heap [] 0 0 (MQ below (QP (some (.double v))) args s 0 0 noA) (F0 m pc ls [.double v]) :=
  W.dret X.1 X.2.1 X.2.2.2.2.2.1 (fun t ht _ => ⟨rfl, ht⟩) (fun _ h => by cases h) hdg X.2.2.2.2.2.2
-- calls
theorem blindM (As : List Value) : FrameBlind (va_Pc As (PreM D cl tys AC b N sh nums μ)) := fun a U g mk q => ⟨q.1, q.2.1, va_K.moved (u := U) (U := U.calling g mk a) (Vm.Alike.refl U.vm) q.2.2.1, Nst.moved (u := U) (U := U.calling g mk a) (Vm.Alike.refl U.vm) q.2.2.2⟩
theorem blindP (As : List Value) : FrameBlind (va_Pc As (fun U => Nst noA nums U U.heap)) := fun a U g mk q => ⟨q.1, Nst.moved (u := U) (U := U.calling g mk a) (Vm.Alike.refl U.vm) q.2⟩
theorem preM {U : State} (hK : va_K D cl tys s) (hN : Nst (Ar b N) nums s s.heap) (hW : Wd D cl AC b N sh μ H) (hS : va_S (Ar b N) s.heap H locs) (hU : U.heap = H) (hw : s.WarmedH U.vm) : PreM D cl tys AC b N sh nums μ U := by
  refine ⟨by rw [hU]; exact hW, hK.moved hw.alike, ?_⟩
  rw [hU]
  exact (hN.kept hS.2.1).moved hw.alike
/-- a virtual call on an object of the block -/
theorem cMV {index k n ci : Nat} {T : u_T} {M : Nat} {As : List Value} (X : Cx p s m args meth c own cc nL ret) (hK : va_K D cl tys s) (hN : Nst (Ar b N) nums s s.heap) (hW : Wd D cl AC b N sh μ H) (hS : va_S (Ar b N) s.heap H locs) (hM : MM l y bytes maxL ret' d D cl tys AC b N sh nums (.ref (b + k) :: As) μ r μ')
    (hk : k < N) (hs : (sh k).1 = 10 + ci) (hcl : cl[ci]? = some (y.cls, T, M)) (hc : Cond.code y bytes maxL ret' ∈ LW) (hl : Cond.methodLink own index y ∈ LW) (hi : Cond.initialized y.cls ∈ LW) (hin : Cond.instanceMethod y ∈ LW) (hse : Cond.selects y.cls y y ∈ LW)
    (hd : y.cls ≠ "java/lang/invoke/MethodHandle" ∧ y.cls ≠ "java/lang/invoke/VarHandle" ∧ (parseMethodDescriptor y.desc).map (fun d => d.parameters.length) = some n) (hn : As.length = n) (hR : d + 1 ≤ d') (hm : maxL ≤ 45) (hls : ls.size = nL) (hst : st0 = As.reverse ++ .ref (b + k) :: rest) (hcat : (rest.map fun v => v.category).sum ≤ 8) (hdg : decode cc pc = .ok (.invokevirtual index, 3))
    (kk : ∀ (H1 : Heap) (locs1 : List Loc), Wd D cl AC b N sh μ' H1 → va_S (Ar b N) s.heap H1 locs1 → W p l e (rmd d') s m args below meth c H1 locs1 0 0 Q (F0 m (pc + 3) ls (r.toList ++ rest))) : W p l e (rmd d') s m args below meth c H locs 0 0 Q (F0 m pc ls st0) := by
  refine k_m (va_runV (As := As) (rest := rest) (C := y.cls) ⟨X.1, X.2.1, X.2.2.1, X.2.2.2.1, X.2.2.2.2.1⟩ hM ⟨cB X n hc hl hi hd hR hm, X.2.2.2.2.1 _ hin, X.2.2.2.2.1 _ hse⟩ ⟨blindM _, va_recv hK hW hcl ((wl_at hk).trans (by rw [cE_o hs])), fun U hU hw => ⟨rfl, preM hK hN hW hS hU hw⟩⟩ rfl hn hls hst (lv_room hcat) hdg ⟨Nat.le_refl _, Nat.le_refl _⟩) (fun _ h => h) hS (fun t locs1 hF _ hS1 => ?_)
  exact kk t.heap locs1 hF hS1
/-- a static call of a method that may write -/
theorem cMS {index n : Nat} {As : List Value} (X : Cx p s m args meth c own cc nL ret) (hK : va_K D cl tys s) (hN : Nst (Ar b N) nums s s.heap) (hW : Wd D cl AC b N sh μ H) (hS : va_S (Ar b N) s.heap H locs) (hM : MM l y bytes maxL ret' d D cl tys AC b N sh nums As μ r μ')
    (hc : Cond.code y bytes maxL ret' ∈ LW) (hl : Cond.methodLink own index y ∈ LW) (hi : Cond.initialized y.cls ∈ LW) (hstt : Cond.static y ∈ LW)
    (hd : y.cls ≠ "java/lang/invoke/MethodHandle" ∧ y.cls ≠ "java/lang/invoke/VarHandle" ∧ (parseMethodDescriptor y.desc).map (fun d => d.parameters.length) = some n) (hn : As.length = n) (hR : d + 1 ≤ d') (hm : maxL ≤ 45) (hls : ls.size = nL) (hst : st0 = As.reverse ++ rest) (hcat : (rest.map fun v => v.category).sum ≤ 8) (hdg : decode cc pc = .ok (.invokestatic index, 3))
    (kk : ∀ (H1 : Heap) (locs1 : List Loc), Wd D cl AC b N sh μ' H1 → va_S (Ar b N) s.heap H1 locs1 → W p l e (rmd d') s m args below meth c H1 locs1 0 0 Q (F0 m (pc + 3) ls (r.toList ++ rest))) : W p l e (rmd d') s m args below meth c H locs 0 0 Q (F0 m pc ls st0) := by
  refine k_m (va_runS (As := As) (rest := rest) ⟨X.1, X.2.1, X.2.2.1, X.2.2.2.1, X.2.2.2.2.1⟩ hM ⟨cB X n hc hl hi hd hR hm, X.2.2.2.2.1 _ hstt⟩ ⟨blindM _, fun U hU hw => ⟨rfl, preM hK hN hW hS hU hw⟩⟩ rfl hn hls hst (lv_room hcat) hdg ⟨Nat.le_refl _, Nat.le_refl _⟩) (fun _ h => h) hS (fun t locs1 hF _ hS1 => ?_)
  exact kk t.heap locs1 hF hS1
/-- a static call of one that computes alone, out of any method -/
theorem cPS {index n : Nat} {As : List Value} {A : Nat → Prop} (X : Cx p s m args meth c own cc nL ret) (hN : Nst A nums s s.heap) (hS : va_S A s.heap H locs) (hM : MP l y bytes maxL ret' d nums As r)
    (hc : Cond.code y bytes maxL ret' ∈ LW) (hl : Cond.methodLink own index y ∈ LW) (hi : Cond.initialized y.cls ∈ LW) (hstt : Cond.static y ∈ LW)
    (hd : y.cls ≠ "java/lang/invoke/MethodHandle" ∧ y.cls ≠ "java/lang/invoke/VarHandle" ∧ (parseMethodDescriptor y.desc).map (fun d => d.parameters.length) = some n) (hn : As.length = n) (hR : d + 1 ≤ d') (hm : maxL ≤ 45) (hls : ls.size = nL) (hst : st0 = As.reverse ++ rest) (hcat : (rest.map fun v => v.category).sum ≤ 8) (hdg : decode cc pc = .ok (.invokestatic index, 3))
    (kk : W p l e (rmd d') s m args below meth c H locs 0 0 Q (F0 m (pc + 3) ls (r.toList ++ rest))) : W p l e (rmd d') s m args below meth c H locs 0 0 Q (F0 m pc ls st0) := by
  refine k_p (va_runS (As := As) (rest := rest) ⟨X.1, X.2.1, X.2.2.1, X.2.2.2.1, X.2.2.2.2.1⟩ hM ⟨cB X n hc hl hi hd hR hm, X.2.2.2.2.1 _ hstt⟩ ⟨blindP _, fun U hU hw => ⟨rfl, ?_⟩⟩ rfl hn hls hst (lv_room hcat) hdg ⟨Nat.le_refl _, Nat.le_refl _⟩) kk
  show Nst noA nums U U.heap
  rw [hU]
  exact ((hN.kept hS.2.1).narrow (fun _ h => h.elim)).moved hw.alike
end ENDS
end MK
/-! computing with partial answers -/
def bnd {α β : Type} (e : α) (f : α → Option β) : Option β := f e
def grd {β : Type} (q : Bool) (r : Option β) : Option β := match q with
  | true => r
  | false => none
theorem bnd_e {α β : Type} {e : α} {f : α → Option β} {r : Option β} (h : bnd e f = r) : ∃ x, x = e ∧ f x = r := ⟨e, rfl, h⟩
theorem bnd_v {α β : Type} {e x : α} {f : α → Option β} {r : Option β} (hx : x = e) (h : bnd e f = r) : f x = r := by subst hx; exact h
theorem grd_e {β : Type} {q : Bool} {f : Option β} {r : β} (h : grd q f = some r) : q = true ∧ f = some r := by
  cases q with
  | true => exact ⟨rfl, h⟩
  | false => cases h
theorem bind_e {α β : Type} {o : Option α} {f : α → Option β} {r : β} (h : o.bind f = some r) : ∃ x, o = some x ∧ f x = some r := by
  cases o with
  | none => cases h
  | some x => exact ⟨x, rfl, h⟩
theorem ite_t {β : Type} {c : Prop} [Decidable c] {x y r : β} (hc : c) (h : (if c then x else y) = r) : x = r := by rwa [if_pos hc] at h
theorem ite_f {β : Type} {c : Prop} [Decidable c] {x y r : β} (hc : ¬ c) (h : (if c then x else y) = r) : y = r := by rwa [if_neg hc] at h
def inb (i : Int32) (n : Nat) : Bool := !(decide (i < 0) || decide (n ≤ i.toNatClampNeg))
theorem inb_in {i : Int32} {n : Nat} (h : inb i n = true) : vp_in i n := by
  simpa [inb, vp_in] using h
def isb (x : Int32) : Bool := decide (x = 0) || decide (x = 1)
theorem isb_or {x : Int32} (h : isb x = true) : x = 0 ∨ x = 1 := by simpa [isb] using h
theorem isb_n {x : Int32} (h : isb x = true) : narrow .boolean (.int x) = .int x := by rcases isb_or h with rfl | rfl <;> rfl
theorem isb_v {x : Int32} (h : isb x = true) : vp_nar .boolean x = x := by rcases isb_or h with rfl | rfl <;> rfl
theorem isb_f {x : Int32} (h : isb x = true) : fits .boolean (.int x) = true := by rcases isb_or h with rfl | rfl <;> rfl
