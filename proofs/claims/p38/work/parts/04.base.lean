/-! My own layer: one block of NN cells of a fixed shape at addresses ad 0, ad 1 ..; what may change in it are ints and longs alone. -/
def sI (μ : Mm) (k j : Nat) (v : Int32) : Mm := (va_up μ.1 k (upd (μ.1 k) j v), μ.2)
def sL (μ : Mm) (k j : Nat) (v : Int64) : Mm := (μ.1, va_up μ.2 k (vp_updL (μ.2 k) j v))
/-- a whole row of ints anew -/
def sR (μ : Mm) (k : Nat) (f : Nat → Int32) : Mm := (va_up μ.1 k f, μ.2)
/-- a value by places: references are places of the block; the token retAddr is the table of the types' numbers -/
def rv (ad : Nat → Nat) (tn : Nat) : Value → Value
  | .ref k => .ref (ad k)
  | .retAddr _ => .ref tn
  | v => v
theorem rv_cat {ad : Nat → Nat} {tn : Nat} (v : Value) : (rv ad tn v).category = v.category := by cases v <;> rfl
theorem rv_sum {ad : Nat → Nat} {tn : Nat} (l : List Value) : ((l.map (rv ad tn)).map fun v => v.category).sum = (l.map fun v => v.category).sum := by
  rw [List.map_map]
  congr 1
  exact List.map_congr_left (fun v _ => rv_cat v)
def fl (ad : Nat → Nat) (c k n : Nat) (f : Nat → Int32) : List Value := (List.range n).map fun j => bif isR c j then .ref (ad (sub k j)) else .int (f j)
section FL
variable {ad : Nat → Nat} {c k n j : Nat} {f : Nat → Int32}
theorem fl_len : (fl ad c k n f).length = n := by simp [fl]
theorem fl_int (hj : j < n) (hr : isR c j = false) : (fl ad c k n f)[j]? = some (.int (f j)) := by simp [fl, hj, hr]
theorem fl_ref (hj : j < n) (hr : isR c j = true) : (fl ad c k n f)[j]? = some (.ref (ad (sub k j))) := by simp [fl, hj, hr]
theorem fl_set {x : Int32} (hj : j < n) (hr : isR c j = false) : (fl ad c k n f).set j (.int x) = fl ad c k n (upd f j x) := by
  apply List.ext_getElem?
  intro i
  by_cases hi : i < n
  · by_cases he : i = j
    · subst he
      rw [List.getElem?_set_self (by rw [fl_len]; exact hi), fl_int hi hr]
      simp [upd]
    · rw [List.getElem?_set_ne (Ne.symm he)]
      cases hq : isR c i with
      | true => rw [fl_ref hi hq, fl_ref hi hq]
      | false => rw [fl_int hi hq, fl_int hi hq]; simp [upd, he]
  · rw [List.getElem?_eq_none (by rw [List.length_set, fl_len]; omega), List.getElem?_eq_none (by rw [fl_len]; omega)]
end FL
def cE (AC : Nat → ClassId) (ad : Nat → Nat) (μ : Mm) (k : Nat) : va_E :=
  if shK k = 0 then .inl (AC 0, shN k, .inl (μ.1 k))
  else if shK k = 1 then .inl (AC 1, shN k, .inr (.inl (μ.2 k)))
  else if shK k = 2 then .inl (AC 2, shN k, .inl (μ.1 k))
  else if shK k < 10 then .inl (AC (shK k), shN k, .inr (.inr (.inr (.inr fun j => some (ad (sub k j))))))
  else .inr (shK k - 10, fl ad (shK k - 10) k (cN (shK k - 10)) (μ.1 k))
def wl (ks : List Nat) (AC : Nat → ClassId) (ad : Nat → Nat) (μ : Mm) : va_W := ks.map fun k => (ad k, cE AC ad μ k)
/-- the cells that are there, each once, at addresses apart -/
def adI (ks : List Nat) (ad : Nat → Nat) : Prop := ks.Nodup ∧ ∀ i j, i ∈ ks → j ∈ ks → ad i = ad j → i = j
def Ar (ks : List Nat) (ad : Nat → Nat) : Nat → Prop := fun q => ∃ k, k ∈ ks ∧ q = ad k
def isO (k c : Nat) : Bool := Nat.beq (shK k) (10 + c)
def isA (k : Nat) : Bool := Nat.ble (shK k) 9
def lnI (k : Nat) : Nat := bif Nat.beq (shK k) 0 then shN k else 0
def lnL (k : Nat) : Nat := bif Nat.beq (shK k) 1 then shN k else 0
def lnZ (k : Nat) : Nat := bif Nat.beq (shK k) 2 then shN k else 0
def lnQ (k : Nat) : Nat := bif (Nat.ble 3 (shK k) && Nat.ble (shK k) 5) then shN k else 0
theorem sh_lt {k : Nat} (h : shK k ≠ 99) : k < NN := by
  rcases Nat.lt_or_ge k NN with q | q
  · exact q
  · exfalso
    apply h
    have h1 : ∀ u, u < 306 → Nat.ble k u = false := fun u hu => by
      rw [Bool.eq_false_iff]
      intro e
      have := Nat.le_of_ble_eq_true e
      have q' : 306 ≤ k := q
      omega
    unfold shK
    simp (discharger := decide) only [h1, cond_false]
section WLD
variable {ks : List Nat} {AC : Nat → ClassId} {ad : Nat → Nat} {μ : Mm}
theorem ks_ix {k : Nat} (hk : k ∈ ks) : ∃ q : Nat, ks[q]? = some k := List.getElem?_of_mem hk
theorem wl_at {k q : Nat} (hk : ks[q]? = some k) : (wl ks AC ad μ)[q]? = some (ad k, cE AC ad μ k) := by simp [wl, hk]
theorem ks_inj {i j k : Nat} (hn : ks.Nodup) (h1 : ks[i]? = some k) (h2 : ks[j]? = some k) : i = j :=
  (List.getElem?_inj (List.getElem?_eq_some_iff.mp h1).1 hn).mp (h1.trans h2.symm)
theorem wl_D (hi : adI ks ad) : va_D (Ar ks ad) (wl ks AC ad μ) := by
  have key : ∀ (i : Nat) (p : Nat × va_E), (wl ks AC ad μ)[i]? = some p → ∃ k, ks[i]? = some k ∧ p.1 = ad k := by
    intro i p h
    unfold wl at h
    rw [List.getElem?_map] at h
    cases e : ks[i]? with
    | none => rw [e] at h; cases h
    | some k => rw [e] at h; cases h; exact ⟨k, rfl, rfl⟩
  refine ⟨fun i j p q hp hq e => ?_, fun k q hq => ?_⟩
  · obtain ⟨k1, g1, h1⟩ := key i p hp
    obtain ⟨k2, g2, h2⟩ := key j q hq
    have := hi.2 k1 k2 (List.mem_of_getElem? g1) (List.mem_of_getElem? g2) (by rw [← h1, ← h2]; exact e)
    subst this
    exact ks_inj hi.1 g1 g2
  · obtain ⟨k1, h1, h2⟩ := key k q hq
    exact ⟨k1, List.mem_of_getElem? h1, h2⟩
theorem wl_set {μ' : Mm} {k q : Nat} (hi : adI ks ad) (hk : ks[q]? = some k) {e : va_E} (he : cE AC ad μ' k = e) (ho : ∀ j, j ≠ k → cE AC ad μ' j = cE AC ad μ j) : (wl ks AC ad μ).set q (ad k, e) = wl ks AC ad μ' := by
  apply List.ext_getElem?
  intro i
  by_cases e1 : i = q
  · subst e1
    have hlt : i < (wl ks AC ad μ).length := (List.getElem?_eq_some_iff.mp (wl_at (AC := AC) (ad := ad) (μ := μ) hk)).1
    rw [List.getElem?_set_self hlt, wl_at hk, he]
  · rw [List.getElem?_set_ne (Ne.symm e1)]
    unfold wl
    rw [List.getElem?_map, List.getElem?_map]
    cases e2 : ks[i]? with
    | none => rfl
    | some j =>
      have hj : j ≠ k := fun q2 => by subst q2; exact e1 (ks_inj hi.1 e2 hk)
      show some (ad j, _) = some (ad j, _)
      rw [ho j hj]
theorem cE_i {k : Nat} (h : shK k = 0) : cE AC ad μ k = .inl (AC 0, shN k, .inl (μ.1 k)) := by simp [cE, h]
theorem cE_l {k : Nat} (h : shK k = 1) : cE AC ad μ k = .inl (AC 1, shN k, .inr (.inl (μ.2 k))) := by simp [cE, h]
theorem cE_z {k : Nat} (h : shK k = 2) : cE AC ad μ k = .inl (AC 2, shN k, .inl (μ.1 k)) := by simp [cE, h]
theorem cE_q {k t : Nat} (h : shK k = t) (h1 : 2 < t) (h2 : t < 10) : cE AC ad μ k = .inl (AC t, shN k, .inr (.inr (.inr (.inr fun j => some (ad (sub k j)))))) := by
  subst h
  unfold cE
  rw [if_neg (by omega), if_neg (by omega), if_neg (by omega), if_pos h2]
theorem cE_o {k c : Nat} (h : shK k = 10 + c) : cE AC ad μ k = .inr (c, fl ad c k (cN c) (μ.1 k)) := by
  unfold cE
  rw [if_neg (by omega), if_neg (by omega), if_neg (by omega), if_neg (by omega), h, Nat.add_sub_cancel_left]
theorem cE_sI {k j : Nat} {v : Int32} {i : Nat} (h : i ≠ k) : cE AC ad (sI μ k j v) i = cE AC ad μ i := by simp [cE, sI, va_up, h]
theorem cE_sL {k j : Nat} {v : Int64} {i : Nat} (h : i ≠ k) : cE AC ad (sL μ k j v) i = cE AC ad μ i := by simp [cE, sL, va_up, h]
theorem cE_sR {k : Nat} {f : Nat → Int32} {i : Nat} (h : i ≠ k) : cE AC ad (sR μ k f) i = cE AC ad μ i := by simp [cE, sR, va_up, h]
theorem sI_at {k j : Nat} {v : Int32} : (sI μ k j v).1 k = upd (μ.1 k) j v := by simp [sI, va_up]
theorem sL_at {k j : Nat} {v : Int64} : (sL μ k j v).2 k = vp_updL (μ.2 k) j v := by simp [sL, va_up]
theorem sR_at {k : Nat} {f : Nat → Int32} : (sR μ k f).1 k = f := by simp [sR, va_up]
end WLD
/-- the array classes -/
def tyL (AC : Nat → ClassId) : List (ClassId × FieldType) := [(AC 0, .int), (AC 1, .long), (AC 2, .boolean), (AC 3, .array .long), (AC 4, .object "TypesInside$Mix"), (AC 5, .object "TypesInside$Shelf")]
/-- the table of the types' numbers, a static array that nobody writes -/
def Nst (A : Nat → Prop) (tn : Nat) (U : State) (H : Heap) : Prop := va_Z "TypesInside$Types" "NUMBERS" "[I" (.ref tn) A U H ∧ va_T .int tn 19 (fun j => .int (nums j)) A U H
theorem Nst.moved {A : Nat → Prop} {tn : Nat} {u U : State} {H : Heap} (hvm : u.vm.Alike U.vm) (h : Nst A tn u H) : Nst A tn U H := ⟨h.1.moved hvm, h.2.moved hvm⟩
theorem Nst.kept {A : Nat → Prop} {tn : Nat} {U : State} {H H1 : Heap} (h : Nst A tn U H) (hq : ∀ a : Nat, a < H.size → ¬ A a → H1[a]? = H[a]?) : Nst A tn U H1 := ⟨h.1.kept hq, h.2.kept hq⟩
theorem Nst.narrow {A B : Nat → Prop} {tn : Nat} {U : State} {H : Heap} (h : Nst A tn U H) (hAB : ∀ q, B q → A q) : Nst B tn U H := ⟨h.1.narrow hAB, h.2.narrow hAB⟩
/-- the world of the block: its cells -/
def Wd (ks : List Nat) (D : va_G) (AC : Nat → ClassId) (ad : Nat → Nat) (μ : Mm) (H : Heap) : Prop := va_P D cl (wl ks AC ad μ) H
/-- how a method ends -/
def QM (A : Nat → Prop) (F : Heap → Prop) (r : Option Value) : Array Value → State → Outcome → State → Prop := fun _ st o t => o = .returned r ∧ F t.heap ∧ va_F A st t
def rmd (d : Nat) : Room := { frames := d, cells := 0, slots := 0, locals := 40 * d }
/-- what a method's walk stands on -/
def Cx (p : Program) (s : State) (m : MethodId) (args : Array Value) (meth : Method) (c : Code) (own : String) (cc : ByteArray) (nL : Nat) (ret : Option FieldType) : Prop :=
  p.tables.exec = Jvm.exec ∧ c.code = cc ∧ c.maxLocals = nL ∧ s.vm.findClass own = some m.cls ∧ (∀ w ∈ LW, w.before args s = true) ∧ meth.sig.returnType = ret ∧ meth.locks = false
section ROWS
variable {p : Program} {l : Launch} {e : Env} {R : Room} {s : State} {m : MethodId} {args : Array Value} {below : List Frame} {meth : Method} {c : Code} {H : Heap} {locs : List Loc} {cells slots : Nat} {Q : State → Prop}
variable {own : String} {cc : ByteArray} {nL : Nat} {ret : Option FieldType} {pc : Nat} {ls : Array Slot} {rest st0 : List Value}
variable {ks : List Nat} {D : va_G} {AC : Nat → ClassId} {ad : Nat → Nat} {tn : Nat} {μ : Mm}
/-- the rows of an object: read a reference -/
theorem r_gr (X : Cx p s m args meth c own cc nL ret) (hK : va_K D cl (tyL AC) s) (hW : Wd ks D AC ad μ H) {k ci index j M : Nat} {C : String} {T : u_T} (hs : shK k = 10 + ci) (hk : k ∈ ks) (hn : cN ci = M) (hc : cl[ci]? = some (C, T, M)) (hin : ∀ w ∈ u_ws C T M, w ∈ LW) (hj : j < M) (hr : isR ci j = true)
    (hlink : Cond.fieldLink own index (T j).1 (T j).2.1 (T j).2.2.1 ∈ LW) (hdg : decode cc pc = .ok (.getfield index, 3))
    (kk : W p l e R s m args below meth c H locs cells slots Q (F0 m (pc + 3) ls (.ref (ad (sub k j)) :: rest))) : W p l e R s m args below meth c H locs cells slots Q (F0 m pc ls (.ref (ad k) :: rest)) := by
  subst hn
  obtain ⟨q, hq⟩ := ks_ix hk
  exact va_get X.1 X.2.1 X.2.2.2.2.1 hin X.2.2.2.1 hK hW q ((wl_at hq).trans (by rw [cE_o hs])) hc j hj (X.2.2.2.2.1 _ hlink) (fun _ h => h) (fl_ref hj hr) hdg kk
/-- .. an int (or boolean) -/
theorem r_gi (X : Cx p s m args meth c own cc nL ret) (hK : va_K D cl (tyL AC) s) (hW : Wd ks D AC ad μ H) {k ci index j M : Nat} {C : String} {T : u_T} (hs : shK k = 10 + ci) (hk : k ∈ ks) (hn : cN ci = M) (hc : cl[ci]? = some (C, T, M)) (hin : ∀ w ∈ u_ws C T M, w ∈ LW) (hj : j < M) (hr : isR ci j = false)
    (hlink : Cond.fieldLink own index (T j).1 (T j).2.1 (T j).2.2.1 ∈ LW) (hdg : decode cc pc = .ok (.getfield index, 3))
    (kk : W p l e R s m args below meth c H locs cells slots Q (F0 m (pc + 3) ls (.int (μ.1 k j) :: rest))) : W p l e R s m args below meth c H locs cells slots Q (F0 m pc ls (.ref (ad k) :: rest)) := by
  subst hn
  obtain ⟨q, hq⟩ := ks_ix hk
  exact va_get X.1 X.2.1 X.2.2.2.2.1 hin X.2.2.2.1 hK hW q ((wl_at hq).trans (by rw [cE_o hs])) hc j hj (X.2.2.2.2.1 _ hlink) (fun _ h => h) (fl_int hj hr) hdg kk
/-- write an int (or boolean) -/
theorem r_pi (hi : adI ks ad) (X : Cx p s m args meth c own cc nL ret) (hK : va_K D cl (tyL AC) s) (hW : Wd ks D AC ad μ H) (hS : va_S (Ar ks ad) s.heap H locs) {k ci index j M : Nat} {C : String} {T : u_T} (ty0 : Nat → FieldType) {ty : FieldType} {x : Int32} (hty : ∀ k, k < M → parseFieldDescriptor (T k).2.2.1 = some (ty0 k)) (hnm : ∀ a, a < M → ∀ b, b < M → a ≠ b → (T a).2.1 ≠ (T b).2.1)
    (hs : shK k = 10 + ci) (hk : k ∈ ks) (hn : cN ci = M) (hc : cl[ci]? = some (C, T, M)) (hin : ∀ w ∈ u_ws C T M, w ∈ LW) (hj : j < M) (hr : isR ci j = false) (hfin : (T j).2.2.2 = false) (hd : parseFieldDescriptor (T j).2.2.1 = some ty) (hnw : narrow ty (.int x) = .int x) (hfit : fits ty (.int x) = true)
    (hlink : Cond.fieldLink own index (T j).1 (T j).2.1 (T j).2.2.1 ∈ LW) (hdg : decode cc pc = .ok (.putfield index, 3))
    (kk : ∀ (H1 : Heap) (locs1 : List Loc), Wd ks D AC ad (sI μ k j x) H1 → va_S (Ar ks ad) s.heap H1 locs1 → W p l e R s m args below meth c H1 locs1 cells slots Q (F0 m (pc + 3) ls rest)) : W p l e R s m args below meth c H locs cells slots Q (F0 m pc ls (.int x :: .ref (ad k) :: rest)) := by
  subst hn
  obtain ⟨q, hq⟩ := ks_ix hk
  have he : (wl ks AC ad μ)[q]? = some (ad k, .inr (ci, fl ad ci k (cN ci) (μ.1 k))) := (wl_at hq).trans (by rw [cE_o hs])
  refine va_put X.1 X.2.1 X.2.2.2.2.1 hin ty0 hty hnm X.2.2.2.1 hK hW (wl_D hi) hS q he hc j hj (X.2.2.2.2.1 _ hlink) (fun _ h => h) hfin hd hnw hfit (by rw [fl_len]; exact hj) hdg (fun H1 locs1 hP _ hS1 => ?_)
  rw [fl_set hj hr, wl_set (μ' := sI μ k j x) hi hq (by rw [cE_o hs, sI_at]) (fun i hi => cE_sI hi)] at hP
  exact kk H1 locs1 hP hS1
section ARR
variable {k : Nat} {i : Int32}
theorem r_ia (X : Cx p s m args meth c own cc nL ret) (hK : va_K D cl (tyL AC) s) (hW : Wd ks D AC ad μ H) (hs : shK k = 0) (hk : k ∈ ks) (hin : vp_in i (shN k)) (hdg : decode cc pc = .ok (.iaload, 1))
    (kk : W p l e R s m args below meth c H locs cells slots Q (F0 m (pc + 1) ls (.int (μ.1 k i.toNatClampNeg) :: rest))) : W p l e R s m args below meth c H locs cells slots Q (F0 m pc ls (.int i :: .ref (ad k) :: rest)) := by
  obtain ⟨q, hq⟩ := ks_ix hk
  exact va_iald X.1 X.2.1 hK hW q 0 ((wl_at hq).trans (by rw [cE_i hs])) rfl hin hdg kk
theorem r_la (X : Cx p s m args meth c own cc nL ret) (hK : va_K D cl (tyL AC) s) (hW : Wd ks D AC ad μ H) (hs : shK k = 1) (hk : k ∈ ks) (hin : vp_in i (shN k)) (hdg : decode cc pc = .ok (.laload, 1))
    (kk : W p l e R s m args below meth c H locs cells slots Q (F0 m (pc + 1) ls (.long (μ.2 k i.toNatClampNeg) :: rest))) : W p l e R s m args below meth c H locs cells slots Q (F0 m pc ls (.int i :: .ref (ad k) :: rest)) := by
  obtain ⟨q, hq⟩ := ks_ix hk
  exact va_lald X.1 X.2.1 hK hW q 1 ((wl_at hq).trans (by rw [cE_l hs])) rfl hin hdg kk
theorem r_za (X : Cx p s m args meth c own cc nL ret) (hK : va_K D cl (tyL AC) s) (hW : Wd ks D AC ad μ H) (hs : shK k = 2) (hk : k ∈ ks) (hin : vp_in i (shN k)) (hdg : decode cc pc = .ok (.baload, 1))
    (kk : W p l e R s m args below meth c H locs cells slots Q (F0 m (pc + 1) ls (.int (μ.1 k i.toNatClampNeg) :: rest))) : W p l e R s m args below meth c H locs cells slots Q (F0 m pc ls (.int i :: .ref (ad k) :: rest)) := by
  obtain ⟨q, hq⟩ := ks_ix hk
  exact va_zald X.1 X.2.1 hK hW q 2 ((wl_at hq).trans (by rw [cE_z hs])) rfl hin hdg kk
theorem r_qa (X : Cx p s m args meth c own cc nL ret) (hK : va_K D cl (tyL AC) s) (hW : Wd ks D AC ad μ H) (h1 : 3 ≤ shK k) (h2 : shK k ≤ 5) (hk : k ∈ ks) (hin : vp_in i (shN k)) (hdg : decode cc pc = .ok (.aaload, 1))
    (kk : W p l e R s m args below meth c H locs cells slots Q (F0 m (pc + 1) ls (.ref (ad (sub k i.toNatClampNeg)) :: rest))) : W p l e R s m args below meth c H locs cells slots Q (F0 m pc ls (.int i :: .ref (ad k) :: rest)) := by
  obtain ⟨t, ht⟩ : ∃ t, shK k = t := ⟨_, rfl⟩
  rw [ht] at h1 h2
  have hlt : i.toNatClampNeg < shN k := Nat.not_le.mp fun q => hin (Or.inr q)
  obtain ⟨q, hq⟩ := ks_ix hk
  have ha : (wl ks AC ad μ)[q]? = some (ad k, .inl (AC t, shN k, .inr (.inr (.inr (.inr fun j => some (ad (sub k j))))))) := (wl_at hq).trans (by rw [cE_q ht (by omega) (by omega)])
  obtain ⟨ty, hty, htt⟩ : ∃ ty : FieldType, (tyL AC)[t]? = some (AC t, ty) ∧ ty.isReference = true := by
    rcases (show t = 3 ∨ t = 4 ∨ t = 5 by omega) with rfl | rfl | rfl
    · exact ⟨_, rfl, rfl⟩
    · exact ⟨_, rfl, rfl⟩
    · exact ⟨_, rfl, rfl⟩
  exact W.aald (v := .ref (ad (sub k i.toNatClampNeg))) (ty := ty) X.1 X.2.1 (hW q _ ha) ((hK.2 t _ hty).1 _ (fun j => va_rf (some (ad (sub k j))))) htt (fun q => by cases q) (by show ¬ (i < 0 ∨ (arrV _ _ _).slots.size ≤ _); rw [arrV_size]; exact hin) (by show (arrV _ _ _).slots[_]? = _; rw [arrV_read _ _ hlt]; rfl) rfl rfl hdg kk
theorem r_is (hi : adI ks ad) (X : Cx p s m args meth c own cc nL ret) (hK : va_K D cl (tyL AC) s) (hW : Wd ks D AC ad μ H) (hS : va_S (Ar ks ad) s.heap H locs) {x : Int32} (hs : shK k = 0) (hk : k ∈ ks) (hin : vp_in i (shN k)) (hdg : decode cc pc = .ok (.iastore, 1))
    (kk : ∀ (H1 : Heap) (locs1 : List Loc), Wd ks D AC ad (sI μ k i.toNatClampNeg x) H1 → va_S (Ar ks ad) s.heap H1 locs1 → W p l e R s m args below meth c H1 locs1 cells slots Q (F0 m (pc + 1) ls rest)) : W p l e R s m args below meth c H locs cells slots Q (F0 m pc ls (.int x :: .int i :: .ref (ad k) :: rest)) := by
  obtain ⟨q, hq⟩ := ks_ix hk
  refine va_iast X.1 X.2.1 hK hW (wl_D hi) hS q 0 ((wl_at hq).trans (by rw [cE_i hs])) rfl hin hdg (fun H1 locs1 hP _ hS1 => ?_)
  rw [wl_set (μ' := sI μ k i.toNatClampNeg x) hi hq (by rw [cE_i hs, sI_at]) (fun i hi => cE_sI hi)] at hP
  exact kk H1 locs1 hP hS1
theorem r_ls (hi : adI ks ad) (X : Cx p s m args meth c own cc nL ret) (hK : va_K D cl (tyL AC) s) (hW : Wd ks D AC ad μ H) (hS : va_S (Ar ks ad) s.heap H locs) {x : Int64} (hs : shK k = 1) (hk : k ∈ ks) (hin : vp_in i (shN k)) (hdg : decode cc pc = .ok (.lastore, 1))
    (kk : ∀ (H1 : Heap) (locs1 : List Loc), Wd ks D AC ad (sL μ k i.toNatClampNeg x) H1 → va_S (Ar ks ad) s.heap H1 locs1 → W p l e R s m args below meth c H1 locs1 cells slots Q (F0 m (pc + 1) ls rest)) : W p l e R s m args below meth c H locs cells slots Q (F0 m pc ls (.long x :: .int i :: .ref (ad k) :: rest)) := by
  obtain ⟨q, hq⟩ := ks_ix hk
  refine va_last X.1 X.2.1 hK hW (wl_D hi) hS q 1 ((wl_at hq).trans (by rw [cE_l hs])) rfl hin hdg (fun H1 locs1 hP _ hS1 => ?_)
  rw [wl_set (μ' := sL μ k i.toNatClampNeg x) hi hq (by rw [cE_l hs, sL_at]) (fun i hi => cE_sL hi)] at hP
  exact kk H1 locs1 hP hS1
theorem r_zs (hi : adI ks ad) (X : Cx p s m args meth c own cc nL ret) (hK : va_K D cl (tyL AC) s) (hW : Wd ks D AC ad μ H) (hS : va_S (Ar ks ad) s.heap H locs) {x : Int32} (hs : shK k = 2) (hk : k ∈ ks) (hin : vp_in i (shN k)) (hx : vp_nar .boolean x = x) (hdg : decode cc pc = .ok (.bastore, 1))
    (kk : ∀ (H1 : Heap) (locs1 : List Loc), Wd ks D AC ad (sI μ k i.toNatClampNeg x) H1 → va_S (Ar ks ad) s.heap H1 locs1 → W p l e R s m args below meth c H1 locs1 cells slots Q (F0 m (pc + 1) ls rest)) : W p l e R s m args below meth c H locs cells slots Q (F0 m pc ls (.int x :: .int i :: .ref (ad k) :: rest)) := by
  obtain ⟨q, hq⟩ := ks_ix hk
  refine va_zast X.1 X.2.1 hK hW (wl_D hi) hS q 2 ((wl_at hq).trans (by rw [cE_z hs])) rfl hin hdg (fun H1 locs1 hP _ hS1 => ?_)
  rw [hx, wl_set (μ' := sI μ k i.toNatClampNeg x) hi hq (by rw [cE_z hs, sI_at]) (fun i hi => cE_sI hi)] at hP
  exact kk H1 locs1 hP hS1
theorem r_len (X : Cx p s m args meth c own cc nL ret) (hK : va_K D cl (tyL AC) s) (hW : Wd ks D AC ad μ H) (hs : shK k ≤ 5) (hk : k ∈ ks) (hdg : decode cc pc = .ok (.arraylength, 1))
    (kk : W p l e R s m args below meth c H locs cells slots Q (F0 m (pc + 1) ls (.int (Int32.ofNat (shN k)) :: rest))) : W p l e R s m args below meth c H locs cells slots Q (F0 m pc ls (.ref (ad k) :: rest)) := by
  obtain ⟨q, hq⟩ := ks_ix hk
  rcases (show shK k = 0 ∨ shK k = 1 ∨ shK k = 2 ∨ shK k = 3 ∨ shK k = 4 ∨ shK k = 5 by omega) with h | h | h | h | h | h
  · exact va_alen X.1 X.2.1 hK hW q 0 ((wl_at hq).trans (by rw [cE_i h])) rfl rfl hdg kk
  · exact va_alen X.1 X.2.1 hK hW q 1 ((wl_at hq).trans (by rw [cE_l h])) rfl rfl hdg kk
  · exact va_alen X.1 X.2.1 hK hW q 2 ((wl_at hq).trans (by rw [cE_z h])) rfl rfl hdg kk
  · exact va_alen X.1 X.2.1 hK hW q 3 ((wl_at hq).trans (by rw [cE_q h (by omega) (by omega)])) rfl rfl hdg kk
  · exact va_alen X.1 X.2.1 hK hW q 4 ((wl_at hq).trans (by rw [cE_q h (by omega) (by omega)])) rfl rfl hdg kk
  · exact va_alen X.1 X.2.1 hK hW q 5 ((wl_at hq).trans (by rw [cE_q h (by omega) (by omega)])) rfl rfl hdg kk
theorem r_cpy (hi : adI ks ad) (X : Cx p s m args meth c own cc nL ret) (hK : va_K D cl (tyL AC) s) (hW : Wd ks D AC ad μ H) (hS : va_S (Ar ks ad) s.heap H locs) {index k1 : Nat} (hlink : Cond.methodLink own index arraycopyName ∈ LW) (hnat : Cond.native arraycopyName ∈ LW) (hstat : Cond.static arraycopyName ∈ LW) (hini : Cond.initialized "java/lang/System" ∈ LW)
    (hs : shK k = 0) (hk : k ∈ ks) (hs1 : shK k1 = 0) (hk1 : k1 ∈ ks) {sp dp n : Int32} (h1 : ¬ sp < 0) (h2 : ¬ dp < 0) (h3 : ¬ n < 0) (h4 : sp.toNatClampNeg + n.toNatClampNeg ≤ shN k) (h5 : dp.toNatClampNeg + n.toNatClampNeg ≤ shN k1)
    (hls : ls.size = nL) (hframes : 1 ≤ R.frames) (hlocals : (rest.map fun v => v.category).sum + (nativeFrameWords "java/lang/System" "arraycopy" 5 + 11) ≤ R.locals) (hdg : decode cc pc = .ok (.invokestatic index, 3))
    (kk : ∀ (H1 : Heap) (locs1 : List Loc), Wd ks D AC ad (sR μ k1 (va_cpy (μ.1 k) (μ.1 k1) sp.toNatClampNeg dp.toNatClampNeg n.toNatClampNeg)) H1 → va_S (Ar ks ad) s.heap H1 locs1 → W p l e R s m args below meth c H1 locs1 cells slots Q (F0 m (pc + 3) ls rest)) : W p l e R s m args below meth c H locs cells slots Q (F0 m pc ls (.int n :: .int dp :: .ref (ad k1) :: .int sp :: .ref (ad k) :: rest)) := by
  obtain ⟨q, hq⟩ := ks_ix hk
  obtain ⟨q1, hq1⟩ := ks_ix hk1
  refine va_copyi X.1 X.2.1 (by rw [X.2.2.1, hls]) X.2.2.2.1 (X.2.2.2.2.1 _ hlink) (X.2.2.2.2.1 _ hnat) (X.2.2.2.2.1 _ hstat) (X.2.2.2.2.1 _ hini) hK hW (wl_D hi) hS q q1 0 0 ((wl_at hq).trans (by rw [cE_i hs])) ((wl_at hq1).trans (by rw [cE_i hs1])) rfl rfl rfl h1 h2 h3 h4 h5 (fun _ _ => rfl) hframes hlocals hdg (fun H1 locs1 hP _ hS1 => ?_)
  rw [wl_set (μ' := sR μ k1 (va_cpy (μ.1 k) (μ.1 k1) sp.toNatClampNeg dp.toNatClampNeg n.toNatClampNeg)) hi hq1 (by rw [cE_i hs1, sR_at]) (fun i hi => cE_sR hi)] at hP
  exact kk H1 locs1 hP hS1
end ARR
/-! calls -/
section CALLS
variable {y : MethodName} {bytes : ByteArray} {maxL d d' index : Nat} {As : List Value} {F : Heap → Prop} {r : Option Value} {k : Nat} {ret' : Option FieldType} {A : Nat → Prop}
theorem cB (X : Cx p s m args meth c own cc nL ret) (n : Nat) (hc : Cond.code y bytes maxL ret' ∈ LW) (hl : Cond.methodLink own index y ∈ LW) (hi : Cond.initialized y.cls ∈ LW) (hd : y.cls ≠ "java/lang/invoke/MethodHandle" ∧ y.cls ≠ "java/lang/invoke/VarHandle" ∧ (parseMethodDescriptor y.desc).map (fun d => d.parameters.length) = some n) (hR : d + 1 ≤ d') (hm : maxL ≤ 21) : CallB (rmd d') s args own index y bytes maxL ret' (ws_ y bytes maxL ret') (rmd d) 0 0 n :=
  callB_of n X.2.2.2.2.1 (LW_gin hc) rfl rfl rfl (X.2.2.2.2.1 _ hi) (X.2.2.2.2.1 _ hl) hd ⟨hR, by show 8 + (maxL + 11) + 40 * d ≤ 40 * d'; omega⟩
/-- behind a call -/
theorem k_m {free : Addr → Prop} (hr : va_Run p l e R s m args below meth c H locs cells slots 0 0 (F0 m pc ls st0) rest (QM A F r As.toArray) free) (hfr : ∀ q, free q → A q) (hS : va_S A s.heap H locs)
    (kk : ∀ (t : State) (locs1 : List Loc), F t.heap → s.vm.Alike t.vm → va_S A s.heap t.heap locs1 → W p l e R s m args below meth c t.heap locs1 cells slots Q (F0 m (pc + 3) ls (r.toList ++ rest))) : W p l e R s m args below meth c H locs cells slots Q (F0 m pc ls st0) := by
  intro T hT Xs
  obtain ⟨v, st₀, t, T', L, h0, X', hL, e1, e2, ⟨hv, hF, hz, hk⟩, st⟩ := hr T hT Xs
  cases hv
  rw [h0] at hz hk
  obtain ⟨t2, a1, b1⟩ := kk t (locs ++ L) hF (by rw [← e2]; exact X'.warmed.alike) ⟨Nat.le_trans hS.1 hz, fun q h1 h2 => (hk q (Nat.lt_of_lt_of_le h1 hS.1) h2).trans (hS.2.1 q h1 h2), fun q hq => (List.mem_append.mp hq).elim (hS.2.2 q) (fun h => hfr _ (hL q h))⟩ T' e1 X'
  exact ⟨t2, st t2 a1, b1⟩
end CALLS
end ROWS
/-! contracts -/
def PreM (ks : List Nat) (D : va_G) (AC : Nat → ClassId) (ad : Nat → Nat) (tn : Nat) (μ : Mm) : State → Prop := fun U => Wd ks D AC ad μ U.heap ∧ va_K D cl (tyL AC) U ∧ Nst (Ar ks ad) tn U U.heap ∧ adI ks ad
/-- a method's contract: from the world μ it comes to μ', and answers r (references by places) -/
def MM (ks : List Nat) (y : MethodName) (bytes : ByteArray) (maxL : Nat) (ret : Option FieldType) (d : Nat) (As : List Value) (μ : Mm) (r : Option Value) (μ' : Mm) : Prop :=
  ∀ (l : Launch) (D : va_G) (AC : Nat → ClassId) (ad : Nat → Nat) (tn : Nat), Met l y (ws_ y bytes maxL ret) (rmd d) (va_Pc (As.map (rv ad tn)) (PreM ks D AC ad tn μ)) (QM (Ar ks ad) (fun H => Wd ks D AC ad μ' H) (r.map (rv ad tn))) 0 0 (Ar ks ad)
theorem lv_ldcwf {p : Program} {l : Launch} {e : Env} {R : Room} {s : State} {m : MethodId} {args : Array Value} {below : List Frame} {meth : Method} {c : Code} {H : Heap} {locs : List Loc} {cells slots : Nat} {Q : State → Prop} {cc : ByteArray} {pc : Nat} {ls : Array Slot} {rest : List Value} (hexec : p.tables.exec = Jvm.exec) (hb : c.code = cc) {own : String} {index : Nat} {v : UInt32} (hown : s.vm.findClass own = some m.cls) (hconst : (Jvm.Cond.constantFloat own index v).before args s = true) (hdg : decode cc pc = .ok (.ldc_w index, 3))
    (k : W p l e R s m args below meth c H locs cells slots Q (F0 m (pc + 3) ls (.float v :: rest))) : W p l e R s m args below meth c H locs cells slots Q (F0 m pc ls rest) := by
  intro T hT X
  obtain ⟨t, a, b⟩ := k T hT X
  refine ⟨t, ?_, b⟩
  obtain ⟨k, cf, hk, hcf, hcp⟩ := Cond.constantFloat_spec hown hconst
  obtain ⟨k', hk', he⟩ := X.warmed.alike.2.2 _ _ hk
  jvm_step X.here [hexec, hb, hdg, ldc_w.wp_float (s := T) (f := F0 m pc ls rest) X.here.top hk' (by rw [he]; exact hcf) hcp]
  exact a
/-- a contract out of a walk, for a method in whose place no entry runs -/
theorem ofWF {l : Launch} {y : MethodName} {ws ws' : List Jvm.Cond} {rm : Room} {Pc : Array Value → State → Prop} {Qc : Array Value → State → Outcome → State → Prop} {mc ms : Nat} {free : Addr → Prop} {cc : ByteArray} {maxL : Nat} {ret : Option FieldType}
    (hy : plainFor y = true) (hw : ws = Jvm.Cond.code y cc maxL ret :: ws')
    (body : ∀ p e s m args below meth c s₁, BodyLoose p l y (headSpec ws rm) cc maxL ret e s m args below meth c s₁ → c.maxLocals = maxL → Pc args s →
      W p l e (headSpec ws rm).room s m args below meth c s.heap [] 0 0 (MQ below Qc args s mc ms free) (entryFrame m args maxL)) : Met l y ws rm Pc Qc mc ms free := by
  refine MetFree.of_bodySF (code := cc) (maxLocals := maxL) (ret := ret) hy ?_ ?_
  · intro args s m h hn
    obtain ⟨meth, c, h1, h2, h3, h4, h5, h6, -, -⟩ := Jvm.Cond.code_spec hn (atoms_spec (ws := ws) h _ (by rw [hw]; exact List.mem_cons_self))
    exact ⟨meth, c, h1, h2, h3, h4, h5, h6⟩
  · intro p e s m args below meth c s₁ B hml hP _
    have hh0 : s₁.heap = s.heap := by rw [B.state]; rfl
    obtain ⟨t, a1, o, b1, b2, b3⟩ := body p e s m args below meth c s₁ B hml hP s₁ hh0 (Stand.of_body B)
    exact ⟨t, o, a1, b1, b2, ⟨b3.1, b3.2⟩⟩
section MK
variable {l : Launch} {y : MethodName} {bytes : ByteArray} {maxL d d' : Nat} {ret ret' : Option FieldType} {ks : List Nat} {D : va_G} {AC : Nat → ClassId} {ad : Nat → Nat} {tn : Nat} {As : List Value} {μ μ' : Mm} {r : Option Value}
theorem mk_M (hy : plainFor y = true) (hlen : (lg_sl (As.map (rv ad tn))).length ≤ maxL)
    (body : ∀ (p : Program) (e : Env) (s : State) (m : MethodId) (below : List Frame) (meth : Method) (c : Code), Cx p s m (As.map (rv ad tn)).toArray meth c y.cls bytes maxL ret → va_K D cl (tyL AC) s → Nst (Ar ks ad) tn s s.heap → adI ks ad → ∀ (H : Heap) (locs : List Loc), Wd ks D AC ad μ H → va_S (Ar ks ad) s.heap H locs → ∀ ls : Array Slot, lv_has ls maxL (lv_args 0 (As.map (rv ad tn))) →
      W p l e (rmd d) s m (As.map (rv ad tn)).toArray below meth c H locs 0 0 (MQ below (QM (Ar ks ad) (fun H => Wd ks D AC ad μ' H) (r.map (rv ad tn))) (As.map (rv ad tn)).toArray s 0 0 (Ar ks ad)) (F0 m 0 ls [])) :
    Met l y (ws_ y bytes maxL ret) (rmd d) (va_Pc (As.map (rv ad tn)) (PreM ks D AC ad tn μ)) (QM (Ar ks ad) (fun H => Wd ks D AC ad μ' H) (r.map (rv ad tn))) 0 0 (Ar ks ad) := by
  refine ofWF (cc := bytes) (maxL := maxL) (ret := ret) hy rfl ?_
  intro p e s m args below meth c s₁ B hml hv
  obtain ⟨rfl, hW, hK, hN, hi⟩ := hv
  have hts := atoms_spec (ws := ws_ y bytes maxL ret) B.pre
  have hl := lv_entry (As.map (rv ad tn)) (n := maxL) hlen
  rw [lg_entry_eq]
  exact body p e s m below meth c ⟨B.exec, B.bytes, hml, findClass_of_methodNamed B.named, fun w hw => hts w (List.mem_cons_of_mem _ hw), B.returns, B.notSynchronized⟩ hK hN hi s.heap [] hW va_S.rf _ hl
section ENDS
variable {p : Program} {e : Env} {R : Room} {s : State} {m : MethodId} {args : Array Value} {below : List Frame} {meth : Method} {c : Code} {H : Heap} {locs : List Loc} {own : String} {cc : ByteArray} {nL pc : Nat} {ls : Array Slot} {rest st0 : List Value} {Q : State → Prop}
theorem em_i {v : Int32} (X : Cx p s m args meth c own cc nL (some .int)) (hW : Wd ks D AC ad μ H) (hS : va_S (Ar ks ad) s.heap H locs) (hdg : decode cc pc = .ok (.ireturn, 1)) : W p l e R s m args below meth c H locs 0 0 (MQ below (QM (Ar ks ad) (fun H => Wd ks D AC ad μ H) (some (.int v))) args s 0 0 (Ar ks ad)) (F0 m pc ls [.int v]) :=
  W.iret X.1 X.2.1 X.2.2.2.2.2.1 (fun t ht _ => ⟨rfl, by rw [ht]; exact hW, hS.F ht⟩) hS.2.2 hdg X.2.2.2.2.2.2
theorem em_z {v : Int32} (X : Cx p s m args meth c own cc nL (some .boolean)) (hW : Wd ks D AC ad μ H) (hS : va_S (Ar ks ad) s.heap H locs) (hv : v = 0 ∨ v = 1) (hdg : decode cc pc = .ok (.ireturn, 1)) : W p l e R s m args below meth c H locs 0 0 (MQ below (QM (Ar ks ad) (fun H => Wd ks D AC ad μ H) (some (.int v))) args s 0 0 (Ar ks ad)) (F0 m pc ls [.int v]) :=
  W.zret X.1 X.2.1 X.2.2.2.2.2.1 (by rcases hv with rfl | rfl <;> rfl) (fun t ht _ => ⟨rfl, by rw [ht]; exact hW, hS.F ht⟩) hS.2.2 hdg X.2.2.2.2.2.2
theorem em_l {v : Int64} (X : Cx p s m args meth c own cc nL (some .long)) (hW : Wd ks D AC ad μ H) (hS : va_S (Ar ks ad) s.heap H locs) (hdg : decode cc pc = .ok (.lreturn, 1)) : W p l e R s m args below meth c H locs 0 0 (MQ below (QM (Ar ks ad) (fun H => Wd ks D AC ad μ H) (some (.long v))) args s 0 0 (Ar ks ad)) (F0 m pc ls [.long v]) :=
  W.lret X.1 X.2.1 X.2.2.2.2.2.1 (fun t ht _ => ⟨rfl, by rw [ht]; exact hW, hS.F ht⟩) hS.2.2 hdg X.2.2.2.2.2.2
theorem em_f {v : UInt32} (X : Cx p s m args meth c own cc nL (some .float)) (hW : Wd ks D AC ad μ H) (hS : va_S (Ar ks ad) s.heap H locs) (hdg : decode cc pc = .ok (.freturn, 1)) : W p l e R s m args below meth c H locs 0 0 (MQ below (QM (Ar ks ad) (fun H => Wd ks D AC ad μ H) (some (.float v))) args s 0 0 (Ar ks ad)) (F0 m pc ls [.float v]) :=
  W.fret X.1 X.2.1 X.2.2.2.2.2.1 (fun t ht _ => ⟨rfl, by rw [ht]; exact hW, hS.F ht⟩) hS.2.2 hdg X.2.2.2.2.2.2
theorem em_d {v : UInt64} (X : Cx p s m args meth c own cc nL (some .double)) (hW : Wd ks D AC ad μ H) (hS : va_S (Ar ks ad) s.heap H locs) (hdg : decode cc pc = .ok (.dreturn, 1)) : W p l e R s m args below meth c H locs 0 0 (MQ below (QM (Ar ks ad) (fun H => Wd ks D AC ad μ H) (some (.double v))) args s 0 0 (Ar ks ad)) (F0 m pc ls [.double v]) :=
  W.dret X.1 X.2.1 X.2.2.2.2.2.1 (fun t ht _ => ⟨rfl, by rw [ht]; exact hW, hS.F ht⟩) hS.2.2 hdg X.2.2.2.2.2.2
theorem em_v (X : Cx p s m args meth c own cc nL none) (hW : Wd ks D AC ad μ H) (hS : va_S (Ar ks ad) s.heap H locs) (hdg : decode cc pc = .ok (.return_, 1)) : W p l e R s m args below meth c H locs 0 0 (MQ below (QM (Ar ks ad) (fun H => Wd ks D AC ad μ H) none) args s 0 0 (Ar ks ad)) (F0 m pc ls []) :=
  W.vret X.1 X.2.1 X.2.2.2.2.2.1 (fun t ht _ => ⟨rfl, by rw [ht]; exact hW, hS.F ht⟩) hS.2.2 hdg X.2.2.2.2.2.2
theorem em_a {v : Value} {rt : FieldType} (X : Cx p s m args meth c own cc nL (some rt)) (hrt : (∃ n, rt = .object n) ∨ ∃ t, rt = .array t) (hv : v = .null ∨ ∃ a, v = .ref a) (hW : Wd ks D AC ad μ H) (hS : va_S (Ar ks ad) s.heap H locs) (hdg : decode cc pc = .ok (.areturn, 1)) : W p l e R s m args below meth c H locs 0 0 (MQ below (QM (Ar ks ad) (fun H => Wd ks D AC ad μ H) (some v)) args s 0 0 (Ar ks ad)) (F0 m pc ls [v]) :=
  W.aret X.1 X.2.1 X.2.2.2.2.2.1 hrt hv (fun t ht _ => ⟨rfl, by rw [ht]; exact hW, hS.F ht⟩) hS.2.2 hdg X.2.2.2.2.2.2
-- calls
theorem blindM (As : List Value) : FrameBlind (va_Pc As (PreM ks D AC ad tn μ)) := fun a U g mk q => ⟨q.1, q.2.1, va_K.moved (u := U) (U := U.calling g mk a) (Vm.Alike.refl U.vm) q.2.2.1, Nst.moved (u := U) (U := U.calling g mk a) (Vm.Alike.refl U.vm) q.2.2.2.1, q.2.2.2.2⟩
theorem preM {U : State} (hK : va_K D cl (tyL AC) s) (hN : Nst (Ar ks ad) tn s s.heap) (hi : adI ks ad) (hW : Wd ks D AC ad μ H) (hS : va_S (Ar ks ad) s.heap H locs) (hU : U.heap = H) (hw : s.WarmedH U.vm) : PreM ks D AC ad tn μ U := by
  refine ⟨by rw [hU]; exact hW, hK.moved hw.alike, ?_, hi⟩
  rw [hU]
  exact (hN.kept hS.2.1).moved hw.alike
/-- a virtual call on an object of the block -/
theorem cMV {index k n ci : Nat} {T : u_T} {M : Nat} {As : List Value} (X : Cx p s m args meth c own cc nL ret) (hK : va_K D cl (tyL AC) s) (hN : Nst (Ar ks ad) tn s s.heap) (hi : adI ks ad) (hW : Wd ks D AC ad μ H) (hS : va_S (Ar ks ad) s.heap H locs) (hM : MM ks y bytes maxL ret' d (.ref k :: As) μ r μ')
    (hs : shK k = 10 + ci) (hk : k ∈ ks) (hcl : cl[ci]? = some (y.cls, T, M)) (hc : Cond.code y bytes maxL ret' ∈ LW) (hl : Cond.methodLink own index y ∈ LW) (hini : Cond.initialized y.cls ∈ LW) (hin : Cond.instanceMethod y ∈ LW) (hse : Cond.selects y.cls y y ∈ LW)
    (hd : y.cls ≠ "java/lang/invoke/MethodHandle" ∧ y.cls ≠ "java/lang/invoke/VarHandle" ∧ (parseMethodDescriptor y.desc).map (fun d => d.parameters.length) = some n) (hn : As.length = n) (hR : d + 1 ≤ d') (hm : maxL ≤ 21) (hls : ls.size = nL) (hst : st0 = (As.map (rv ad tn)).reverse ++ .ref (ad k) :: rest) (hcat : (rest.map fun v => v.category).sum ≤ 8) (hdg : decode cc pc = .ok (.invokevirtual index, 3))
    (kk : ∀ (H1 : Heap) (locs1 : List Loc), Wd ks D AC ad μ' H1 → va_S (Ar ks ad) s.heap H1 locs1 → W p l e (rmd d') s m args below meth c H1 locs1 0 0 Q (F0 m (pc + 3) ls ((r.map (rv ad tn)).toList ++ rest))) : W p l e (rmd d') s m args below meth c H locs 0 0 Q (F0 m pc ls st0) := by
  obtain ⟨q0, hq0⟩ := ks_ix hk
  refine k_m (va_runV (As := As.map (rv ad tn)) (rest := rest) (C := y.cls) ⟨X.1, X.2.1, X.2.2.1, X.2.2.2.1, X.2.2.2.2.1⟩ (hM l D AC ad tn) ⟨cB X n hc hl hini hd hR hm, X.2.2.2.2.1 _ hin, X.2.2.2.2.1 _ hse⟩ ⟨blindM _, va_recv hK hW hcl ((wl_at hq0).trans (by rw [cE_o hs])), fun U hU hw => ⟨rfl, preM hK hN hi hW hS hU hw⟩⟩ rfl (by rw [List.length_map]; exact hn) hls hst (lv_room hcat) hdg ⟨Nat.le_refl _, Nat.le_refl _⟩) (fun _ h => h) hS (fun t locs1 hF _ hS1 => ?_)
  exact kk t.heap locs1 hF hS1
/-- a static call -/
theorem cMS {index n : Nat} {As : List Value} (X : Cx p s m args meth c own cc nL ret) (hK : va_K D cl (tyL AC) s) (hN : Nst (Ar ks ad) tn s s.heap) (hi : adI ks ad) (hW : Wd ks D AC ad μ H) (hS : va_S (Ar ks ad) s.heap H locs) (hM : MM ks y bytes maxL ret' d As μ r μ')
    (hc : Cond.code y bytes maxL ret' ∈ LW) (hl : Cond.methodLink own index y ∈ LW) (hini : Cond.initialized y.cls ∈ LW) (hstt : Cond.static y ∈ LW)
    (hd : y.cls ≠ "java/lang/invoke/MethodHandle" ∧ y.cls ≠ "java/lang/invoke/VarHandle" ∧ (parseMethodDescriptor y.desc).map (fun d => d.parameters.length) = some n) (hn : As.length = n) (hR : d + 1 ≤ d') (hm : maxL ≤ 21) (hls : ls.size = nL) (hst : st0 = (As.map (rv ad tn)).reverse ++ rest) (hcat : (rest.map fun v => v.category).sum ≤ 8) (hdg : decode cc pc = .ok (.invokestatic index, 3))
    (kk : ∀ (H1 : Heap) (locs1 : List Loc), Wd ks D AC ad μ' H1 → va_S (Ar ks ad) s.heap H1 locs1 → W p l e (rmd d') s m args below meth c H1 locs1 0 0 Q (F0 m (pc + 3) ls ((r.map (rv ad tn)).toList ++ rest))) : W p l e (rmd d') s m args below meth c H locs 0 0 Q (F0 m pc ls st0) := by
  refine k_m (va_runS (As := As.map (rv ad tn)) (rest := rest) ⟨X.1, X.2.1, X.2.2.1, X.2.2.2.1, X.2.2.2.2.1⟩ (hM l D AC ad tn) ⟨cB X n hc hl hini hd hR hm, X.2.2.2.2.1 _ hstt⟩ ⟨blindM _, fun U hU hw => ⟨rfl, preM hK hN hi hW hS hU hw⟩⟩ rfl (by rw [List.length_map]; exact hn) hls hst (lv_room hcat) hdg ⟨Nat.le_refl _, Nat.le_refl _⟩) (fun _ h => h) hS (fun t locs1 hF _ hS1 => ?_)
  exact kk t.heap locs1 hF hS1
end ENDS
end MK
