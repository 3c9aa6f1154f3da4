/-! a run of the function is a run of the machine -/
theorem inb_in {i : Int32} {n : Nat} (h : inb i n = true) : vp_in i n := by
  simpa [inb, vp_in] using h
theorem isb_or {x : Int32} (h : isb x = true) : x = 0 ∨ x = 1 := by simpa [isb] using h
theorem n32_ok {r : UInt32} (h : n32 r = true) : vf_n32 r := by unfold vf_n32; exact of_decide_eq_true h
theorem n64_ok {r : UInt64} (h : n64 r = true) : vf_n64 r := by unfold vf_n64; exact of_decide_eq_true h
theorem csum_eq (st : List Value) : csum st = (st.map fun v => v.category).sum := by
  induction st with
  | nil => rfl
  | cons v r ih => simp [csum, ih]
theorem takeA_e : ∀ (n : Nat) (acc st as st' : List Value), takeA n acc st = some (as, st') → ∃ bs, as = bs.reverse ++ acc ∧ st = bs ++ st' ∧ bs.length = n
  | 0, acc, st, as, st', h => by
    cases h
    exact ⟨[], rfl, rfl, rfl⟩
  | n + 1, acc, [], as, st', h => by cases h
  | n + 1, acc, v :: st, as, st', h => by
    obtain ⟨bs, h1, h2, h3⟩ := takeA_e n (v :: acc) st as st' h
    refine ⟨v :: bs, ?_, ?_, ?_⟩
    · rw [h1]; simp
    · rw [h2]; rfl
    · simp [h3]
theorem lget_mem {i : Nat} {v : Value} : ∀ {lv : List (Nat × Value)}, lget i lv = some v → (i, v) ∈ lv
  | [], h => by cases h
  | q :: r, h => by
    unfold lget at h
    cases e : Nat.beq i q.1 with
    | true =>
      rw [e] at h
      cases h
      have := Nat.eq_of_beq_eq_true e
      subst this
      exact List.mem_cons_self
    | false =>
      rw [e] at h
      exact List.mem_cons_of_mem _ (lget_mem h)
theorem kpL_mem : ∀ (kp : List Nat) (lv : List (Nat × Value)) (q : Nat × Value), q ∈ kpL kp lv → q ∈ lv
  | [], _, _, h => by cases h
  | i :: r, lv, q, h => by
    unfold kpL at h
    split at h
    · rename_i v e
      rcases List.mem_cons.mp h with rfl | h
      · exact lget_mem e
      · exact kpL_mem r lv q h
    · exact kpL_mem r lv q h
abbrev rl (ad : Nat → Nat) (tn : Nat) (lv : List (Nat × Value)) : List (Nat × Value) := lv.map fun q => (q.1, rv ad tn q.2)
theorem rl_at {ad : Nat → Nat} {tn : Nat} {ls : Array Slot} {n : Nat} {lv : List (Nat × Value)} (h : lv_has ls n (rl ad tn lv)) {i : Nat} {v : Value} (e : lget i lv = some v) : ls[i]? = some (.val (rv ad tn v)) :=
  h.2.2 (i, rv ad tn v) (List.mem_map.mpr ⟨(i, v), lget_mem e, rfl⟩)
theorem rl_kp {ad : Nat → Nat} {tn : Nat} {ls : Array Slot} {n : Nat} {lv : List (Nat × Value)} (h : lv_has ls n (rl ad tn lv)) (kp : List Nat) : lv_has ls n (rl ad tn (kpL kp lv)) := by
  refine ⟨h.1, h.2.1, fun q hq => ?_⟩
  obtain ⟨x, hx, rfl⟩ := List.mem_map.mp hq
  exact h.2.2 _ (List.mem_map.mpr ⟨x, kpL_mem kp lv x hx, rfl⟩)
theorem rl_w1 {ad : Nat → Nat} {tn : Nat} (i : Nat) (v : Value) (lv : List (Nat × Value)) : (i, rv ad tn v) :: (rl ad tn lv).filter (fun q => !(q.1 == i) && !(q.1 + 1 == i && q.2.category == 2)) = rl ad tn (lw1_ i v lv) := by
  unfold lw1_ rl
  rw [List.map_cons, List.filter_map]
  congr 3
  funext q
  simp [rv_cat]
theorem rl_w2 {ad : Nat → Nat} {tn : Nat} (i : Nat) (v : Value) (lv : List (Nat × Value)) : (i, rv ad tn v) :: (rl ad tn lv).filter (fun q => !(q.1 == i) && (!(q.1 == i + 1) && !(q.1 + 1 == i && q.2.category == 2))) = rl ad tn (lw2_ i v lv) := by
  unfold lw2_ rl
  rw [List.map_cons, List.filter_map]
  congr 3
  funext q
  simp [rv_cat]
theorem rl_args {ad : Nat → Nat} {tn : Nat} : ∀ (i : Nat) (as : List Value), lv_args i (as.map (rv ad tn)) = rl ad tn (lv_args i as)
  | _, [] => rfl
  | i, v :: as => by
    show (i, rv ad tn v) :: lv_args _ (as.map (rv ad tn)) = (i, rv ad tn v) :: rl ad tn (lv_args _ as)
    rw [rl_args, rv_cat]
/-- a state and an end: the machine, in a frame that is so, comes to that end -/
def Snd (ks : List Nat) (x : St) (r : Rs) : Prop := ∀ (l : Launch) (p : Program) (e : Env) (s : State) (m : MethodId) (args : Array Value) (below : List Frame) (meth : Method) (c : Code) (H : Heap) (locs : List Loc) (ls : Array Slot) (D : va_G) (AC : Nat → ClassId) (ad : Nat → Nat) (tn : Nat), Cx p s m args meth c (pY x.1.1).cls (pB x.1.1) (pM x.1.1) (pR x.1.1) → va_K D cl (tyL AC) s → Nst (Ar ks ad) tn s s.heap → adI ks ad → Wd ks D AC ad x.2.2.2.2 H → va_S (Ar ks ad) s.heap H locs → lv_has ls (pM x.1.1) (rl ad tn x.2.2.1) →
  W p l e (rmd x.1.2) s m args below meth c H locs 0 0 (MQ below (QM (Ar ks ad) (fun H => Wd ks D AC ad r.2 H) (r.1.map (rv ad tn))) args s 0 0 (Ar ks ad)) (F0 m x.2.1 ls (x.2.2.2.1.map (rv ad tn)))
def Snds (ks : List Nat) (f : St → Option Rs) : Prop := ∀ s r, f s = some r → Snd ks s r
theorem snd_gw {ks : List Nat} {rec f : St → Option Rs} (h1 : Snds ks rec) (h2 : Snds ks f) : Snds ks (gw rec f) := by
  intro s r h
  unfold gw at h
  split at h
  · have := h1 _ _ h
    intro l p e s' m args below meth c H locs ls D AC ad tn X hK hN hi hW hS hl
    exact this l p e s' m args below meth c H locs ls D AC ad tn X hK hN hi hW hS (rl_kp hl _)
  · exact h2 _ _ h
def brP (P : St → Prop) : List (Bool × St) → St → Prop
  | [], d => P d
  | q :: l, d => (q.1 = true → P q.2) ∧ (q.1 = false → brP P l d)
theorem brs_P {ks : List Nat} {f : St → Option Rs} {r : Rs} (h : Snds ks f) : ∀ (l : List (Bool × St)) (d : St), brs l d f = some r → brP (fun s => Snd ks s r) l d
  | [], d, q => h d r q
  | (c, s) :: l, d, q => by
    cases c with
    | true => exact ⟨fun _ => h s r q, fun e => Bool.noConfusion (show true = false from e)⟩
    | false => exact ⟨fun e => Bool.noConfusion (show false = true from e), fun _ => brs_P h l d q⟩
-- ===== GEN
theorem nx_e {q : Nat × Nat} {pc : Nat} {lv : List (Nat × Value)} {st : List Value} {μ : Mm} {a : Act} (h : nx q pc lv st μ = some (true, a)) : a = .inl ([], (q, pc, lv, st, μ)) := by cases h; rfl
theorem ng_e {g : Bool} {q : Nat × Nat} {pc : Nat} {lv : List (Nat × Value)} {st : List Value} {μ : Mm} {a : Act} (h : ng g q pc lv st μ = some (true, a)) : g = true ∧ a = .inl ([], (q, pc, lv, st, μ)) := by cases h; exact ⟨rfl, rfl⟩
theorem no_e {a : Act} {P : Prop} (h : (none : Option (Bool × Act)) = some (true, a)) : P := by cases h
theorem sj_e {a b : Act} (h : some (true, a) = some (true, b)) : b = a := by cases h; rfl
theorem nd_e {y : Int32} (h : (!decide (y = 0)) = true) : ¬ y = 0 := by simpa using h
theorem ndl_e {y : Int64} (h : (!decide (y = 0)) = true) : ¬ y = 0 := by simpa using h
theorem and_ok {p q : Prop} {ip : Decidable p} {iq : Decidable q} (h : (decide p && decide q) = true) : p ∧ q := by simpa using h
theorem and_okb {p : Prop} {ip : Decidable p} {b : Bool} (h : (decide p && b) = true) : p ∧ b = true := by simpa using h
theorem and_ok3 {p q r : Prop} {ip : Decidable p} {iq : Decidable q} {ir : Decidable r} (h : (decide p && (decide q && decide r)) = true) : p ∧ q ∧ r := by simpa using h
theorem and_ok4 {p q r t : Prop} {ip : Decidable p} {iq : Decidable q} {ir : Decidable r} {it : Decidable t} (h : (decide p && (decide q && (decide r && decide t))) = true) : p ∧ q ∧ r ∧ t := by simpa using h
theorem and_ok6 {a b : Bool} {p q r t : Prop} {ip : Decidable p} {iq : Decidable q} {ir : Decidable r} {it : Decidable t} (h : (a && (decide p && (decide q && (decide r && (b && decide t))))) = true) : a = true ∧ p ∧ q ∧ r ∧ b = true ∧ t := by simpa using h
theorem and_okf {b : Bool} {p q r t : Prop} {ip : Decidable p} {iq : Decidable q} {ir : Decidable r} {it : Decidable t} (h : (decide p && (decide q && (decide r && (decide t && b)))) = true) : p ∧ q ∧ r ∧ t ∧ b = true := by simpa using h
theorem and_okp {b : Bool} {p q r t u v : Prop} {ip : Decidable p} {iq : Decidable q} {ir : Decidable r} {it : Decidable t} {iu : Decidable u} {iv : Decidable v} (h : (decide p && (decide q && (decide r && (decide t && (decide u && (decide v && b)))))) = true) : p ∧ q ∧ r ∧ t ∧ u ∧ v ∧ b = true := by simpa using h
theorem and_okv {p q r t u v w : Prop} {f : Bool} {ip : Decidable p} {iq : Decidable q} {ir : Decidable r} {it : Decidable t} {iu : Decidable u} {iv : Decidable v} {iw : Decidable w} (h : (decide p && (decide q && (decide r && (decide t && (decide u && (decide v && (decide w && f))))))) = true) : p ∧ q ∧ r ∧ t ∧ u ∧ v ∧ w := by
  simp only [Bool.and_eq_true, decide_eq_true_eq] at h
  exact ⟨h.1, h.2.1, h.2.2.1, h.2.2.2.1, h.2.2.2.2.1, h.2.2.2.2.2.1, h.2.2.2.2.2.2.1⟩
theorem and_oks {p q r t u : Prop} {f : Bool} {ip : Decidable p} {iq : Decidable q} {ir : Decidable r} {it : Decidable t} {iu : Decidable u} (h : (decide p && (decide q && (decide r && (decide t && (decide u && f))))) = true) : p ∧ q ∧ r ∧ t ∧ u := by
  simp only [Bool.and_eq_true, decide_eq_true_eq] at h
  exact ⟨h.1, h.2.1, h.2.2.1, h.2.2.2.1, h.2.2.2.2.1⟩
theorem and_okn {p q : Prop} {f : Bool} {ip : Decidable p} {iq : Decidable q} (h : (decide p && (decide q && f)) = true) : p ∧ q ∧ f = true := by simpa using h
theorem ciO_ok {c : Nat} (h : c < 6) : pCn (ciO c) = pC c := by
  rcases (show c = 0 ∨ c = 1 ∨ c = 2 ∨ c = 3 ∨ c = 4 ∨ c = 5 by omega) with rfl | rfl | rfl | rfl | rfl | rfl <;> rfl
theorem own_eq {id : Nat} (h : id < NM) : (pY id).cls = pCn (pO id) := (mw_all h).2.2.1
theorem ldIl_in {id n ix : Nat} {x : Int32} (h : id < NM) (e : ldIl[n]? = some (pO id, ix, x)) : Jvm.Cond.constant (pY id).cls ix x ∈ LW := by rw [own_eq h]; exact ldIl_ok _ (List.mem_of_getElem? e)
theorem ldFl_in {id n ix : Nat} {x : UInt32} (h : id < NM) (e : ldFl[n]? = some (pO id, ix, x)) : Jvm.Cond.constantFloat (pY id).cls ix x ∈ LW := by rw [own_eq h]; exact ldFl_ok _ (List.mem_of_getElem? e)
theorem ldJl_in {id n ix : Nat} {x : Int64} (h : id < NM) (e : ldJl[n]? = some (pO id, ix, x)) : Jvm.Cond.constantLong (pY id).cls ix x ∈ LW := by rw [own_eq h]; exact ldJl_ok _ (List.mem_of_getElem? e)
theorem ldDl_in {id n ix : Nat} {x : UInt64} (h : id < NM) (e : ldDl[n]? = some (pO id, ix, x)) : Jvm.Cond.constantDouble (pY id).cls ix x ∈ LW := by rw [own_eq h]; exact ldDl_ok _ (List.mem_of_getElem? e)
theorem flL_in {id n ix c j : Nat} (h : id < NM) (e : decide (flL[n]? = some (pO id, ix, c, j)) = true) : Jvm.Cond.fieldLink (pY id).cls ix (fTl c j).1 (fTl c j).2.1 (fTl c j).2.2.1 ∈ LW := by rw [own_eq h]; exact flL_ok _ (List.mem_of_getElem? (of_decide_eq_true e))
theorem gsL_in {id n ix : Nat} (h : id < NM) (e : gsL[n]? = some (pO id, ix)) : Jvm.Cond.fieldLink (pY id).cls ix "TypesInside$Types" "NUMBERS" "[I" ∈ LW := by rw [own_eq h]; exact gsL_ok _ (List.mem_of_getElem? e)
theorem mlL_in {id n ix c : Nat} (h : id < NM) (e : mlL[n]? = some (pO id, ix, c)) : Jvm.Cond.methodLink (pY id).cls ix (pY c) ∈ LW := by rw [own_eq h]; exact mlL_ok _ (List.mem_of_getElem? e)
theorem nlL_in {id n ix c : Nat} (h : id < NM) (e : nlL[n]? = some (c, pO id, ix)) : Jvm.Cond.methodLink (pY id).cls ix (nvN c) ∈ LW := by rw [own_eq h]; exact nlL_ok _ (List.mem_of_getElem? e)
theorem isO_e {k c : Nat} (h : isO k c = true) : shK k = 10 + c := Nat.eq_of_beq_eq_true h
theorem inb_0 {i : Int32} : inb i 0 = false := by simp [inb]
theorem lnI_e {k : Nat} {i : Int32} (h : inb i (lnI k) = true) : shK k = 0 ∧ vp_in i (shN k) := by
  unfold lnI at h
  cases e : Nat.beq (shK k) 0
  · rw [e, cond_false, inb_0] at h; cases h
  · rw [e, cond_true] at h; exact ⟨Nat.eq_of_beq_eq_true e, inb_in h⟩
theorem lnL_e {k : Nat} {i : Int32} (h : inb i (lnL k) = true) : shK k = 1 ∧ vp_in i (shN k) := by
  unfold lnL at h
  cases e : Nat.beq (shK k) 1
  · rw [e, cond_false, inb_0] at h; cases h
  · rw [e, cond_true] at h; exact ⟨Nat.eq_of_beq_eq_true e, inb_in h⟩
theorem lnZ_e {k : Nat} {i : Int32} (h : inb i (lnZ k) = true) : shK k = 2 ∧ vp_in i (shN k) := by
  unfold lnZ at h
  cases e : Nat.beq (shK k) 2
  · rw [e, cond_false, inb_0] at h; cases h
  · rw [e, cond_true] at h; exact ⟨Nat.eq_of_beq_eq_true e, inb_in h⟩
theorem lnQ_e {k : Nat} {i : Int32} (h : inb i (lnQ k) = true) : 3 ≤ shK k ∧ shK k ≤ 5 ∧ vp_in i (shN k) := by
  unfold lnQ at h
  cases e : (Nat.ble 3 (shK k) && Nat.ble (shK k) 5)
  · rw [e, cond_false, inb_0] at h; cases h
  · rw [e, cond_true] at h
    obtain ⟨e1, e2⟩ := Bool.and_eq_true_iff.mp e
    exact ⟨Nat.le_of_ble_eq_true e1, Nat.le_of_ble_eq_true e2, inb_in h⟩
theorem cpy_e {sp dp n : Int32} {k0 k1 : Nat} (h : cpyOk sp dp n k0 k1 = true) : ¬ sp < 0 ∧ ¬ dp < 0 ∧ ¬ n < 0 ∧ sp.toNatClampNeg + n.toNatClampNeg ≤ shN k0 ∧ dp.toNatClampNeg + n.toNatClampNeg ≤ shN k1 ∧ shK k0 = 0 ∧ shK k1 = 0 := by
  simp only [cpyOk, Bool.and_eq_true, Bool.not_eq_true', decide_eq_false_iff_not, decide_eq_true_eq] at h
  obtain ⟨⟨⟨⟨h1, h2⟩, h3⟩, h4, h5⟩, h6, h7⟩ := h
  unfold lnI at h4 h5
  rw [h6, cond_true] at h4
  rw [h7, cond_true] at h5
  exact ⟨h1, h2, h3, h4, h5, Nat.eq_of_beq_eq_true h6, Nat.eq_of_beq_eq_true h7⟩
theorem csum_len (vs : List Value) : (lg_sl vs).length = csum vs := by
  induction vs with
  | nil => rfl
  | cons v r ih =>
    unfold lg_sl at ih ⊢
    rw [List.flatMap_cons, List.length_append, ih]
    show _ = v.category + csum r
    cases v <;> rfl
theorem csum_rv {ad : Nat → Nat} {tn : Nat} (vs : List Value) : csum (vs.map (rv ad tn)) = csum vs := by
  rw [csum_eq, csum_eq, rv_sum]
theorem mm_snd {ks : List Nat} {c : Nat} {as : List Value} {μ μ2 : Mm} {w : Option Value} (hy : plainFor (pY c) = true) (hcm : csum as ≤ pM c) (h : Snd ks (ent c as μ) (w, μ2)) : MM ks (pY c) (pB c) (pM c) (pR c) (pK c as) as μ w μ2 := by
  intro l D AC ad tn
  refine mk_M hy (by rw [csum_len, csum_rv]; exact hcm) (fun p e s m below meth c' X hK hN hi H locs hW hS ls hl => ?_)
  rw [rl_args] at hl
  exact h l p e s m _ below meth c' H locs ls D AC ad tn X hK hN hi hW hS hl
theorem iv_e {E : Nat → Bool} {q : Nat × Nat} {pc : Nat} {lv : List (Nat × Value)} {μ : Mm} {len c0 n rt ci mx : Nat} {ws : List Nat} {v : Value} {ix : Nat} {st : List Value} {a : Act} (h : stp E q pc lv μ len (c0 :: n :: rt :: ci :: mx :: ws) v (.invokevirtual ix) st = some (true, a)) :
    ∃ k as st' bs, st = bs ++ .ref k :: st' ∧ as = bs.reverse ∧ bs.length = n ∧ E k = true ∧ isO k ci = true ∧ csum st' ≤ 8 ∧ csum (.ref k :: as) ≤ mx ∧ a = .inr (.inl (c0, .ref k :: as, μ, rt, fun w μ' => (q, pc + len, lv, w ++ st', μ'))) := by
  simp only [stp, o0, o1, o2, o3, o4] at h
  split at h
  · rename_i as st1 e
    obtain ⟨k, st', e0, h5⟩ := pA_e h
    subst e0
    obtain ⟨bs, h1, h2, h3⟩ := takeA_e _ _ _ _ _ e
    have hg : ((E k && isO k ci) && (Nat.ble (csum st') 8 && Nat.ble (1 + csum as) mx)) = true := congrArg (fun z => (z.getD (false, a)).1) h5
    rw [hg] at h5
    obtain ⟨g1, g2⟩ := Bool.and_eq_true_iff.mp hg
    obtain ⟨g0, g1⟩ := Bool.and_eq_true_iff.mp g1
    obtain ⟨g2, g3⟩ := Bool.and_eq_true_iff.mp g2
    exact ⟨k, as, st', bs, h2, by rw [h1]; simp, h3, g0, g1, Nat.le_of_ble_eq_true g2, Nat.le_of_ble_eq_true g3, sj_e h5⟩
  · cases h
theorem is_e {E : Nat → Bool} {q : Nat × Nat} {pc : Nat} {lv : List (Nat × Value)} {μ : Mm} {len c0 n rt ci mx : Nat} {ws : List Nat} {v : Value} {ix : Nat} {st : List Value} {a : Act} (e1 : Nat.ble 1000 c0 = false) (h : stp E q pc lv μ len (c0 :: n :: rt :: ci :: mx :: ws) v (.invokestatic ix) st = some (true, a)) :
    ∃ as st' bs, st = bs ++ st' ∧ as = bs.reverse ∧ bs.length = n ∧ csum st' ≤ 8 ∧ csum as ≤ mx ∧ a = .inr (.inl (c0, as, μ, rt, fun w μ' => (q, pc + len, lv, w ++ st', μ'))) := by
  simp only [stp, o0, o1, o2, o3, o4, e1, cond_false] at h
  split at h
  · rename_i as st1 e
    obtain ⟨bs, h1, h2, h3⟩ := takeA_e _ _ _ _ _ e
    have hg : (Nat.ble (csum st1) 8 && Nat.ble (csum as) mx) = true := congrArg (fun z => (z.getD (false, a)).1) h
    rw [hg] at h
    obtain ⟨g1, g2⟩ := Bool.and_eq_true_iff.mp hg
    exact ⟨as, st1, bs, h2, by rw [h1]; simp, h3, Nat.le_of_ble_eq_true g1, Nat.le_of_ble_eq_true g2, sj_e h⟩
  · cases h
theorem brP_app {P Q : St → Prop} : ∀ {l : List (Bool × St)} {d : St}, brP P l d → (∀ x, P x → Q x) → brP Q l d
  | [], d, h, f => f d h
  | (c, s) :: l, d, h, f => ⟨fun e => f s (h.1 e), fun e => brP_app (h.2 e) f⟩
/-- a switch from 0 on -/
theorem swl_P {P : St → Prop} {x lo : Int32} {k : Nat → St} {d : St} : ∀ (ts : List Nat) (a : Nat), lo = nI a → a + ts.length < 2 ^ 31 → brP P (swl x lo k ts) d → (∀ j t, ts[j]? = some t → x = nI (a + j) → P (k t)) ∧ ((∀ j, j < ts.length → ¬ x = nI (a + j)) → P d)
  | [], a, _, _, h => ⟨fun j t e => by simp at e, fun _ => h⟩
  | t :: ts, a, hlo, hN, h => by
    have hN : a + (ts.length + 1) < 2 ^ 31 := hN
    have h2 : decide (x = lo) = false → brP P (swl x (lo + 1) k ts) d := h.2
    have hlo1 : lo + 1 = nI (a + 1) := by rw [hlo, nI_succ]
    constructor
    · intro j t' e hx
      by_cases hx0 : x = lo
      · cases j with
        | zero => cases e; exact h.1 (decide_eq_true hx0)
        | succ j =>
          exfalso
          have hj : j < ts.length := (List.getElem?_eq_some_iff.mp (show ts[j]? = some t' from e)).1
          rw [hx0, hlo] at hx
          have := (nI_eq (by omega) (by omega)).mp hx
          omega
      · cases j with
        | zero => exact absurd (hx.trans hlo.symm) hx0
        | succ j =>
          exact (swl_P ts (a + 1) hlo1 (by omega) (h2 (decide_eq_false hx0))).1 j t' e (by rw [hx]; congr 1; omega)
    · intro hj
      have hx0 : ¬ x = lo := by rw [hlo]; exact hj 0 (by simp)
      exact (swl_P ts (a + 1) hlo1 (by omega) (h2 (decide_eq_false hx0))).2 (fun j hjl => by rw [show a + 1 + j = a + (j + 1) by omega]; exact hj (j + 1) (by simpa using hjl))
theorem swo_e {pc : Nat} : ∀ {os : List Int} {ts : List Nat}, swo pc os ts = true → os.length = ts.length ∧ ∀ (j : Nat) (o : Int) (t : Nat), os[j]? = some o → ts[j]? = some t → (pc : Int) + o = (t : Int)
  | [], [], _ => ⟨rfl, fun j o t e => by simp at e⟩
  | [], _ :: _, h => by cases h
  | _ :: _, [], h => by cases h
  | o :: os, t :: ts, h => by
    obtain ⟨h1, h2⟩ := Bool.and_eq_true_iff.mp (show (pcs pc o t && swo pc os ts) = true from h)
    obtain ⟨h3, h4⟩ := swo_e h2
    refine ⟨by simp [h3], fun j o' t' e1 e2 => ?_⟩
    cases j with
    | zero => cases e1; cases e2; exact of_decide_eq_true h1
    | succ j => exact h4 j o' t' e1 e2
/-- what must follow a step -/
def Hb (ks : List Nat) (r : Rs) (d : Nat) (a : Act) : Prop := match a with
  | .inl (l, s) => brP (fun x => Snd ks x r) l s
  | .inr (.inl (c, as, μ, _, kn)) => ∃ w μ2, pK c as + 1 ≤ d ∧ Snd ks (ent c as μ) (w, μ2) ∧ Snd ks (kn w.toList μ2) r
  | .inr (.inr r') => r' = r
set_option maxHeartbeats 4000000 in
set_option maxRecDepth 10000 in
theorem stp_snd {E : Nat → Bool} {ks : List Nat} (hE : ∀ k, E k = true → k < NN → k ∈ ks) {q : Nat × Nat} {pc : Nat} {lv : List (Nat × Value)} {μ : Mm} {len : Nat} {ops : List Nat} {v : Value} {i : Instr} {st : List Value} {a : Act} {r : Rs} (hid : q.1 < NM) (hdg : decode (pB q.1) pc = .ok (i, len)) (hok : okI q.1 pc i len ops v = true) (h : stp E q pc lv μ len ops v i st = some (true, a)) (hb : Hb ks r q.2 a) : Snd ks (q, pc, lv, st, μ) r := by
  cases i
  case iadd =>
    obtain ⟨y, st, rfl, h⟩ := pI_e h
    obtain ⟨x, st, rfl, h⟩ := pI_e h
    obtain rfl := nx_e h
    have hn := of_decide_eq_true hok
    subst hn
    intro l p e s m args below meth c H locs ls D AC ad tn X hK hN hi hW hS hl
    exact lv_iadd X.1 X.2.1 hdg (hb l p e s m args below meth c H locs ls D AC ad tn X hK hN hi hW hS hl)
  case isub =>
    obtain ⟨y, st, rfl, h⟩ := pI_e h
    obtain ⟨x, st, rfl, h⟩ := pI_e h
    obtain rfl := nx_e h
    have hn := of_decide_eq_true hok
    subst hn
    intro l p e s m args below meth c H locs ls D AC ad tn X hK hN hi hW hS hl
    exact lv_isub X.1 X.2.1 hdg (hb l p e s m args below meth c H locs ls D AC ad tn X hK hN hi hW hS hl)
  case imul =>
    obtain ⟨y, st, rfl, h⟩ := pI_e h
    obtain ⟨x, st, rfl, h⟩ := pI_e h
    obtain rfl := nx_e h
    have hn := of_decide_eq_true hok
    subst hn
    intro l p e s m args below meth c H locs ls D AC ad tn X hK hN hi hW hS hl
    exact lv_imul X.1 X.2.1 hdg (hb l p e s m args below meth c H locs ls D AC ad tn X hK hN hi hW hS hl)
  case iand =>
    obtain ⟨y, st, rfl, h⟩ := pI_e h
    obtain ⟨x, st, rfl, h⟩ := pI_e h
    obtain rfl := nx_e h
    have hn := of_decide_eq_true hok
    subst hn
    intro l p e s m args below meth c H locs ls D AC ad tn X hK hN hi hW hS hl
    exact lv_iand X.1 X.2.1 hdg (hb l p e s m args below meth c H locs ls D AC ad tn X hK hN hi hW hS hl)
  case ior =>
    obtain ⟨y, st, rfl, h⟩ := pI_e h
    obtain ⟨x, st, rfl, h⟩ := pI_e h
    obtain rfl := nx_e h
    have hn := of_decide_eq_true hok
    subst hn
    intro l p e s m args below meth c H locs ls D AC ad tn X hK hN hi hW hS hl
    exact lv_ior X.1 X.2.1 hdg (hb l p e s m args below meth c H locs ls D AC ad tn X hK hN hi hW hS hl)
  case ishl =>
    obtain ⟨y, st, rfl, h⟩ := pI_e h
    obtain ⟨x, st, rfl, h⟩ := pI_e h
    obtain rfl := nx_e h
    have hn := of_decide_eq_true hok
    subst hn
    intro l p e s m args below meth c H locs ls D AC ad tn X hK hN hi hW hS hl
    exact lv_ishl X.1 X.2.1 hdg (hb l p e s m args below meth c H locs ls D AC ad tn X hK hN hi hW hS hl)
  case idiv =>
    obtain ⟨y, st, rfl, h⟩ := pI_e h
    obtain ⟨x, st, rfl, h⟩ := pI_e h
    obtain ⟨hg, rfl⟩ := ng_e h
    have hn := of_decide_eq_true hok
    subst hn
    intro l p e s m args below meth c H locs ls D AC ad tn X hK hN hi hW hS hl
    exact lv_idiv X.1 X.2.1 hdg (nd_e hg) (hb l p e s m args below meth c H locs ls D AC ad tn X hK hN hi hW hS hl)
  case irem =>
    obtain ⟨y, st, rfl, h⟩ := pI_e h
    obtain ⟨x, st, rfl, h⟩ := pI_e h
    obtain ⟨hg, rfl⟩ := ng_e h
    have hn := of_decide_eq_true hok
    subst hn
    intro l p e s m args below meth c H locs ls D AC ad tn X hK hN hi hW hS hl
    exact lv_irem X.1 X.2.1 hdg (nd_e hg) (hb l p e s m args below meth c H locs ls D AC ad tn X hK hN hi hW hS hl)
  case ladd =>
    obtain ⟨y, st, rfl, h⟩ := pJ_e h
    obtain ⟨x, st, rfl, h⟩ := pJ_e h
    obtain rfl := nx_e h
    have hn := of_decide_eq_true hok
    subst hn
    intro l p e s m args below meth c H locs ls D AC ad tn X hK hN hi hW hS hl
    exact lv_ladd X.1 X.2.1 hdg (hb l p e s m args below meth c H locs ls D AC ad tn X hK hN hi hW hS hl)
  case lsub =>
    obtain ⟨y, st, rfl, h⟩ := pJ_e h
    obtain ⟨x, st, rfl, h⟩ := pJ_e h
    obtain rfl := nx_e h
    have hn := of_decide_eq_true hok
    subst hn
    intro l p e s m args below meth c H locs ls D AC ad tn X hK hN hi hW hS hl
    exact lv_lsub X.1 X.2.1 hdg (hb l p e s m args below meth c H locs ls D AC ad tn X hK hN hi hW hS hl)
  case lmul =>
    obtain ⟨y, st, rfl, h⟩ := pJ_e h
    obtain ⟨x, st, rfl, h⟩ := pJ_e h
    obtain rfl := nx_e h
    have hn := of_decide_eq_true hok
    subst hn
    intro l p e s m args below meth c H locs ls D AC ad tn X hK hN hi hW hS hl
    exact lv_lmul X.1 X.2.1 hdg (hb l p e s m args below meth c H locs ls D AC ad tn X hK hN hi hW hS hl)
  case land =>
    obtain ⟨y, st, rfl, h⟩ := pJ_e h
    obtain ⟨x, st, rfl, h⟩ := pJ_e h
    obtain rfl := nx_e h
    have hn := of_decide_eq_true hok
    subst hn
    intro l p e s m args below meth c H locs ls D AC ad tn X hK hN hi hW hS hl
    exact lv_land X.1 X.2.1 hdg (hb l p e s m args below meth c H locs ls D AC ad tn X hK hN hi hW hS hl)
  case lor =>
    obtain ⟨y, st, rfl, h⟩ := pJ_e h
    obtain ⟨x, st, rfl, h⟩ := pJ_e h
    obtain rfl := nx_e h
    have hn := of_decide_eq_true hok
    subst hn
    intro l p e s m args below meth c H locs ls D AC ad tn X hK hN hi hW hS hl
    exact lv_lor X.1 X.2.1 hdg (hb l p e s m args below meth c H locs ls D AC ad tn X hK hN hi hW hS hl)
  case lxor =>
    obtain ⟨y, st, rfl, h⟩ := pJ_e h
    obtain ⟨x, st, rfl, h⟩ := pJ_e h
    obtain rfl := nx_e h
    have hn := of_decide_eq_true hok
    subst hn
    intro l p e s m args below meth c H locs ls D AC ad tn X hK hN hi hW hS hl
    exact lv_lxor X.1 X.2.1 hdg (hb l p e s m args below meth c H locs ls D AC ad tn X hK hN hi hW hS hl)
  case lrem =>
    obtain ⟨y, st, rfl, h⟩ := pJ_e h
    obtain ⟨x, st, rfl, h⟩ := pJ_e h
    obtain ⟨hg, rfl⟩ := ng_e h
    have hn := of_decide_eq_true hok
    subst hn
    intro l p e s m args below meth c H locs ls D AC ad tn X hK hN hi hW hS hl
    exact lv_lrem X.1 X.2.1 hdg (ndl_e hg) (hb l p e s m args below meth c H locs ls D AC ad tn X hK hN hi hW hS hl)
  case lshl =>
    obtain ⟨y, st, rfl, h⟩ := pI_e h
    obtain ⟨x, st, rfl, h⟩ := pJ_e h
    obtain rfl := nx_e h
    have hn := of_decide_eq_true hok
    subst hn
    intro l p e s m args below meth c H locs ls D AC ad tn X hK hN hi hW hS hl
    exact lv_lshl X.1 X.2.1 hdg rfl (hb l p e s m args below meth c H locs ls D AC ad tn X hK hN hi hW hS hl)
  case lshr =>
    obtain ⟨y, st, rfl, h⟩ := pI_e h
    obtain ⟨x, st, rfl, h⟩ := pJ_e h
    obtain rfl := nx_e h
    have hn := of_decide_eq_true hok
    subst hn
    intro l p e s m args below meth c H locs ls D AC ad tn X hK hN hi hW hS hl
    exact lv_lshr X.1 X.2.1 hdg rfl (hb l p e s m args below meth c H locs ls D AC ad tn X hK hN hi hW hS hl)
  case lushr =>
    obtain ⟨y, st, rfl, h⟩ := pI_e h
    obtain ⟨x, st, rfl, h⟩ := pJ_e h
    obtain rfl := nx_e h
    have hn := of_decide_eq_true hok
    subst hn
    intro l p e s m args below meth c H locs ls D AC ad tn X hK hN hi hW hS hl
    exact lv_lushr X.1 X.2.1 hdg rfl (hb l p e s m args below meth c H locs ls D AC ad tn X hK hN hi hW hS hl)
  case i2l =>
    obtain ⟨x, st, rfl, h⟩ := pI_e h
    obtain rfl := nx_e h
    have hn := of_decide_eq_true hok
    subst hn
    intro l p e s m args below meth c H locs ls D AC ad tn X hK hN hi hW hS hl
    exact lv_i2l X.1 X.2.1 hdg rfl (hb l p e s m args below meth c H locs ls D AC ad tn X hK hN hi hW hS hl)
  case l2i =>
    obtain ⟨x, st, rfl, h⟩ := pJ_e h
    obtain rfl := nx_e h
    have hn := of_decide_eq_true hok
    subst hn
    intro l p e s m args below meth c H locs ls D AC ad tn X hK hN hi hW hS hl
    exact lv_l2i X.1 X.2.1 hdg rfl (hb l p e s m args below meth c H locs ls D AC ad tn X hK hN hi hW hS hl)
  case i2f =>
    obtain ⟨x, st, rfl, h⟩ := pI_e h
    obtain rfl := nx_e h
    have hn := of_decide_eq_true hok
    subst hn
    intro l p e s m args below meth c H locs ls D AC ad tn X hK hN hi hW hS hl
    exact lv_i2f X.1 X.2.1 hdg (hb l p e s m args below meth c H locs ls D AC ad tn X hK hN hi hW hS hl)
  case i2d =>
    obtain ⟨x, st, rfl, h⟩ := pI_e h
    obtain rfl := nx_e h
    have hn := of_decide_eq_true hok
    subst hn
    intro l p e s m args below meth c H locs ls D AC ad tn X hK hN hi hW hS hl
    exact lv_i2d X.1 X.2.1 hdg (hb l p e s m args below meth c H locs ls D AC ad tn X hK hN hi hW hS hl)
  case l2d =>
    obtain ⟨x, st, rfl, h⟩ := pJ_e h
    obtain rfl := nx_e h
    have hn := of_decide_eq_true hok
    subst hn
    intro l p e s m args below meth c H locs ls D AC ad tn X hK hN hi hW hS hl
    exact lv_l2d X.1 X.2.1 hdg (hb l p e s m args below meth c H locs ls D AC ad tn X hK hN hi hW hS hl)
  case d2l =>
    obtain ⟨x, st, rfl, h⟩ := pD8_e h
    obtain rfl := nx_e h
    have hn := of_decide_eq_true hok
    subst hn
    intro l p e s m args below meth c H locs ls D AC ad tn X hK hN hi hW hS hl
    exact lv_d2l X.1 X.2.1 hdg (hb l p e s m args below meth c H locs ls D AC ad tn X hK hN hi hW hS hl)
  case d2i =>
    obtain ⟨x, st, rfl, h⟩ := pD8_e h
    obtain rfl := nx_e h
    have hn := of_decide_eq_true hok
    subst hn
    intro l p e s m args below meth c H locs ls D AC ad tn X hK hN hi hW hS hl
    exact lv_d2i X.1 X.2.1 hdg (hb l p e s m args below meth c H locs ls D AC ad tn X hK hN hi hW hS hl)
  case f2i =>
    obtain ⟨x, st, rfl, h⟩ := pF4_e h
    obtain rfl := nx_e h
    have hn := of_decide_eq_true hok
    subst hn
    intro l p e s m args below meth c H locs ls D AC ad tn X hK hN hi hW hS hl
    exact lv_f2i X.1 X.2.1 hdg (hb l p e s m args below meth c H locs ls D AC ad tn X hK hN hi hW hS hl)
  case dneg =>
    obtain ⟨x, st, rfl, h⟩ := pD8_e h
    obtain rfl := nx_e h
    have hn := of_decide_eq_true hok
    subst hn
    intro l p e s m args below meth c H locs ls D AC ad tn X hK hN hi hW hS hl
    exact lv_dneg X.1 X.2.1 hdg (hb l p e s m args below meth c H locs ls D AC ad tn X hK hN hi hW hS hl)
  case f2d =>
    obtain ⟨x, st, rfl, h⟩ := pF4_e h
    obtain ⟨hg, rfl⟩ := ng_e h
    have hn := of_decide_eq_true hok
    subst hn
    intro l p e s m args below meth c H locs ls D AC ad tn X hK hN hi hW hS hl
    exact lv_f2d X.1 X.2.1 hdg (n64_ok hg) (hb l p e s m args below meth c H locs ls D AC ad tn X hK hN hi hW hS hl)
  case lcmp =>
    obtain ⟨y, st, rfl, h⟩ := pJ_e h
    obtain ⟨x, st, rfl, h⟩ := pJ_e h
    obtain rfl := nx_e h
    have hn := of_decide_eq_true hok
    subst hn
    intro l p e s m args below meth c H locs ls D AC ad tn X hK hN hi hW hS hl
    exact W.lcmp X.1 X.2.1 hdg (hb l p e s m args below meth c H locs ls D AC ad tn X hK hN hi hW hS hl)
  case fcmp op =>
    obtain ⟨y, st, rfl, h⟩ := pF4_e h
    obtain ⟨x, st, rfl, h⟩ := pF4_e h
    obtain rfl := nx_e h
    have hn := of_decide_eq_true hok
    subst hn
    intro l p e s m args below meth c H locs ls D AC ad tn X hK hN hi hW hS hl
    exact lv_fcmp X.1 X.2.1 hdg (hb l p e s m args below meth c H locs ls D AC ad tn X hK hN hi hW hS hl)
  case dcmp op =>
    obtain ⟨y, st, rfl, h⟩ := pD8_e h
    obtain ⟨x, st, rfl, h⟩ := pD8_e h
    obtain rfl := nx_e h
    have hn := of_decide_eq_true hok
    subst hn
    intro l p e s m args below meth c H locs ls D AC ad tn X hK hN hi hW hS hl
    exact lv_dcmp X.1 X.2.1 hdg (hb l p e s m args below meth c H locs ls D AC ad tn X hK hN hi hW hS hl)
  case fadd =>
    obtain ⟨y, st, rfl, h⟩ := pF4_e h
    obtain ⟨x, st, rfl, h⟩ := pF4_e h
    obtain ⟨hg, rfl⟩ := ng_e h
    have hn := of_decide_eq_true hok
    subst hn
    intro l p e s m args below meth c H locs ls D AC ad tn X hK hN hi hW hS hl
    exact lv_fadd X.1 X.2.1 hdg (n32_ok hg) (hb l p e s m args below meth c H locs ls D AC ad tn X hK hN hi hW hS hl)
  case fmul =>
    obtain ⟨y, st, rfl, h⟩ := pF4_e h
    obtain ⟨x, st, rfl, h⟩ := pF4_e h
    obtain ⟨hg, rfl⟩ := ng_e h
    have hn := of_decide_eq_true hok
    subst hn
    intro l p e s m args below meth c H locs ls D AC ad tn X hK hN hi hW hS hl
    exact lv_fmul X.1 X.2.1 hdg (n32_ok hg) (hb l p e s m args below meth c H locs ls D AC ad tn X hK hN hi hW hS hl)
  case fdiv =>
    obtain ⟨y, st, rfl, h⟩ := pF4_e h
    obtain ⟨x, st, rfl, h⟩ := pF4_e h
    obtain ⟨hg, rfl⟩ := ng_e h
    have hn := of_decide_eq_true hok
    subst hn
    intro l p e s m args below meth c H locs ls D AC ad tn X hK hN hi hW hS hl
    exact lv_fdiv X.1 X.2.1 hdg (n32_ok hg) (hb l p e s m args below meth c H locs ls D AC ad tn X hK hN hi hW hS hl)
  case dadd =>
    obtain ⟨y, st, rfl, h⟩ := pD8_e h
    obtain ⟨x, st, rfl, h⟩ := pD8_e h
    obtain ⟨hg, rfl⟩ := ng_e h
    have hn := of_decide_eq_true hok
    subst hn
    intro l p e s m args below meth c H locs ls D AC ad tn X hK hN hi hW hS hl
    exact lv_dadd X.1 X.2.1 hdg (n64_ok hg) (hb l p e s m args below meth c H locs ls D AC ad tn X hK hN hi hW hS hl)
  case dsub =>
    obtain ⟨y, st, rfl, h⟩ := pD8_e h
    obtain ⟨x, st, rfl, h⟩ := pD8_e h
    obtain ⟨hg, rfl⟩ := ng_e h
    have hn := of_decide_eq_true hok
    subst hn
    intro l p e s m args below meth c H locs ls D AC ad tn X hK hN hi hW hS hl
    exact lv_dsub X.1 X.2.1 hdg (n64_ok hg) (hb l p e s m args below meth c H locs ls D AC ad tn X hK hN hi hW hS hl)
  case dmul =>
    obtain ⟨y, st, rfl, h⟩ := pD8_e h
    obtain ⟨x, st, rfl, h⟩ := pD8_e h
    obtain ⟨hg, rfl⟩ := ng_e h
    have hn := of_decide_eq_true hok
    subst hn
    intro l p e s m args below meth c H locs ls D AC ad tn X hK hN hi hW hS hl
    exact lv_dmul X.1 X.2.1 hdg (n64_ok hg) (hb l p e s m args below meth c H locs ls D AC ad tn X hK hN hi hW hS hl)
  case ddiv =>
    obtain ⟨y, st, rfl, h⟩ := pD8_e h
    obtain ⟨x, st, rfl, h⟩ := pD8_e h
    obtain ⟨hg, rfl⟩ := ng_e h
    have hn := of_decide_eq_true hok
    subst hn
    intro l p e s m args below meth c H locs ls D AC ad tn X hK hN hi hW hS hl
    exact lv_ddiv X.1 X.2.1 hdg (n64_ok hg) (hb l p e s m args below meth c H locs ls D AC ad tn X hK hN hi hW hS hl)
  case iconst n =>
    obtain rfl := nx_e h
    obtain ⟨h1, h2⟩ := and_ok hok
    subst h1 h2
    intro l p e s m args below meth c H locs ls D AC ad tn X hK hN hi hW hS hl
    exact lv_iconst X.1 X.2.1 hdg rfl (hb l p e s m args below meth c H locs ls D AC ad tn X hK hN hi hW hS hl)
  case bipush n =>
    obtain rfl := nx_e h
    obtain ⟨h1, h2⟩ := and_ok hok
    subst h1 h2
    intro l p e s m args below meth c H locs ls D AC ad tn X hK hN hi hW hS hl
    exact lv_bipush X.1 X.2.1 hdg rfl (hb l p e s m args below meth c H locs ls D AC ad tn X hK hN hi hW hS hl)
  case sipush n =>
    obtain rfl := nx_e h
    obtain ⟨h1, h2⟩ := and_ok hok
    subst h1 h2
    intro l p e s m args below meth c H locs ls D AC ad tn X hK hN hi hW hS hl
    exact lv_sipush X.1 X.2.1 hdg rfl (hb l p e s m args below meth c H locs ls D AC ad tn X hK hN hi hW hS hl)
  case lconst n =>
    obtain rfl := nx_e h
    obtain ⟨h1, h2⟩ := and_ok hok
    subst h1 h2
    intro l p e s m args below meth c H locs ls D AC ad tn X hK hN hi hW hS hl
    exact lv_lconst X.1 X.2.1 hdg rfl (hb l p e s m args below meth c H locs ls D AC ad tn X hK hN hi hW hS hl)
  case fconst n =>
    obtain rfl := nx_e h
    obtain ⟨h1, h2⟩ := and_okb hok
    subst h1
    intro l p e s m args below meth c H locs ls D AC ad tn X hK hN hi hW hS hl
    obtain ⟨n, hn⟩ := n
    rcases (show n = 0 ∨ n = 1 ∨ n = 2 by omega) with rfl | rfl | rfl
    · have h3 := of_decide_eq_true h2
      subst h3
      exact lv_fconst0 X.1 X.2.1 hdg (hb l p e s m args below meth c H locs ls D AC ad tn X hK hN hi hW hS hl)
    · have h3 := of_decide_eq_true h2
      subst h3
      exact lv_fconst1 X.1 X.2.1 hdg (hb l p e s m args below meth c H locs ls D AC ad tn X hK hN hi hW hS hl)
    · have h3 := of_decide_eq_true h2
      subst h3
      exact lv_fconst2 X.1 X.2.1 hdg (hb l p e s m args below meth c H locs ls D AC ad tn X hK hN hi hW hS hl)
  case dconst n =>
    obtain rfl := nx_e h
    obtain ⟨h1, h2⟩ := and_okb hok
    subst h1
    intro l p e s m args below meth c H locs ls D AC ad tn X hK hN hi hW hS hl
    obtain ⟨n, hn⟩ := n
    rcases (show n = 0 ∨ n = 1 by omega) with rfl | rfl
    · have h3 := of_decide_eq_true h2
      subst h3
      exact lv_dconst0 X.1 X.2.1 hdg (hb l p e s m args below meth c H locs ls D AC ad tn X hK hN hi hW hS hl)
    · have h3 := of_decide_eq_true h2
      subst h3
      exact lv_dconst1 X.1 X.2.1 hdg (hb l p e s m args below meth c H locs ls D AC ad tn X hK hN hi hW hS hl)
  case aconst_null =>
    obtain rfl := nx_e h
    have hn := of_decide_eq_true hok
    subst hn
    intro l p e s m args below meth c H locs ls D AC ad tn X hK hN hi hW hS hl
    exact lv_null X.1 X.2.1 hdg (hb l p e s m args below meth c H locs ls D AC ad tn X hK hN hi hW hS hl)
  case ldc ix =>
    obtain rfl := nx_e h
    obtain ⟨h1, h2⟩ := and_okb hok
    subst h1
    intro l p e s m args below meth c H locs ls D AC ad tn X hK hN hi hW hS hl
    split at h2
    · exact lv_ldc X.1 X.2.1 X.2.2.2.1 (X.2.2.2.2.1 _ (ldIl_in hid (of_decide_eq_true h2))) hdg (hb l p e s m args below meth c H locs ls D AC ad tn X hK hN hi hW hS hl)
    · exact lv_ldcf X.1 X.2.1 X.2.2.2.1 (X.2.2.2.2.1 _ (ldFl_in hid (of_decide_eq_true h2))) hdg (hb l p e s m args below meth c H locs ls D AC ad tn X hK hN hi hW hS hl)
    · cases h2
  case ldc_w ix =>
    obtain rfl := nx_e h
    obtain ⟨h1, h2⟩ := and_okb hok
    subst h1
    intro l p e s m args below meth c H locs ls D AC ad tn X hK hN hi hW hS hl
    split at h2
    · exact lv_ldcw X.1 X.2.1 X.2.2.2.1 (X.2.2.2.2.1 _ (ldIl_in hid (of_decide_eq_true h2))) hdg (hb l p e s m args below meth c H locs ls D AC ad tn X hK hN hi hW hS hl)
    · exact lv_ldcwf X.1 X.2.1 X.2.2.2.1 (X.2.2.2.2.1 _ (ldFl_in hid (of_decide_eq_true h2))) hdg (hb l p e s m args below meth c H locs ls D AC ad tn X hK hN hi hW hS hl)
    · cases h2
  case ldc2_w ix =>
    obtain rfl := nx_e h
    obtain ⟨h1, h2⟩ := and_okb hok
    subst h1
    intro l p e s m args below meth c H locs ls D AC ad tn X hK hN hi hW hS hl
    split at h2
    · exact lv_ldc2 X.1 X.2.1 X.2.2.2.1 (X.2.2.2.2.1 _ (ldJl_in hid (of_decide_eq_true h2))) hdg (hb l p e s m args below meth c H locs ls D AC ad tn X hK hN hi hW hS hl)
    · exact lv_ldc2d X.1 X.2.1 X.2.2.2.1 (X.2.2.2.2.1 _ (ldDl_in hid (of_decide_eq_true h2))) hdg (hb l p e s m args below meth c H locs ls D AC ad tn X hK hN hi hW hS hl)
    · cases h2
  case iload_n k =>
    simp only [stp] at h
    split at h
    · rename_i x ex
      obtain rfl := nx_e h
      obtain ⟨h1, h2⟩ := and_ok hok
      subst h1
      intro l p e s m args below meth c H locs ls D AC ad tn X hK hN hi hW hS hl
      exact lv_iload_n X.1 X.2.1 hdg h2 (rl_at hl ex) (hb l p e s m args below meth c H locs ls D AC ad tn X hK hN hi hW hS hl)
    · cases h
  case iload k =>
    simp only [stp] at h
    split at h
    · rename_i x ex
      obtain rfl := nx_e h
      obtain ⟨h1, h2⟩ := and_ok hok
      subst h1
      intro l p e s m args below meth c H locs ls D AC ad tn X hK hN hi hW hS hl
      subst h2
      exact lv_iload X.1 X.2.1 hdg (rl_at hl ex) (hb l p e s m args below meth c H locs ls D AC ad tn X hK hN hi hW hS hl)
    · cases h
  case lload_n k =>
    simp only [stp] at h
    split at h
    · rename_i x ex
      obtain rfl := nx_e h
      obtain ⟨h1, h2⟩ := and_ok hok
      subst h1
      intro l p e s m args below meth c H locs ls D AC ad tn X hK hN hi hW hS hl
      exact lv_lload_n X.1 X.2.1 hdg h2 (rl_at hl ex) (hb l p e s m args below meth c H locs ls D AC ad tn X hK hN hi hW hS hl)
    · cases h
  case lload k =>
    simp only [stp] at h
    split at h
    · rename_i x ex
      obtain rfl := nx_e h
      obtain ⟨h1, h2⟩ := and_ok hok
      subst h1
      intro l p e s m args below meth c H locs ls D AC ad tn X hK hN hi hW hS hl
      subst h2
      exact lv_lload X.1 X.2.1 hdg (rl_at hl ex) (hb l p e s m args below meth c H locs ls D AC ad tn X hK hN hi hW hS hl)
    · cases h
  case fload_n k =>
    simp only [stp] at h
    split at h
    · rename_i x ex
      obtain rfl := nx_e h
      obtain ⟨h1, h2⟩ := and_ok hok
      subst h1
      intro l p e s m args below meth c H locs ls D AC ad tn X hK hN hi hW hS hl
      exact lv_fload_n X.1 X.2.1 hdg h2 (rl_at hl ex) (hb l p e s m args below meth c H locs ls D AC ad tn X hK hN hi hW hS hl)
    · cases h
  case fload k =>
    simp only [stp] at h
    split at h
    · rename_i x ex
      obtain rfl := nx_e h
      obtain ⟨h1, h2⟩ := and_ok hok
      subst h1
      intro l p e s m args below meth c H locs ls D AC ad tn X hK hN hi hW hS hl
      subst h2
      exact lv_fload X.1 X.2.1 hdg (rl_at hl ex) (hb l p e s m args below meth c H locs ls D AC ad tn X hK hN hi hW hS hl)
    · cases h
  case dload_n k =>
    simp only [stp] at h
    split at h
    · rename_i x ex
      obtain rfl := nx_e h
      obtain ⟨h1, h2⟩ := and_ok hok
      subst h1
      intro l p e s m args below meth c H locs ls D AC ad tn X hK hN hi hW hS hl
      exact lv_dload_n X.1 X.2.1 hdg h2 (rl_at hl ex) (hb l p e s m args below meth c H locs ls D AC ad tn X hK hN hi hW hS hl)
    · cases h
  case dload k =>
    simp only [stp] at h
    split at h
    · rename_i x ex
      obtain rfl := nx_e h
      obtain ⟨h1, h2⟩ := and_ok hok
      subst h1
      intro l p e s m args below meth c H locs ls D AC ad tn X hK hN hi hW hS hl
      subst h2
      exact lv_dload X.1 X.2.1 hdg (rl_at hl ex) (hb l p e s m args below meth c H locs ls D AC ad tn X hK hN hi hW hS hl)
    · cases h
  case aload_n k =>
    simp only [stp] at h
    split at h
    · rename_i ex
      obtain rfl := nx_e h
      obtain ⟨h1, h2⟩ := and_ok hok
      subst h1
      intro l p e s m args below meth c H locs ls D AC ad tn X hK hN hi hW hS hl
      exact lv_aload_n X.1 X.2.1 hdg h2 (rl_at hl ex) (hb l p e s m args below meth c H locs ls D AC ad tn X hK hN hi hW hS hl)
    · rename_i ex
      obtain rfl := nx_e h
      obtain ⟨h1, h2⟩ := and_ok hok
      subst h1
      intro l p e s m args below meth c H locs ls D AC ad tn X hK hN hi hW hS hl
      exact lv_aload_nN X.1 X.2.1 hdg h2 (rl_at hl ex) (hb l p e s m args below meth c H locs ls D AC ad tn X hK hN hi hW hS hl)
    · cases h
  case aload k =>
    simp only [stp] at h
    split at h
    · rename_i ex
      obtain rfl := nx_e h
      obtain ⟨h1, h2⟩ := and_ok hok
      subst h1
      intro l p e s m args below meth c H locs ls D AC ad tn X hK hN hi hW hS hl
      subst h2
      exact lv_aload X.1 X.2.1 hdg (rl_at hl ex) (hb l p e s m args below meth c H locs ls D AC ad tn X hK hN hi hW hS hl)
    · rename_i ex
      obtain rfl := nx_e h
      obtain ⟨h1, h2⟩ := and_ok hok
      subst h1
      intro l p e s m args below meth c H locs ls D AC ad tn X hK hN hi hW hS hl
      subst h2
      exact lv_aloadN X.1 X.2.1 hdg (rl_at hl ex) (hb l p e s m args below meth c H locs ls D AC ad tn X hK hN hi hW hS hl)
    · cases h
  case istore_n k =>
    obtain ⟨x, st, rfl, h⟩ := pI_e h
    obtain rfl := nx_e h
    obtain ⟨h1, h2, h3⟩ := and_ok3 hok
    subst h1
    intro l p e s m args below meth c H locs ls D AC ad tn X hK hN hi hW hS hl
    exact lv_istore_n X.1 X.2.1 hdg h2 hl h3 (rl_w1 _ (.int x) _) (fun ls hl => hb l p e s m args below meth c H locs ls D AC ad tn X hK hN hi hW hS hl)
  case istore k =>
    obtain ⟨x, st, rfl, h⟩ := pI_e h
    obtain rfl := nx_e h
    obtain ⟨h1, h2, h3⟩ := and_ok3 hok
    subst h1
    intro l p e s m args below meth c H locs ls D AC ad tn X hK hN hi hW hS hl
    subst h2
    exact lv_istore X.1 X.2.1 hdg hl h3 (rl_w1 _ (.int x) _) (fun ls hl => hb l p e s m args below meth c H locs ls D AC ad tn X hK hN hi hW hS hl)
  case lstore_n k =>
    obtain ⟨x, st, rfl, h⟩ := pJ_e h
    obtain rfl := nx_e h
    obtain ⟨h1, h2, h3⟩ := and_ok3 hok
    subst h1
    intro l p e s m args below meth c H locs ls D AC ad tn X hK hN hi hW hS hl
    exact lv_lstore_n X.1 X.2.1 hdg h2 hl h3 (rl_w2 _ (.long x) _) (fun ls hl => hb l p e s m args below meth c H locs ls D AC ad tn X hK hN hi hW hS hl)
  case lstore k =>
    obtain ⟨x, st, rfl, h⟩ := pJ_e h
    obtain rfl := nx_e h
    obtain ⟨h1, h2, h3⟩ := and_ok3 hok
    subst h1
    intro l p e s m args below meth c H locs ls D AC ad tn X hK hN hi hW hS hl
    subst h2
    exact lv_lstore X.1 X.2.1 hdg hl h3 (rl_w2 _ (.long x) _) (fun ls hl => hb l p e s m args below meth c H locs ls D AC ad tn X hK hN hi hW hS hl)
  case fstore_n k =>
    obtain ⟨x, st, rfl, h⟩ := pF4_e h
    obtain rfl := nx_e h
    obtain ⟨h1, h2, h3⟩ := and_ok3 hok
    subst h1
    intro l p e s m args below meth c H locs ls D AC ad tn X hK hN hi hW hS hl
    exact lv_fstore_n X.1 X.2.1 hdg h2 hl h3 (rl_w1 _ (.float x) _) (fun ls hl => hb l p e s m args below meth c H locs ls D AC ad tn X hK hN hi hW hS hl)
  case fstore k =>
    obtain ⟨x, st, rfl, h⟩ := pF4_e h
    obtain rfl := nx_e h
    obtain ⟨h1, h2, h3⟩ := and_ok3 hok
    subst h1
    intro l p e s m args below meth c H locs ls D AC ad tn X hK hN hi hW hS hl
    subst h2
    exact lv_fstore X.1 X.2.1 hdg hl h3 (rl_w1 _ (.float x) _) (fun ls hl => hb l p e s m args below meth c H locs ls D AC ad tn X hK hN hi hW hS hl)
  case dstore_n k =>
    obtain ⟨x, st, rfl, h⟩ := pD8_e h
    obtain rfl := nx_e h
    obtain ⟨h1, h2, h3⟩ := and_ok3 hok
    subst h1
    intro l p e s m args below meth c H locs ls D AC ad tn X hK hN hi hW hS hl
    exact lv_dstore_n X.1 X.2.1 hdg h2 hl h3 (rl_w2 _ (.double x) _) (fun ls hl => hb l p e s m args below meth c H locs ls D AC ad tn X hK hN hi hW hS hl)
  case dstore k =>
    obtain ⟨x, st, rfl, h⟩ := pD8_e h
    obtain rfl := nx_e h
    obtain ⟨h1, h2, h3⟩ := and_ok3 hok
    subst h1
    intro l p e s m args below meth c H locs ls D AC ad tn X hK hN hi hW hS hl
    subst h2
    exact lv_dstore X.1 X.2.1 hdg hl h3 (rl_w2 _ (.double x) _) (fun ls hl => hb l p e s m args below meth c H locs ls D AC ad tn X hK hN hi hW hS hl)
  case astore_n k =>
    obtain ⟨st, rfl, h⟩ | ⟨x, st, rfl, h⟩ := pN_e h
    · obtain rfl := nx_e h
      obtain ⟨h1, h2, h3⟩ := and_ok3 hok
      subst h1
      intro l p e s m args below meth c H locs ls D AC ad tn X hK hN hi hW hS hl
      exact lv_astore_nN X.1 X.2.1 hdg h2 hl h3 (rl_w1 _ .null _) (fun ls hl => hb l p e s m args below meth c H locs ls D AC ad tn X hK hN hi hW hS hl)
    · obtain rfl := nx_e h
      obtain ⟨h1, h2, h3⟩ := and_ok3 hok
      subst h1
      intro l p e s m args below meth c H locs ls D AC ad tn X hK hN hi hW hS hl
      exact lv_astore_n X.1 X.2.1 hdg h2 hl h3 (rl_w1 _ (.ref x) _) (fun ls hl => hb l p e s m args below meth c H locs ls D AC ad tn X hK hN hi hW hS hl)
  case astore k =>
    obtain ⟨st, rfl, h⟩ | ⟨x, st, rfl, h⟩ := pN_e h
    · obtain rfl := nx_e h
      obtain ⟨h1, h2, h3⟩ := and_ok3 hok
      subst h1
      intro l p e s m args below meth c H locs ls D AC ad tn X hK hN hi hW hS hl
      subst h2
      exact lv_astoreN X.1 X.2.1 hdg hl h3 (rl_w1 _ .null _) (fun ls hl => hb l p e s m args below meth c H locs ls D AC ad tn X hK hN hi hW hS hl)
    · obtain rfl := nx_e h
      obtain ⟨h1, h2, h3⟩ := and_ok3 hok
      subst h1
      intro l p e s m args below meth c H locs ls D AC ad tn X hK hN hi hW hS hl
      subst h2
      exact lv_astore X.1 X.2.1 hdg hl h3 (rl_w1 _ (.ref x) _) (fun ls hl => hb l p e s m args below meth c H locs ls D AC ad tn X hK hN hi hW hS hl)
  case iinc k n =>
    simp only [stp] at h
    split at h
    · rename_i x ex
      split at h
      · rename_i y
        obtain rfl := nx_e h
        obtain ⟨h1, h2, h3, h4⟩ := and_ok4 hok
        cases h4
        subst h1 h2
        intro l p e s m args below meth c H locs ls D AC ad tn X hK hN hi hW hS hl
        obtain ⟨j, hj⟩ := List.getElem?_of_mem (List.mem_map.mpr ⟨_, lget_mem ex, rfl⟩ : (o0 ops, rv ad tn (.int x)) ∈ rl ad tn lv)
        exact lv_iinc X.1 X.2.1 hdg hl hj rfl h3 (rl_w1 _ (.int _) _) (fun ls hl => hb l p e s m args below meth c H locs ls D AC ad tn X hK hN hi hW hS hl)
      · cases h
    · cases h
  case dup =>
    simp only [stp] at h
    split at h
    · obtain ⟨hg, rfl⟩ := ng_e h
      have hn := of_decide_eq_true hok
      subst hn
      intro l p e s m args below meth c H locs ls D AC ad tn X hK hN hi hW hS hl
      exact lv_dup X.1 X.2.1 hdg (by rw [rv_cat]; exact Nat.eq_of_beq_eq_true hg) (hb l p e s m args below meth c H locs ls D AC ad tn X hK hN hi hW hS hl)
    · cases h
  case dup2 =>
    simp only [stp] at h
    split at h
    · obtain rfl := nx_e h
      have hn := of_decide_eq_true hok
      subst hn
      intro l p e s m args below meth c H locs ls D AC ad tn X hK hN hi hW hS hl
      exact lv_dup2_2 X.1 X.2.1 hdg rfl (hb l p e s m args below meth c H locs ls D AC ad tn X hK hN hi hW hS hl)
    · obtain rfl := nx_e h
      have hn := of_decide_eq_true hok
      subst hn
      intro l p e s m args below meth c H locs ls D AC ad tn X hK hN hi hW hS hl
      exact lv_dup2_11 X.1 X.2.1 hdg rfl rfl (hb l p e s m args below meth c H locs ls D AC ad tn X hK hN hi hW hS hl)
    · cases h
  case ifCond cd off =>
    obtain ⟨x, st, rfl, h⟩ := pI_e h
    obtain ⟨h1, h2⟩ := and_okb hok
    have h2 := of_decide_eq_true h2
    subst h1
    cases cd
    case eq =>
      obtain rfl := sj_e h
      intro l p e s m args below meth c H locs ls D AC ad tn X hK hN hi hW hS hl
      exact lv_if_eq X.1 X.2.1 hdg h2 (fun q => hb.1 (decide_eq_true q) l p e s m args below meth c H locs ls D AC ad tn X hK hN hi hW hS hl) (fun q => hb.2 (decide_eq_false q) l p e s m args below meth c H locs ls D AC ad tn X hK hN hi hW hS hl)
    case ne =>
      obtain rfl := sj_e h
      intro l p e s m args below meth c H locs ls D AC ad tn X hK hN hi hW hS hl
      exact lv_if_ne X.1 X.2.1 hdg h2 (fun q => hb.2 (decide_eq_false q) l p e s m args below meth c H locs ls D AC ad tn X hK hN hi hW hS hl) (fun q => hb.1 (decide_eq_true q) l p e s m args below meth c H locs ls D AC ad tn X hK hN hi hW hS hl)
    case lt =>
      obtain rfl := sj_e h
      intro l p e s m args below meth c H locs ls D AC ad tn X hK hN hi hW hS hl
      exact lv_if_lt X.1 X.2.1 hdg h2 (fun q => hb.1 (decide_eq_true q) l p e s m args below meth c H locs ls D AC ad tn X hK hN hi hW hS hl) (fun q => hb.2 (decide_eq_false q) l p e s m args below meth c H locs ls D AC ad tn X hK hN hi hW hS hl)
    case ge =>
      obtain rfl := sj_e h
      intro l p e s m args below meth c H locs ls D AC ad tn X hK hN hi hW hS hl
      exact lv_if_ge X.1 X.2.1 hdg h2 (fun q => hb.2 (decide_eq_false (Int32.not_lt.mpr q)) l p e s m args below meth c H locs ls D AC ad tn X hK hN hi hW hS hl) (fun q => hb.1 (decide_eq_true (Int32.not_le.mp q)) l p e s m args below meth c H locs ls D AC ad tn X hK hN hi hW hS hl)
    case gt =>
      obtain rfl := sj_e h
      intro l p e s m args below meth c H locs ls D AC ad tn X hK hN hi hW hS hl
      exact lv_if_gt X.1 X.2.1 hdg h2 (fun q => hb.1 (decide_eq_true q) l p e s m args below meth c H locs ls D AC ad tn X hK hN hi hW hS hl) (fun q => hb.2 (decide_eq_false q) l p e s m args below meth c H locs ls D AC ad tn X hK hN hi hW hS hl)
    case le =>
      obtain rfl := sj_e h
      intro l p e s m args below meth c H locs ls D AC ad tn X hK hN hi hW hS hl
      exact lv_if_le X.1 X.2.1 hdg h2 (fun q => hb.2 (decide_eq_false (Int32.not_lt.mpr q)) l p e s m args below meth c H locs ls D AC ad tn X hK hN hi hW hS hl) (fun q => hb.1 (decide_eq_true (Int32.not_le.mp q)) l p e s m args below meth c H locs ls D AC ad tn X hK hN hi hW hS hl)
  case if_icmp cd off =>
    obtain ⟨y, st, rfl, h⟩ := pI_e h
    obtain ⟨x, st, rfl, h⟩ := pI_e h
    obtain ⟨h1, h2⟩ := and_okb hok
    have h2 := of_decide_eq_true h2
    subst h1
    cases cd
    case eq =>
      obtain rfl := sj_e h
      intro l p e s m args below meth c H locs ls D AC ad tn X hK hN hi hW hS hl
      exact lv_icmp_eq X.1 X.2.1 hdg h2 (fun q => hb.1 (decide_eq_true q) l p e s m args below meth c H locs ls D AC ad tn X hK hN hi hW hS hl) (fun q => hb.2 (decide_eq_false q) l p e s m args below meth c H locs ls D AC ad tn X hK hN hi hW hS hl)
    case ne =>
      obtain rfl := sj_e h
      intro l p e s m args below meth c H locs ls D AC ad tn X hK hN hi hW hS hl
      exact lv_icmp_ne X.1 X.2.1 hdg h2 (fun q => hb.2 (decide_eq_false q) l p e s m args below meth c H locs ls D AC ad tn X hK hN hi hW hS hl) (fun q => hb.1 (decide_eq_true q) l p e s m args below meth c H locs ls D AC ad tn X hK hN hi hW hS hl)
    case lt =>
      obtain rfl := sj_e h
      intro l p e s m args below meth c H locs ls D AC ad tn X hK hN hi hW hS hl
      exact lv_icmp_lt X.1 X.2.1 hdg h2 (fun q => hb.1 (decide_eq_true q) l p e s m args below meth c H locs ls D AC ad tn X hK hN hi hW hS hl) (fun q => hb.2 (decide_eq_false q) l p e s m args below meth c H locs ls D AC ad tn X hK hN hi hW hS hl)
    case ge =>
      obtain rfl := sj_e h
      intro l p e s m args below meth c H locs ls D AC ad tn X hK hN hi hW hS hl
      exact lv_icmp_ge X.1 X.2.1 hdg h2 (fun q => hb.2 (decide_eq_false (Int32.not_lt.mpr q)) l p e s m args below meth c H locs ls D AC ad tn X hK hN hi hW hS hl) (fun q => hb.1 (decide_eq_true (Int32.not_le.mp q)) l p e s m args below meth c H locs ls D AC ad tn X hK hN hi hW hS hl)
    case gt =>
      obtain rfl := sj_e h
      intro l p e s m args below meth c H locs ls D AC ad tn X hK hN hi hW hS hl
      exact lv_icmp_gt X.1 X.2.1 hdg h2 (fun q => hb.1 (decide_eq_true q) l p e s m args below meth c H locs ls D AC ad tn X hK hN hi hW hS hl) (fun q => hb.2 (decide_eq_false q) l p e s m args below meth c H locs ls D AC ad tn X hK hN hi hW hS hl)
    case le =>
      obtain rfl := sj_e h
      intro l p e s m args below meth c H locs ls D AC ad tn X hK hN hi hW hS hl
      exact lv_icmp_le X.1 X.2.1 hdg h2 (fun q => hb.2 (decide_eq_false (Int32.not_lt.mpr q)) l p e s m args below meth c H locs ls D AC ad tn X hK hN hi hW hS hl) (fun q => hb.1 (decide_eq_true (Int32.not_le.mp q)) l p e s m args below meth c H locs ls D AC ad tn X hK hN hi hW hS hl)
  case goto off =>
    obtain ⟨h1, h2⟩ := and_okb hok
    have h2 := of_decide_eq_true h2
    obtain rfl := nx_e h
    subst h1
    intro l p e s m args below meth c H locs ls D AC ad tn X hK hN hi hW hS hl
    exact lv_goto X.1 X.2.1 hdg h2 (hb l p e s m args below meth c H locs ls D AC ad tn X hK hN hi hW hS hl)
  case ifnull off =>
    obtain ⟨h1, h2⟩ := and_okb hok
    have h2 := of_decide_eq_true h2
    subst h1
    obtain ⟨st, rfl, h⟩ | ⟨x, st, rfl, h⟩ := pN_e h
    · obtain rfl := nx_e h
      intro l p e s m args below meth c H locs ls D AC ad tn X hK hN hi hW hS hl
      exact lv_ifnullN X.1 X.2.1 hdg h2 (hb l p e s m args below meth c H locs ls D AC ad tn X hK hN hi hW hS hl)
    · obtain rfl := nx_e h
      intro l p e s m args below meth c H locs ls D AC ad tn X hK hN hi hW hS hl
      exact lv_ifnull X.1 X.2.1 hdg (hb l p e s m args below meth c H locs ls D AC ad tn X hK hN hi hW hS hl)
  case ifnonnull off =>
    obtain ⟨h1, h2⟩ := and_okb hok
    have h2 := of_decide_eq_true h2
    subst h1
    obtain ⟨st, rfl, h⟩ | ⟨x, st, rfl, h⟩ := pN_e h
    · obtain rfl := nx_e h
      intro l p e s m args below meth c H locs ls D AC ad tn X hK hN hi hW hS hl
      exact lv_ifnonnullN X.1 X.2.1 hdg (hb l p e s m args below meth c H locs ls D AC ad tn X hK hN hi hW hS hl)
    · obtain rfl := nx_e h
      intro l p e s m args below meth c H locs ls D AC ad tn X hK hN hi hW hS hl
      exact lv_ifnonnull X.1 X.2.1 hdg h2 (hb l p e s m args below meth c H locs ls D AC ad tn X hK hN hi hW hS hl)
  case tableswitch d lo hh offs =>
    obtain ⟨x, st, rfl, h⟩ := pI_e h
    simp only [okI] at hok
    split at hok
    · rename_i zz t ts h0
      obtain ⟨g1, g2, g3, g4, g5, g6⟩ := and_ok6 hok
      subst g2 g3
      obtain rfl := sj_e h0
      obtain ⟨w1, w2⟩ := swo_e g5
      obtain ⟨s1, s2⟩ := swl_P (x := x) ts 0 nI_0.symm (by omega) hb
      intro l p e s m args below meth c H locs ls D AC ad tn X hK hN hi hW hS hl
      by_cases hx : x.toInt < 0 ∨ hh < x.toInt
      · refine lv_tableOut X.1 X.2.1 hdg hx (of_decide_eq_true g1) (s2 (fun j hj e => ?_) l p e s m args below meth c H locs ls D AC ad tn X hK hN hi hW hS hl)
        rw [e, Nat.zero_add, nI_toInt (by omega)] at hx
        omega
      · obtain ⟨h1, h2⟩ := not_or.mp hx
        obtain ⟨j, hj, rfl⟩ := nI_of (x := x) (fun q => h1 (by have := Int32.lt_iff_toInt_lt.mp q; simpa using this))
        rw [nI_toInt hj] at h1 h2
        have hjl : j < offs.toList.length := by omega
        have e1 : offs.toList[j]? = some offs.toList[j] := List.getElem?_eq_getElem hjl
        have e2 : ts[j]? = some (ts[j]'(by omega)) := List.getElem?_eq_getElem (by omega)
        refine lv_tableIn X.1 X.2.1 hdg (by rw [nI_toInt hj]; omega) (by rw [nI_toInt hj]; omega) (off := offs.toList[j]) ?_ (w2 j _ _ e1 e2) (s1 j _ e2 (by rw [Nat.zero_add]) l p e s m args below meth c H locs ls D AC ad tn X hK hN hi hW hS hl)
        rw [nI_toInt hj]
        simpa using e1
    · cases hok
  case getfield ix =>
    obtain ⟨k, st, rfl, h⟩ := pA_e h
    obtain ⟨hg, rfl⟩ := ng_e h
    obtain ⟨h1, h7, hj, hr, hw⟩ := and_okf hok
    subst h1
    obtain ⟨hEk, hg⟩ := Bool.and_eq_true_iff.mp hg
    have hk := isO_e hg
    have hkl := hE k hEk (sh_lt (k := k) (by omega))
    intro l p e s m args below meth c H locs ls D AC ad tn X hK hN hi hW hS hl
    cases er : Nat.beq (o3 ops) 1
    · rw [er] at hr
      simp only [er, cond_false] at hb
      exact r_gi X hK hW hk hkl rfl (cl_at h7) (clW h7) hj hr (flL_in hid hw) hdg (hb l p e s m args below meth c H locs ls D AC ad tn X hK hN hi hW hS hl)
    · rw [er] at hr
      simp only [er, cond_true] at hb
      exact r_gr X hK hW hk hkl rfl (cl_at h7) (clW h7) hj hr (flL_in hid hw) hdg (hb l p e s m args below meth c H locs ls D AC ad tn X hK hN hi hW hS hl)
  case putfield ix =>
    obtain ⟨x, st, rfl, h⟩ := pI_e h
    obtain ⟨k, st, rfl, h⟩ := pA_e h
    obtain ⟨hg, rfl⟩ := ng_e h
    obtain ⟨hg, hz⟩ := Bool.and_eq_true_iff.mp hg
    obtain ⟨h1, h7, hj, hr, ht, hf, hw⟩ := and_okp hok
    subst h1
    obtain ⟨hEk, hg⟩ := Bool.and_eq_true_iff.mp hg
    have hk := isO_e hg
    have hkl := hE k hEk (sh_lt (k := k) (by omega))
    intro l p e s m args below meth c H locs ls D AC ad tn X hK hN hi hW hS hl
    have hty : narrow (fYl (o0 ops) (o1 ops)) (.int x) = .int x ∧ fits (fYl (o0 ops) (o1 ops)) (.int x) = true := by
      rw [ht]
      cases er : Nat.beq (o3 ops) 1
      · exact ⟨rfl, rfl⟩
      · rw [er] at hz
        rcases isb_or hz with rfl | rfl <;> exact ⟨rfl, rfl⟩
    exact r_pi hi X hK hW hS (fYl (o0 ops)) (fYl_ok h7) (fNm_ok h7) hk hkl rfl (cl_at h7) (clW h7) hj hr hf (fYl_ok h7 _ hj) hty.1 hty.2 (flL_in hid hw) hdg (fun H1 locs1 hW hS => hb l p e s m args below meth c H1 locs1 ls D AC ad tn X hK hN hi hW hS hl)
  case getstatic ix =>
    obtain rfl := nx_e h
    obtain ⟨h1, h2⟩ := and_okb hok
    subst h1
    intro l p e s m args below meth c H locs ls D AC ad tn X hK hN hi hW hS hl
    exact va_gets X.1 X.2.1 hN.1 hS X.2.2.2.1 (X.2.2.2.2.1 _ (gsL_in hid (of_decide_eq_true h2))) (fun _ h => h) hdg (hb l p e s m args below meth c H locs ls D AC ad tn X hK hN hi hW hS hl)
  case iaload =>
    obtain ⟨i, st, rfl, h⟩ := pI_e h
    obtain ⟨z, st, rfl, h⟩ | ⟨k, st, rfl, h⟩ := pT_e h
    · obtain ⟨hg, rfl⟩ := ng_e h
      have hn := of_decide_eq_true hok
      subst hn
      intro l p e s m args below meth c H locs ls D AC ad tn X hK hN hi hW hS hl
      exact va_ti X.1 X.2.1 hN.2 hS (inb_in hg) rfl hdg (hb l p e s m args below meth c H locs ls D AC ad tn X hK hN hi hW hS hl)
    · obtain ⟨hg, rfl⟩ := ng_e h
      have hn := of_decide_eq_true hok
      subst hn
      obtain ⟨hEk, hg⟩ := Bool.and_eq_true_iff.mp hg
      obtain ⟨hk, hin⟩ := lnI_e hg
      intro l p e s m args below meth c H locs ls D AC ad tn X hK hN hi hW hS hl
      exact r_ia X hK hW hk (hE k hEk (sh_lt (by omega))) hin hdg (hb l p e s m args below meth c H locs ls D AC ad tn X hK hN hi hW hS hl)
  case baload =>
    obtain ⟨i, st, rfl, h⟩ := pI_e h
    obtain ⟨k, st, rfl, h⟩ := pA_e h
    obtain ⟨hg, rfl⟩ := ng_e h
    have hn := of_decide_eq_true hok
    subst hn
    obtain ⟨hEk, hg⟩ := Bool.and_eq_true_iff.mp hg
    obtain ⟨hk, hin⟩ := lnZ_e hg
    intro l p e s m args below meth c H locs ls D AC ad tn X hK hN hi hW hS hl
    exact r_za X hK hW hk (hE k hEk (sh_lt (by omega))) hin hdg (hb l p e s m args below meth c H locs ls D AC ad tn X hK hN hi hW hS hl)
  case laload =>
    obtain ⟨i, st, rfl, h⟩ := pI_e h
    obtain ⟨k, st, rfl, h⟩ := pA_e h
    obtain ⟨hg, rfl⟩ := ng_e h
    have hn := of_decide_eq_true hok
    subst hn
    obtain ⟨hEk, hg⟩ := Bool.and_eq_true_iff.mp hg
    obtain ⟨hk, hin⟩ := lnL_e hg
    intro l p e s m args below meth c H locs ls D AC ad tn X hK hN hi hW hS hl
    exact r_la X hK hW hk (hE k hEk (sh_lt (by omega))) hin hdg (hb l p e s m args below meth c H locs ls D AC ad tn X hK hN hi hW hS hl)
  case aaload =>
    obtain ⟨i, st, rfl, h⟩ := pI_e h
    obtain ⟨k, st, rfl, h⟩ := pA_e h
    obtain ⟨hg, rfl⟩ := ng_e h
    have hn := of_decide_eq_true hok
    subst hn
    obtain ⟨hEk, hg⟩ := Bool.and_eq_true_iff.mp hg
    obtain ⟨h1, h2, hin⟩ := lnQ_e hg
    intro l p e s m args below meth c H locs ls D AC ad tn X hK hN hi hW hS hl
    exact r_qa X hK hW h1 h2 (hE k hEk (sh_lt (by omega))) hin hdg (hb l p e s m args below meth c H locs ls D AC ad tn X hK hN hi hW hS hl)
  case iastore =>
    obtain ⟨x, st, rfl, h⟩ := pI_e h
    obtain ⟨i, st, rfl, h⟩ := pI_e h
    obtain ⟨k, st, rfl, h⟩ := pA_e h
    obtain ⟨hg, rfl⟩ := ng_e h
    have hn := of_decide_eq_true hok
    subst hn
    obtain ⟨hEk, hg⟩ := Bool.and_eq_true_iff.mp hg
    obtain ⟨hk, hin⟩ := lnI_e hg
    intro l p e s m args below meth c H locs ls D AC ad tn X hK hN hi hW hS hl
    exact r_is hi X hK hW hS hk (hE k hEk (sh_lt (by omega))) hin hdg (fun H1 locs1 hW hS => hb l p e s m args below meth c H1 locs1 ls D AC ad tn X hK hN hi hW hS hl)
  case lastore =>
    obtain ⟨x, st, rfl, h⟩ := pJ_e h
    obtain ⟨i, st, rfl, h⟩ := pI_e h
    obtain ⟨k, st, rfl, h⟩ := pA_e h
    obtain ⟨hg, rfl⟩ := ng_e h
    have hn := of_decide_eq_true hok
    subst hn
    obtain ⟨hEk, hg⟩ := Bool.and_eq_true_iff.mp hg
    obtain ⟨hk, hin⟩ := lnL_e hg
    intro l p e s m args below meth c H locs ls D AC ad tn X hK hN hi hW hS hl
    exact r_ls hi X hK hW hS hk (hE k hEk (sh_lt (by omega))) hin hdg (fun H1 locs1 hW hS => hb l p e s m args below meth c H1 locs1 ls D AC ad tn X hK hN hi hW hS hl)
  case bastore =>
    obtain ⟨x, st, rfl, h⟩ := pI_e h
    obtain ⟨i, st, rfl, h⟩ := pI_e h
    obtain ⟨k, st, rfl, h⟩ := pA_e h
    obtain ⟨hg, rfl⟩ := ng_e h
    obtain ⟨hg, hz⟩ := Bool.and_eq_true_iff.mp hg
    have hn := of_decide_eq_true hok
    subst hn
    obtain ⟨hEk, hg⟩ := Bool.and_eq_true_iff.mp hg
    obtain ⟨hk, hin⟩ := lnZ_e hg
    intro l p e s m args below meth c H locs ls D AC ad tn X hK hN hi hW hS hl
    exact r_zs hi X hK hW hS hk (hE k hEk (sh_lt (by omega))) hin (by rcases isb_or hz with rfl | rfl <;> rfl) hdg (fun H1 locs1 hW hS => hb l p e s m args below meth c H1 locs1 ls D AC ad tn X hK hN hi hW hS hl)
  case arraylength =>
    obtain ⟨z, st, rfl, h⟩ | ⟨k, st, rfl, h⟩ := pT_e h
    · obtain rfl := nx_e h
      have hn := of_decide_eq_true hok
      subst hn
      intro l p e s m args below meth c H locs ls D AC ad tn X hK hN hi hW hS hl
      exact va_tlen X.1 X.2.1 hN.2 hS rfl hdg (hb l p e s m args below meth c H locs ls D AC ad tn X hK hN hi hW hS hl)
    · obtain ⟨hg, rfl⟩ := ng_e h
      have hn := of_decide_eq_true hok
      subst hn
      obtain ⟨hEk, hg⟩ := Bool.and_eq_true_iff.mp hg
      have hk := Nat.le_of_ble_eq_true hg
      intro l p e s m args below meth c H locs ls D AC ad tn X hK hN hi hW hS hl
      exact r_len X hK hW hk (hE k hEk (sh_lt (by omega))) hdg (hb l p e s m args below meth c H locs ls D AC ad tn X hK hN hi hW hS hl)
  case invokevirtual ix =>
    obtain ⟨h1, h2⟩ := and_okb hok
    subst h1
    split at h2
    · rename_i c0 n rt ci mx wl
      obtain ⟨k, as, st', bs, hst, has, hlen, hEk, hk, hc8, hcm, rfl⟩ := iv_e h
      obtain ⟨q1, q3, q4, q5, q6, q7, q8⟩ := and_okv h2
      obtain ⟨g1, g2, g3, -, g5, g6, g7, g8⟩ := mw_all q8
      have q2 := g6
      have q9 := g5 q7
      subst q1 q6
      obtain ⟨w, μ2, hR, hM, hb⟩ := hb
      have hk := isO_e hk
      have hkl := hE k hEk (sh_lt (k := k) (by omega))
      intro l p e s m args below meth c H locs ls D AC ad tn X hK hN hi hW hS hl
      have hMM : MM ks (pY c0) (pB c0) (pM c0) (pR c0) (pK c0 (.ref k :: as)) (.ref k :: as) μ w μ2 := mm_snd q2 hcm hM
      refine cMV X hK hN hi hW hS hMM hk hkl (by rw [cl_at q3, g3, q4, ciO_ok q3]) g1 (mlL_in hid q5) g2 q9.1 q9.2 g7 (by rw [has]; simpa using hlen) hR g8 hl.1 (rest := st'.map (rv ad tn)) (by rw [hst, has]; simp [rv]) (by rw [rv_sum, ← csum_eq]; exact hc8) hdg (fun H1 locs1 hW hS => ?_)
      have h9 := hb l p e s m args below meth c H1 locs1 ls D AC ad tn X hK hN hi hW hS hl
      rwa [show (w.map (rv ad tn)).toList ++ st'.map (rv ad tn) = (w.toList ++ st').map (rv ad tn) by cases w <;> rfl]
    · cases h2
  case invokestatic ix =>
    obtain ⟨h1, h2⟩ := and_okb hok
    subst h1
    split at h2
    · rename_i c0 n rt ci mx wl
      cases e1 : Nat.ble 1000 c0
      · rw [e1, cond_false] at h2
        obtain ⟨as, st', bs, hst, has, hlen, hc8, hcm, rfl⟩ := is_e e1 h
        obtain ⟨q1, q5, q6, q7, q8⟩ := and_oks h2
        obtain ⟨g1, g2, g3, g4, -, g6, g7, g8⟩ := mw_all q8
        have q2 := g6
        have q9 := g4 q7
        subst q1 q6
        obtain ⟨w, μ2, hR, hM, hb⟩ := hb
        intro l p e s m args below meth c H locs ls D AC ad tn X hK hN hi hW hS hl
        have hMM : MM ks (pY c0) (pB c0) (pM c0) (pR c0) (pK c0 as) as μ w μ2 := mm_snd q2 hcm hM
        refine cMS X hK hN hi hW hS hMM g1 (mlL_in hid q5) g2 q9 g7 (by rw [has]; simpa using hlen) hR g8 hl.1 (rest := st'.map (rv ad tn)) (by rw [hst, has]; simp) (by rw [rv_sum, ← csum_eq]; exact hc8) hdg (fun H1 locs1 hW hS => ?_)
        have h9 := hb l p e s m args below meth c H1 locs1 ls D AC ad tn X hK hN hi hW hS hl
        rwa [show (w.map (rv ad tn)).toList ++ st'.map (rv ad tn) = (w.toList ++ st').map (rv ad tn) by cases w <;> rfl]
      · rw [e1, cond_true] at h2
        obtain ⟨q1, q2, -⟩ := and_okn h2
        exact absurd q1 (by simp [nlL])
    · cases h2
  case lreturn =>
    simp only [stp] at h
    split at h
    · cases h
      obtain ⟨h1, h2⟩ := and_ok hok
      subst h1
      cases hb
      intro l p e s m args below meth c H locs ls D AC ad tn X hK hN hi hW hS hl
      exact em_l (by rw [← h2]; exact X) hW hS hdg
    · cases h
  case freturn =>
    simp only [stp] at h
    split at h
    · cases h
      obtain ⟨h1, h2⟩ := and_ok hok
      subst h1
      cases hb
      intro l p e s m args below meth c H locs ls D AC ad tn X hK hN hi hW hS hl
      exact em_f (by rw [← h2]; exact X) hW hS hdg
    · cases h
  case dreturn =>
    simp only [stp] at h
    split at h
    · cases h
      obtain ⟨h1, h2⟩ := and_ok hok
      subst h1
      cases hb
      intro l p e s m args below meth c H locs ls D AC ad tn X hK hN hi hW hS hl
      exact em_d (by rw [← h2]; exact X) hW hS hdg
    · cases h
  case ireturn =>
    simp only [stp] at h
    split at h
    · rename_i x
      have hg : bitOr (Nat.beq (o0 ops) 1) x = true := congrArg (fun z => (z.getD (false, .inr (.inr (none, μ)))).1) h
      rw [hg] at h
      cases h
      obtain ⟨h1, h2⟩ := and_ok hok
      subst h1
      cases hb
      intro l p e s m args below meth c H locs ls D AC ad tn X hK hN hi hW hS hl
      cases er : Nat.beq (o0 ops) 1
      · rw [er] at h2
        exact em_i (by have X := X; rw [h2] at X; exact X) hW hS hdg
      · rw [er] at h2 hg
        exact em_z (by have X := X; rw [h2] at X; exact X) hW hS (isb_or hg) hdg
    · cases h
  case areturn =>
    simp only [stp] at h
    obtain ⟨h1, h2⟩ := and_okb hok
    subst h1
    have hrt : ∃ rt, pR q.1 = some rt ∧ ((∃ n, rt = .object n) ∨ ∃ t, rt = .array t) := by
      split at h2
      · rename_i n e0; exact ⟨_, e0, Or.inl ⟨_, rfl⟩⟩
      · rename_i n e0; exact ⟨_, e0, Or.inr ⟨_, rfl⟩⟩
      · cases h2
    obtain ⟨rt, e0, hrt⟩ := hrt
    split at h
    · cases h
      cases hb
      intro l p e s m args below meth c H locs ls D AC ad tn X hK hN hi hW hS hl
      exact em_a (by have X := X; rw [e0] at X; exact X) hrt (Or.inr ⟨_, rfl⟩) hW hS hdg
    · cases h
      cases hb
      intro l p e s m args below meth c H locs ls D AC ad tn X hK hN hi hW hS hl
      exact em_a (by have X := X; rw [e0] at X; exact X) hrt (Or.inl rfl) hW hS hdg
    · cases h
  case return_ =>
    simp only [stp] at h
    split at h
    · cases h
      obtain ⟨h1, h2⟩ := and_ok hok
      subst h1
      cases hb
      intro l p e s m args below meth c H locs ls D AC ad tn X hK hN hi hW hS hl
      exact em_v (by have X := X; rw [h2] at X; exact X) hW hS hdg
    · cases h
  all_goals exact no_e h
theorem act_Hb {ks : List Nat} {rec f : St → Option Rs} (h1 : Snds ks rec) (h2 : Snds ks f) {d : Nat} {a : Act} {r : Rs} (h : act rec f d a = some r) : Hb ks r d a := by
  obtain ⟨l, s⟩ | ⟨c, as, μ, rt, kn⟩ | r' := a
  · exact brs_P (snd_gw h1 h2) l s h
  · obtain ⟨g1, g2⟩ := gd_e h
    obtain ⟨w, μ', e, hk⟩ := cal_e g2
    exact ⟨w, μ', Nat.le_of_ble_eq_true g1, h1 _ _ e, snd_gw h1 h2 _ _ hk⟩
  · cases h
    rfl
theorem snd_ex1 {E : Nat → Bool} {ks : List Nat} (hE : ∀ k, E k = true → k < NN → k ∈ ks) {rec f : St → Option Rs} (h1 : Snds ks rec) (h2 : Snds ks f) : Snds ks (ex1 E rec f) := by
  intro s r h
  unfold ex1 at h
  split at h
  · cases h
  · rename_i i len ops v e1
    split at h
    · cases h
    · rename_i g a e2
      obtain ⟨g1, g2⟩ := gd_e h
      subst g1
      obtain ⟨k0, k1, k2⟩ := pF_ok e1
      exact stp_snd hE k0 k1 k2 e2 (act_Hb h1 h2 g2)
theorem snd_ex {E : Nat → Bool} {ks : List Nat} (hE : ∀ k, E k = true → k < NN → k ∈ ks) {rec : St → Option Rs} (h1 : Snds ks rec) : ∀ k, Snds ks (ex E rec k)
  | 0 => fun _ _ h => by cases h
  | k + 1 => snd_ex1 hE h1 (snd_ex hE h1 k)
theorem snd_exN {E : Nat → Bool} {ks : List Nat} (hE : ∀ k, E k = true → k < NN → k ∈ ks) : ∀ n, Snds ks (exN E n)
  | 0 => fun _ _ h => by cases h
  | n + 1 => fun s r h => snd_ex hE (snd_exN hE n) KK s r ((exN_s n s).symm.trans h)
theorem snd_sem {E : Nat → Bool} {ks : List Nat} (hE : ∀ k, E k = true → k < NN → k ∈ ks) : Snds ks (sem E) := fun s r h => by
  obtain ⟨n, hn⟩ := sem_iff.mp h
  exact snd_exN hE n s r hn
/-- what the function says of a method is its contract -/
theorem met_sem {E : Nat → Bool} {ks : List Nat} (hE : ∀ k, E k = true → k < NN → k ∈ ks) {c : Nat} {as : List Value} {μ μ2 : Mm} {w : Option Value} (hy : plainFor (pY c) = true) (hcm : csum as ≤ pM c) (h : sem E (ent c as μ) = some (w, μ2)) : MM ks (pY c) (pB c) (pM c) (pR c) (pK c as) as μ w μ2 := mm_snd hy hcm (snd_sem hE _ _ h)
