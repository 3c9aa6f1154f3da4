/-! calls from makers and from the law: more room, more free places -/
section CALLR
variable {p : Program} {l : Launch} {e : Env} {R : Room} {s : State} {m : MethodId} {args : Array Value} {below : List Frame} {meth : Method} {c : Code} {H : Heap} {locs : List Loc} {cells slots : Nat} {Q : State → Prop}
variable {own : String} {cc : ByteArray} {nL : Nat} {ret ret' : Option FieldType} {pc : Nat} {ls : Array Slot} {rest st0 : List Value}
variable {ks : List Nat} {D : va_G} {AC : Nat → ClassId} {ad : Nat → Nat} {tn : Nat} {μ μ' : Mm} {A : Nat → Prop} {y : MethodName} {bytes : ByteArray} {maxL d : Nat} {r : Option Value}
theorem k_mR {A0 : Nat → Prop} {As : List Value} {F : Heap → Prop} {r : Option Value} {free : Addr → Prop} (hr : va_Run p l e R s m args below meth c H locs cells slots 0 0 (F0 m pc ls st0) rest (QM A0 F r As.toArray) free) (hA : ∀ q, A0 q → A q) (hfr : ∀ q, free q → A q) (hS : va_S A s.heap H locs)
    (kk : ∀ (t : State) (locs1 : List Loc), F t.heap → s.vm.Alike t.vm → va_S A s.heap t.heap locs1 → W p l e R s m args below meth c t.heap locs1 cells slots Q (F0 m (pc + 3) ls (r.toList ++ rest))) : W p l e R s m args below meth c H locs cells slots Q (F0 m pc ls st0) := by
  intro T hT Xs
  obtain ⟨v, st₀, t, T', L, h0, X', hL, e1, e2, ⟨hv, hF, hz, hk⟩, st⟩ := hr T hT Xs
  cases hv
  rw [h0] at hz hk
  obtain ⟨t2, a1, b1⟩ := kk t (locs ++ L) hF (by rw [← e2]; exact X'.warmed.alike) ⟨Nat.le_trans hS.1 hz, fun q h1 h2 => (hk q (Nat.lt_of_lt_of_le h1 hS.1) (fun h => h2 (hA q h))).trans (hS.2.1 q h1 h2), fun q hq => (List.mem_append.mp hq).elim (hS.2.2 q) (fun h => hfr _ (hL q h))⟩ T' e1 X'
  exact ⟨t2, st t2 a1, b1⟩
theorem preR {U : State} (hK : va_K D cl (tyL AC) s) (hN : Nst A tn s s.heap) (hA : ∀ q, Ar ks ad q → A q) (hi : adI ks ad) (hW : Wd ks D AC ad μ H) (hS : va_S A s.heap H locs) (hU : U.heap = H) (hw : s.WarmedH U.vm) : PreM ks D AC ad tn μ U := by
  refine ⟨by rw [hU]; exact hW, hK.moved hw.alike, ?_, hi⟩
  rw [hU]
  exact ((hN.kept hS.2.1).moved hw.alike).narrow hA
theorem cBR (hts : ∀ w ∈ LW, w.before args s = true) {index : Nat} (n : Nat) (hc : Cond.code y bytes maxL ret' ∈ LW) (hl : Cond.methodLink own index y ∈ LW) (hi : Cond.initialized y.cls ∈ LW) (hd : y.cls ≠ "java/lang/invoke/MethodHandle" ∧ y.cls ≠ "java/lang/invoke/VarHandle" ∧ (parseMethodDescriptor y.desc).map (fun d => d.parameters.length) = some n) (hR : d + 1 ≤ R.frames) (hm : 8 + (maxL + 11) + 40 * d ≤ R.locals) : CallB R s args own index y bytes maxL ret' (ws_ y bytes maxL ret') (rmd d) 0 0 n :=
  callB_of n hts (LW_gin hc) rfl rfl rfl (hts _ hi) (hts _ hl) hd ⟨hR, hm⟩
theorem cMVR {index k n ci : Nat} {T : u_T} {M : Nat} {As : List Value} (X : Cx p s m args meth c own cc nL ret) (hK : va_K D cl (tyL AC) s) (hN : Nst A tn s s.heap) (hA : ∀ q, Ar ks ad q → A q) (hi : adI ks ad) (hW : Wd ks D AC ad μ H) (hS : va_S A s.heap H locs) (hM : MM ks y bytes maxL ret' d (.ref k :: As) μ r μ')
    (hs : shK k = 10 + ci) (hk : k ∈ ks) (hcl : cl[ci]? = some (y.cls, T, M)) (hc : Cond.code y bytes maxL ret' ∈ LW) (hl : Cond.methodLink own index y ∈ LW) (hini : Cond.initialized y.cls ∈ LW) (hin : Cond.instanceMethod y ∈ LW) (hse : Cond.selects y.cls y y ∈ LW)
    (hd : y.cls ≠ "java/lang/invoke/MethodHandle" ∧ y.cls ≠ "java/lang/invoke/VarHandle" ∧ (parseMethodDescriptor y.desc).map (fun d => d.parameters.length) = some n) (hn : As.length = n) (hR : d + 1 ≤ R.frames) (hm : 8 + (maxL + 11) + 40 * d ≤ R.locals) (hcs : cells + 0 ≤ R.cells ∧ slots + 0 ≤ R.slots) (hls : ls.size = nL) (hst : st0 = (As.map (rv ad tn)).reverse ++ .ref (ad k) :: rest) (hcat : (rest.map fun v => v.category).sum ≤ 8) (hdg : decode cc pc = .ok (.invokevirtual index, 3))
    (kk : ∀ (H1 : Heap) (locs1 : List Loc), Wd ks D AC ad μ' H1 → va_S A s.heap H1 locs1 → W p l e R s m args below meth c H1 locs1 cells slots Q (F0 m (pc + 3) ls ((r.map (rv ad tn)).toList ++ rest))) : W p l e R s m args below meth c H locs cells slots Q (F0 m pc ls st0) := by
  obtain ⟨q0, hq0⟩ := ks_ix hk
  refine k_mR (va_runV (As := As.map (rv ad tn)) (rest := rest) (C := y.cls) ⟨X.1, X.2.1, X.2.2.1, X.2.2.2.1, X.2.2.2.2.1⟩ (hM l D AC ad tn) ⟨cBR X.2.2.2.2.1 n hc hl hini hd hR hm, X.2.2.2.2.1 _ hin, X.2.2.2.2.1 _ hse⟩ ⟨blindM _, va_recv hK hW hcl ((wl_at hq0).trans (by rw [cE_o hs])), fun U hU hw => ⟨rfl, preR hK hN hA hi hW hS hU hw⟩⟩ rfl (by rw [List.length_map]; exact hn) hls hst (lv_room hcat) hdg hcs) hA hA hS (fun t locs1 hF _ hS1 => ?_)
  exact kk t.heap locs1 hF hS1
end CALLR
section DIST
variable {AC : Nat → ClassId} {ad : Nat → Nat} {μ : Mm} {A : Nat → Prop}
theorem D_to {ws : va_W} (h : va_D A ws) : (ws.map (fun x => x.1)).Nodup ∧ ∀ q, q ∈ ws.map (fun x => x.1) → A q := by
  constructor
  · refine List.pairwise_iff_getElem.mpr (fun i j hi hj hij e => ?_)
    have hi' : i < ws.length := by rw [List.length_map] at hi; exact hi
    have hj' : j < ws.length := by rw [List.length_map] at hj; exact hj
    rw [List.getElem_map, List.getElem_map] at e
    have := h.1 i j _ _ (List.getElem?_eq_getElem hi') (List.getElem?_eq_getElem hj') e
    omega
  · intro q hq
    obtain ⟨x, hx, rfl⟩ := List.mem_map.mp hq
    obtain ⟨k, hk⟩ := List.getElem?_of_mem hx
    exact h.2 k x hk
theorem D_from {ws : va_W} (h1 : (ws.map (fun x => x.1)).Nodup) (h2 : ∀ q, q ∈ ws.map (fun x => x.1) → A q) : va_D A ws := by
  refine ⟨fun i j p q hp hq e => ?_, fun k q hk => h2 _ (List.mem_map_of_mem (List.mem_of_getElem? hk))⟩
  have hl : i < (ws.map (fun x => x.1)).length := by
    rw [List.length_map]
    exact (List.getElem?_eq_some_iff.mp hp).1
  refine (List.getElem?_inj hl h1).mp ?_
  rw [List.getElem?_map, List.getElem?_map, hp, hq]
  exact congrArg some e
theorem D_mid {x : Nat × va_E} {a b : va_W} (h : va_D A (x :: (a ++ b))) : va_D A (a ++ x :: b) := by
  obtain ⟨h1, h2⟩ := D_to h
  have hp : ((x :: (a ++ b)).map (fun x => x.1)).Perm ((a ++ x :: b).map (fun x => x.1)) := (List.perm_middle.symm).map _
  exact D_from (hp.nodup_iff.mp h1) (fun q hq => h2 q (hp.mem_iff.mpr hq))
theorem adI_of {ks : List Nat} (hk : ks.Nodup) (h : va_D A (wl ks AC ad μ)) : adI ks ad := ⟨hk, fun i j hi hj e => by
    obtain ⟨x, hx2⟩ := List.getElem?_of_mem hi
    obtain ⟨y, hy2⟩ := List.getElem?_of_mem hj
    have w1 := wl_at (AC := AC) (ad := ad) (μ := μ) hx2
    have w2 := wl_at (AC := AC) (ad := ad) (μ := μ) hy2
    have := h.1 x y _ _ w1 w2 e
    subst this
    exact Option.some.inj (hx2.symm.trans hy2)⟩
theorem Ar_of {ks : List Nat} (h : va_D A (wl ks AC ad μ)) : ∀ q, Ar ks ad q → A q := fun q hq => by
    obtain ⟨k, hk, rfl⟩ := hq
    obtain ⟨x, hx2⟩ := List.getElem?_of_mem hk
    exact h.2 x _ (wl_at (AC := AC) (ad := ad) (μ := μ) hx2)
theorem rng_0 (n : Nat) : rng 0 n = List.range n := by
  unfold rng
  conv => rhs; rw [← List.map_id (List.range n)]
  exact List.map_congr_left (fun i _ => Nat.zero_add i)
end DIST
