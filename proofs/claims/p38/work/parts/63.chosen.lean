theorem zw28 : Jvm.Cond.classLink "TypesInside$Counts" 21 "[[J" ∈ LW := lc1 28 rfl rfl
theorem zd_Co_chosenTable_0 : decode prog_3_method_2_code 0 = .ok (.bipush 36, 2) := by decide +kernel
theorem zd_Co_chosenTable_2 : decode prog_3_method_2_code 2 = .ok (.bipush 7, 2) := by decide +kernel
theorem zd_Co_chosenTable_4 : decode prog_3_method_2_code 4 = .ok (.multianewarray 21 2, 4) := by decide +kernel
theorem zd_Co_chosenTable_8 : decode prog_3_method_2_code 8 = .ok (.astore_n 0, 1) := by decide +kernel
theorem zd_Co_chosenTable_9 : decode prog_3_method_2_code 9 = .ok (.iconst 0, 1) := by decide +kernel
theorem zd_Co_chosenTable_10 : decode prog_3_method_2_code 10 = .ok (.istore_n 1, 1) := by decide +kernel
theorem zd_Co_chosenTable_11 : decode prog_3_method_2_code 11 = .ok (.iload_n 1, 1) := by decide +kernel
theorem zd_Co_chosenTable_12 : decode prog_3_method_2_code 12 = .ok (.bipush 6, 2) := by decide +kernel
theorem zd_Co_chosenTable_14 : decode prog_3_method_2_code 14 = .ok (.if_icmp .ge 110, 3) := by decide +kernel
theorem zd_Co_chosenTable_17 : decode prog_3_method_2_code 17 = .ok (.aload_n 0, 1) := by decide +kernel
theorem zd_Co_chosenTable_18 : decode prog_3_method_2_code 18 = .ok (.iload_n 1, 1) := by decide +kernel
theorem zd_Co_chosenTable_19 : decode prog_3_method_2_code 19 = .ok (.bipush 6, 2) := by decide +kernel
theorem zd_Co_chosenTable_21 : decode prog_3_method_2_code 21 = .ok (.imul, 1) := by decide +kernel
theorem zd_Co_chosenTable_22 : decode prog_3_method_2_code 22 = .ok (.aaload, 1) := by decide +kernel
theorem zd_Co_chosenTable_23 : decode prog_3_method_2_code 23 = .ok (.iconst 0, 1) := by decide +kernel
theorem zd_Co_chosenTable_24 : decode prog_3_method_2_code 24 = .ok (.lconst 1, 1) := by decide +kernel
theorem zd_Co_chosenTable_25 : decode prog_3_method_2_code 25 = .ok (.lastore, 1) := by decide +kernel
theorem zd_Co_chosenTable_26 : decode prog_3_method_2_code 26 = .ok (.iconst 1, 1) := by decide +kernel
theorem zd_Co_chosenTable_27 : decode prog_3_method_2_code 27 = .ok (.istore_n 2, 1) := by decide +kernel
theorem zd_Co_chosenTable_28 : decode prog_3_method_2_code 28 = .ok (.iload_n 2, 1) := by decide +kernel
theorem zd_Co_chosenTable_29 : decode prog_3_method_2_code 29 = .ok (.iload_n 1, 1) := by decide +kernel
theorem zd_Co_chosenTable_30 : decode prog_3_method_2_code 30 = .ok (.if_icmp .gt 88, 3) := by decide +kernel
theorem zd_Co_chosenTable_33 : decode prog_3_method_2_code 33 = .ok (.aload_n 0, 1) := by decide +kernel
theorem zd_Co_chosenTable_34 : decode prog_3_method_2_code 34 = .ok (.iload_n 1, 1) := by decide +kernel
theorem zd_Co_chosenTable_35 : decode prog_3_method_2_code 35 = .ok (.iconst 1, 1) := by decide +kernel
theorem zd_Co_chosenTable_36 : decode prog_3_method_2_code 36 = .ok (.isub, 1) := by decide +kernel
theorem zd_Co_chosenTable_37 : decode prog_3_method_2_code 37 = .ok (.bipush 6, 2) := by decide +kernel
theorem zd_Co_chosenTable_39 : decode prog_3_method_2_code 39 = .ok (.imul, 1) := by decide +kernel
theorem zd_Co_chosenTable_40 : decode prog_3_method_2_code 40 = .ok (.iload_n 2, 1) := by decide +kernel
theorem zd_Co_chosenTable_41 : decode prog_3_method_2_code 41 = .ok (.iadd, 1) := by decide +kernel
theorem zd_Co_chosenTable_42 : decode prog_3_method_2_code 42 = .ok (.iconst 1, 1) := by decide +kernel
theorem zd_Co_chosenTable_43 : decode prog_3_method_2_code 43 = .ok (.isub, 1) := by decide +kernel
theorem zd_Co_chosenTable_44 : decode prog_3_method_2_code 44 = .ok (.aaload, 1) := by decide +kernel
theorem zd_Co_chosenTable_45 : decode prog_3_method_2_code 45 = .ok (.astore_n 3, 1) := by decide +kernel
theorem zd_Co_chosenTable_46 : decode prog_3_method_2_code 46 = .ok (.aload_n 0, 1) := by decide +kernel
theorem zd_Co_chosenTable_47 : decode prog_3_method_2_code 47 = .ok (.iload_n 1, 1) := by decide +kernel
theorem zd_Co_chosenTable_48 : decode prog_3_method_2_code 48 = .ok (.iconst 1, 1) := by decide +kernel
theorem zd_Co_chosenTable_49 : decode prog_3_method_2_code 49 = .ok (.isub, 1) := by decide +kernel
theorem zd_Co_chosenTable_50 : decode prog_3_method_2_code 50 = .ok (.bipush 6, 2) := by decide +kernel
theorem zd_Co_chosenTable_52 : decode prog_3_method_2_code 52 = .ok (.imul, 1) := by decide +kernel
theorem zd_Co_chosenTable_53 : decode prog_3_method_2_code 53 = .ok (.iload_n 2, 1) := by decide +kernel
theorem zd_Co_chosenTable_54 : decode prog_3_method_2_code 54 = .ok (.iadd, 1) := by decide +kernel
theorem zd_Co_chosenTable_55 : decode prog_3_method_2_code 55 = .ok (.aaload, 1) := by decide +kernel
theorem zd_Co_chosenTable_56 : decode prog_3_method_2_code 56 = .ok (.astore 4, 2) := by decide +kernel
theorem zd_Co_chosenTable_58 : decode prog_3_method_2_code 58 = .ok (.aload_n 0, 1) := by decide +kernel
theorem zd_Co_chosenTable_59 : decode prog_3_method_2_code 59 = .ok (.iload_n 1, 1) := by decide +kernel
theorem zd_Co_chosenTable_60 : decode prog_3_method_2_code 60 = .ok (.bipush 6, 2) := by decide +kernel
theorem zd_Co_chosenTable_62 : decode prog_3_method_2_code 62 = .ok (.imul, 1) := by decide +kernel
theorem zd_Co_chosenTable_63 : decode prog_3_method_2_code 63 = .ok (.iload_n 2, 1) := by decide +kernel
theorem zd_Co_chosenTable_64 : decode prog_3_method_2_code 64 = .ok (.iadd, 1) := by decide +kernel
theorem zd_Co_chosenTable_65 : decode prog_3_method_2_code 65 = .ok (.aaload, 1) := by decide +kernel
theorem zd_Co_chosenTable_66 : decode prog_3_method_2_code 66 = .ok (.astore 5, 2) := by decide +kernel
theorem zd_Co_chosenTable_68 : decode prog_3_method_2_code 68 = .ok (.iconst 0, 1) := by decide +kernel
theorem zd_Co_chosenTable_69 : decode prog_3_method_2_code 69 = .ok (.istore 6, 2) := by decide +kernel
theorem zd_Co_chosenTable_71 : decode prog_3_method_2_code 71 = .ok (.iload 6, 2) := by decide +kernel
theorem zd_Co_chosenTable_73 : decode prog_3_method_2_code 73 = .ok (.aload 5, 2) := by decide +kernel
theorem zd_Co_chosenTable_75 : decode prog_3_method_2_code 75 = .ok (.arraylength, 1) := by decide +kernel
theorem zd_Co_chosenTable_76 : decode prog_3_method_2_code 76 = .ok (.if_icmp .ge 36, 3) := by decide +kernel
theorem zd_Co_chosenTable_79 : decode prog_3_method_2_code 79 = .ok (.aload 5, 2) := by decide +kernel
theorem zd_Co_chosenTable_81 : decode prog_3_method_2_code 81 = .ok (.iload 6, 2) := by decide +kernel
theorem zd_Co_chosenTable_83 : decode prog_3_method_2_code 83 = .ok (.aload_n 3, 1) := by decide +kernel
theorem zd_Co_chosenTable_84 : decode prog_3_method_2_code 84 = .ok (.iload 6, 2) := by decide +kernel
theorem zd_Co_chosenTable_86 : decode prog_3_method_2_code 86 = .ok (.laload, 1) := by decide +kernel
theorem zd_Co_chosenTable_87 : decode prog_3_method_2_code 87 = .ok (.iload 6, 2) := by decide +kernel
theorem zd_Co_chosenTable_89 : decode prog_3_method_2_code 89 = .ok (.iload_n 2, 1) := by decide +kernel
theorem zd_Co_chosenTable_90 : decode prog_3_method_2_code 90 = .ok (.if_icmp .lt 13, 3) := by decide +kernel
theorem zd_Co_chosenTable_93 : decode prog_3_method_2_code 93 = .ok (.aload 4, 2) := by decide +kernel
theorem zd_Co_chosenTable_95 : decode prog_3_method_2_code 95 = .ok (.iload 6, 2) := by decide +kernel
theorem zd_Co_chosenTable_97 : decode prog_3_method_2_code 97 = .ok (.iload_n 2, 1) := by decide +kernel
theorem zd_Co_chosenTable_98 : decode prog_3_method_2_code 98 = .ok (.isub, 1) := by decide +kernel
theorem zd_Co_chosenTable_99 : decode prog_3_method_2_code 99 = .ok (.laload, 1) := by decide +kernel
theorem zd_Co_chosenTable_100 : decode prog_3_method_2_code 100 = .ok (.goto 4, 3) := by decide +kernel
theorem zd_Co_chosenTable_103 : decode prog_3_method_2_code 103 = .ok (.lconst 0, 1) := by decide +kernel
theorem zd_Co_chosenTable_104 : decode prog_3_method_2_code 104 = .ok (.ladd, 1) := by decide +kernel
theorem zd_Co_chosenTable_105 : decode prog_3_method_2_code 105 = .ok (.lastore, 1) := by decide +kernel
theorem zd_Co_chosenTable_106 : decode prog_3_method_2_code 106 = .ok (.iinc 6 1, 3) := by decide +kernel
theorem zd_Co_chosenTable_109 : decode prog_3_method_2_code 109 = .ok (.goto (-38), 3) := by decide +kernel
theorem zd_Co_chosenTable_112 : decode prog_3_method_2_code 112 = .ok (.iinc 2 1, 3) := by decide +kernel
theorem zd_Co_chosenTable_115 : decode prog_3_method_2_code 115 = .ok (.goto (-87), 3) := by decide +kernel
theorem zd_Co_chosenTable_118 : decode prog_3_method_2_code 118 = .ok (.iinc 1 1, 3) := by decide +kernel
theorem zd_Co_chosenTable_121 : decode prog_3_method_2_code 121 = .ok (.goto (-110), 3) := by decide +kernel
theorem zd_Co_chosenTable_124 : decode prog_3_method_2_code 124 = .ok (.aload_n 0, 1) := by decide +kernel
theorem zd_Co_chosenTable_125 : decode prog_3_method_2_code 125 = .ok (.areturn, 1) := by decide +kernel
/-! the table of choices, as the class makes it -/
theorem tCh_0a : ∀ i, i < 6 → ∀ q, q < 7 → tCh (6 * i) q = if q = 0 then 1 else 0 := by decide +kernel
theorem tCh_0 (i : Nat) (h : i < 6) : tCh (6 * i) 0 = 1 ∧ ∀ q, 1 ≤ q → q < 7 → tCh (6 * i) q = 0 := ⟨tCh_0a i h 0 (by omega), fun q h1 h2 => (tCh_0a i h q h2).trans (if_neg (by omega))⟩
theorem tCh_1a : ∀ i, i < 6 → ∀ j, j < 6 → ∀ k, k < 7 → (1 ≤ j ∧ j ≤ i) → tCh (6 * i + j) k = tCh (6 * (i - 1) + (j - 1)) k + (if k < j then 0 else tCh (6 * (i - 1) + j) (k - j)) := by decide +kernel
theorem tCh_1 (i : Nat) (h : i < 6) (j : Nat) (h1 : 1 ≤ j) (h2 : j ≤ i) (k : Nat) (h3 : k < 7) : tCh (6 * i + j) k = tCh (6 * (i - 1) + (j - 1)) k + (if k < j then 0 else tCh (6 * (i - 1) + j) (k - j)) := tCh_1a i h j (by omega) k h3 ⟨h1, h2⟩
theorem tCh_2a : ∀ i, i < 6 → ∀ j, j < 6 → ∀ q, q < 7 → i < j → tCh (6 * i + j) q = 0 := by decide +kernel
theorem tCh_2 (i : Nat) (h : i < 6) (j : Nat) (h1 : i < j) (h2 : j < 6) (q : Nat) (h3 : q < 7) : tCh (6 * i + j) q = 0 := tCh_2a i h j h2 q h3 h1
/-- so far it is made -/
def SG (r k : Nat) (μ : Mm) : Prop := ∀ r', r' < 36 → ∀ q, q < 7 → μ.2 (3 + r') q = if r' < r ∨ (r' = r ∧ q < k) then tCh r' q else 0
theorem SG.put {r k : Nat} {μ : Mm} (h : SG r k μ) (hr : r < 36) (hk : k < 7) {x : Int64} (hx : x = tCh r k) : SG r (k + 1) (sL μ (3 + r) k x) := fun r' h1 q h2 => by
  by_cases e : r' = r
  · subst e
    rw [sL_s]
    by_cases e2 : q = k
    · subst e2
      rw [uL_s, if_pos (Or.inr ⟨rfl, Nat.lt_succ_self q⟩), hx]
    · rw [uL_o e2, h r' h1 q h2]
      by_cases y : q < k
      · rw [if_pos (Or.inr ⟨rfl, y⟩), if_pos (Or.inr ⟨rfl, by omega⟩)]
      · rw [if_neg (by omega), if_neg (by omega)]
  · rw [sL_o (by omega), h r' h1 q h2]
    by_cases y : r' < r
    · rw [if_pos (Or.inl y), if_pos (Or.inl y)]
    · rw [if_neg (by omega), if_neg (by omega)]
theorem SG.next {r : Nat} {μ : Mm} (h : SG r 7 μ) : SG (r + 1) 0 μ := fun r' h1 q h2 => by
  rw [h r' h1 q h2]
  by_cases y : r' < r + 1
  · rw [if_pos (by omega), if_pos (Or.inl y)]
  · rw [if_neg (by omega), if_neg (by omega)]
theorem SG.row {i : Nat} {μ : Mm} (h : SG (6 * i + i + 1) 0 μ) (hi : i < 6) : SG (6 * (i + 1)) 0 μ := fun r' h1 q h2 => by
  rw [h r' h1 q h2]
  by_cases y : r' < 6 * i + i + 1
  · rw [if_pos (Or.inl y), if_pos (by omega)]
  · rw [if_neg (by omega)]
    by_cases z : r' < 6 * (i + 1)
    · rw [if_pos (Or.inl z)]
      have := tCh_2 i hi (r' - 6 * i) (by omega) (by omega) q h2
      rw [show 6 * i + (r' - 6 * i) = r' by omega] at this
      exact this.symm
    · rw [if_neg (by omega)]
theorem SG.one {i : Nat} {μ : Mm} (h : SG (6 * i) 0 μ) (hi : i < 6) : SG (6 * i + 1) 0 (sL μ (3 + 6 * i) 0 1) := fun r' h1 q h2 => by
  obtain ⟨t0, t1⟩ := tCh_0 i hi
  by_cases e : r' = 6 * i
  · subst e
    rw [sL_s, if_pos (Or.inl (by omega))]
    by_cases e2 : q = 0
    · subst e2
      rw [uL_s, t0]
    · rw [uL_o e2, h _ h1 q h2, if_neg (by omega), t1 q (by omega) h2]
  · rw [sL_o (by omega), h r' h1 q h2]
    by_cases y : r' < 6 * i
    · rw [if_pos (Or.inl y), if_pos (by omega)]
    · rw [if_neg (by omega), if_neg (by omega)]

section CHW
variable {p : Program} {l : Launch} {e : Env} {R : Room} {s : State} {m : MethodId} {args : Array Value} {below : List Frame} {meth : Method} {c : Code} {cells slots : Nat} {Q : State → Prop}
variable {own : String} {cc : ByteArray} {nL : Nat} {ret : Option FieldType} {pc : Nat} {ls : Array Slot} {rest : List Value}
variable {ks : List Nat} {D : va_G} {AC : Nat → ClassId} {ad : Nat → Nat} {μ : Mm} {H : Heap} {locs : List Loc} {A : Nat → Prop}
/-- a write where more than the block may change -/
theorem r_lsA (hi : adI ks ad) (X : Cx p s m args meth c own cc nL ret) (hK : va_K D cl (tyL AC) s) (hW : Wd ks D AC ad μ H) (hS : va_S A s.heap H locs) (hA : ∀ q, Ar ks ad q → A q) {k : Nat} {i : Int32} {x : Int64} (hs : shK k = 1) (hk : k ∈ ks) (hin : vp_in i (shN k)) (hdg : decode cc pc = .ok (.lastore, 1))
    (kk : ∀ (H1 : Heap) (locs1 : List Loc), Wd ks D AC ad (sL μ k i.toNatClampNeg x) H1 → va_S A s.heap H1 locs1 → W p l e R s m args below meth c H1 locs1 cells slots Q (F0 m (pc + 1) ls rest)) : W p l e R s m args below meth c H locs cells slots Q (F0 m pc ls (.long x :: .int i :: .ref (ad k) :: rest)) := by
  obtain ⟨q, hq⟩ := ks_ix hk
  refine va_last X.1 X.2.1 hK hW ((wl_D hi).weaken (fun _ _ _ h => hA _ h)) hS q 1 ((wl_at hq).trans (by rw [cE_l hs])) rfl hin hdg (fun H1 locs1 hP _ hS1 => ?_)
  rw [wl_set (μ' := sL μ k i.toNatClampNeg x) hi hq (by rw [cE_l hs, sL_at]) (fun i hi => cE_sL hi)] at hP
  exact kk H1 locs1 hP hS1
abbrev cTb : ByteArray := prog_3_method_2_code
abbrev cTr : Option FieldType := some (.array (.array .long))
theorem ch_m {r : Nat} (hr : r < 36) : 3 + r ∈ rng 2 37 ∧ shK (3 + r) = 1 ∧ shN (3 + r) = 7 := by
  have K : ∀ r, r < 36 → shK (3 + r) = 1 ∧ shN (3 + r) = 7 := by decide +kernel
  exact ⟨rng_mem.mpr ⟨by omega, by omega⟩, K r hr⟩
theorem ch_s {r : Nat} : sub 2 r = 3 + r := by
  show 2 + 1 + r = 3 + r
  omega
set_option maxHeartbeats 4000000 in
/-- the inner loop -/
theorem ch_k (X : Cx p s m args meth c own cTb 7 cTr) (hK : va_K D cl (tyL AC) s) (hi : adI (rng 2 37) ad) (hA : ∀ q, Ar (rng 2 37) ad q → A q) {i j : Nat} (h1 : 1 ≤ j) (h2 : j ≤ i) (h3 : i < 6)
    (K : ∀ (μ : Mm) (H : Heap) (locs : List Loc) (ls : Array Slot), Wd (rng 2 37) D AC ad μ H → va_S A s.heap H locs → SG (6 * i + j + 1) 0 μ → lv_has ls 7 [(0, .ref (ad 2)), (1, .int (nI i)), (2, .int (nI (j + 1)))] → W p l e R s m args below meth c H locs cells slots Q (F0 m 28 ls [])) :
    ∀ (n k : Nat), k + n = 7 → ∀ (μ : Mm) (H : Heap) (locs : List Loc) (ls : Array Slot), Wd (rng 2 37) D AC ad μ H → va_S A s.heap H locs → SG (6 * i + j) k μ → lv_has ls 7 [(0, .ref (ad 2)), (1, .int (nI i)), (2, .int (nI j)), (3, .ref (ad (3 + (6 * (i - 1) + (j - 1))))), (4, .ref (ad (3 + (6 * (i - 1) + j)))), (5, .ref (ad (3 + (6 * i + j)))), (6, .int (nI k))] → W p l e R s m args below meth c H locs cells slots Q (F0 m 71 ls []) := by
  obtain ⟨a1, a2, a3⟩ := ch_m (r := 6 * (i - 1) + (j - 1)) (by omega)
  obtain ⟨b1, b2, b3⟩ := ch_m (r := 6 * (i - 1) + j) (by omega)
  obtain ⟨c1, c2, c3⟩ := ch_m (r := 6 * i + j) (by omega)
  intro n
  induction n with
  | zero =>
    intro k ee μ H locs ls hW hS hG hl
    obtain rfl : k = 7 := by omega
    refine lv_iload X.1 X.2.1 zd_Co_chosenTable_71 (lv_at hl 6 rfl) ?_
    refine lv_aload X.1 X.2.1 zd_Co_chosenTable_73 (lv_at hl 5 rfl) ?_
    refine r_len X hK hW (by omega) c1 zd_Co_chosenTable_75 ?_
    rw [c3]
    refine lv_icmp_ge (tgt := 112) X.1 X.2.1 zd_Co_chosenTable_76 (by decide) (fun c_1 => ?_) (fun c_1 => absurd (by decide) c_1)
    refine lv_iinc (v := nI (j + 1)) (lv' := [(2, .int (nI (j + 1))), (0, .ref (ad 2)), (1, .int (nI i)), (3, .ref (ad (3 + (6 * (i - 1) + (j - 1))))), (4, .ref (ad (3 + (6 * (i - 1) + j)))), (5, .ref (ad (3 + (6 * i + j)))), (6, .int (nI 7))]) X.1 X.2.1 zd_Co_chosenTable_112 hl (k := 2) rfl (nI_1 j) (by decide) rfl (fun ls hl => ?_)
    refine lv_goto (tgt := 28) X.1 X.2.1 zd_Co_chosenTable_115 (by decide) ?_
    exact K μ H locs ls hW hS hG.next (lv_sub hl [1, 2, 0] rfl)
  | succ n ih =>
    intro k ee μ H locs ls hW hS hG hl
    refine lv_iload X.1 X.2.1 zd_Co_chosenTable_71 (lv_at hl 6 rfl) ?_
    refine lv_aload X.1 X.2.1 zd_Co_chosenTable_73 (lv_at hl 5 rfl) ?_
    refine r_len X hK hW (by omega) c1 zd_Co_chosenTable_75 ?_
    rw [c3]
    refine lv_icmp_ge (tgt := 112) X.1 X.2.1 zd_Co_chosenTable_76 (by decide) (fun c_1 => absurd c_1 (fun z => by
      have := bLt (x := true) (y := false) (show k < 7 by omega) (by omega)
      have hz : ¬ nI k < nI 7 := Int32.not_lt.mpr z
      rw [decide_eq_false hz] at this
      cases this)) (fun c_1 => ?_)
    refine lv_aload X.1 X.2.1 zd_Co_chosenTable_79 (lv_at hl 5 rfl) ?_
    refine lv_iload X.1 X.2.1 zd_Co_chosenTable_81 (lv_at hl 6 rfl) ?_
    refine lv_aload_n X.1 X.2.1 zd_Co_chosenTable_83 rfl (lv_at hl 3 rfl) ?_
    refine lv_iload X.1 X.2.1 zd_Co_chosenTable_84 (lv_at hl 6 rfl) ?_
    have kc : (nI k).toNatClampNeg = k := kl (by omega)
    refine r_la X hK hW a2 a1 (by rw [a3]; exact vp_in_nI (by omega) (by omega)) zd_Co_chosenTable_86 ?_
    refine lv_iload X.1 X.2.1 zd_Co_chosenTable_87 (lv_at hl 6 rfl) ?_
    refine lv_iload_n X.1 X.2.1 zd_Co_chosenTable_89 rfl (lv_at hl 2 rfl) ?_
    rw [kc]
    have t := tCh_1 i h3 j h1 h2 k (by omega)
    have va : μ.2 (3 + (6 * (i - 1) + (j - 1))) k = tCh (6 * (i - 1) + (j - 1)) k := by
      rw [hG _ (by omega) k (by omega), if_pos (Or.inl (by omega))]
    -- behind both roads
    have join : ∀ x : Int64, x = (if k < j then 0 else tCh (6 * (i - 1) + j) (k - j)) → W p l e R s m args below meth c H locs cells slots Q (F0 m 104 ls (.long x :: .long (μ.2 (3 + (6 * (i - 1) + (j - 1))) k) :: .int (nI k) :: .ref (ad (3 + (6 * i + j))) :: [])) := fun x hx => by
      refine lv_ladd X.1 X.2.1 zd_Co_chosenTable_104 ?_
      refine r_lsA hi X hK hW hS hA c2 c1 (by rw [c3]; exact vp_in_nI (by omega) (by omega)) zd_Co_chosenTable_105 (fun H locs hW hS => ?_)
      refine lv_iinc (v := nI (k + 1)) (lv' := [(6, .int (nI (k + 1))), (0, .ref (ad 2)), (1, .int (nI i)), (2, .int (nI j)), (3, .ref (ad (3 + (6 * (i - 1) + (j - 1))))), (4, .ref (ad (3 + (6 * (i - 1) + j)))), (5, .ref (ad (3 + (6 * i + j))))]) X.1 X.2.1 zd_Co_chosenTable_106 hl (k := 6) rfl (nI_1 k) (by decide) rfl (fun ls hl => ?_)
      refine lv_goto (tgt := 71) X.1 X.2.1 zd_Co_chosenTable_109 (by decide) ?_
      rw [kc] at hW
      exact ih (k + 1) (by omega) _ H locs ls hW hS (hG.put (by omega) (by omega) (by rw [va, hx, t])) (lv_sub hl [1, 2, 3, 4, 5, 6, 0] rfl)
    refine lv_icmp_lt (tgt := 103) X.1 X.2.1 zd_Co_chosenTable_90 (by decide) (fun c_2 => ?_) (fun c_2 => ?_)
    · have hkj : k < j := by
        have := c_2
        have e2 : decide (nI k < nI j) = true := decide_eq_true this
        rw [d_lt (by omega) (by omega)] at e2
        exact of_decide_eq_true e2
      refine lv_lconst (v := 0) X.1 X.2.1 zd_Co_chosenTable_103 (by decide) ?_
      exact join 0 (by rw [if_pos hkj])
    · have hkj : ¬ k < j := fun z => c_2 (by
        have e2 : decide (nI k < nI j) = true := by rw [d_lt (by omega) (by omega)]; exact decide_eq_true z
        exact of_decide_eq_true e2)
      refine lv_aload X.1 X.2.1 zd_Co_chosenTable_93 (lv_at hl 4 rfl) ?_
      refine lv_iload X.1 X.2.1 zd_Co_chosenTable_95 (lv_at hl 6 rfl) ?_
      refine lv_iload_n X.1 X.2.1 zd_Co_chosenTable_97 rfl (lv_at hl 2 rfl) ?_
      refine lv_isub X.1 X.2.1 zd_Co_chosenTable_98 ?_
      rw [nI_sub (by omega)]
      refine r_la X hK hW b2 b1 (by rw [b3]; exact vp_in_nI (by omega) (by omega)) zd_Co_chosenTable_99 ?_
      rw [kl (by omega)]
      refine lv_goto (tgt := 104) X.1 X.2.1 zd_Co_chosenTable_100 (by decide) ?_
      exact join (μ.2 (3 + (6 * (i - 1) + j)) (k - j)) (by rw [if_neg hkj, hG _ (by omega) (k - j) (by omega), if_pos (Or.inl (by omega))])

set_option maxHeartbeats 4000000 in
/-- the middle loop -/
theorem ch_j (X : Cx p s m args meth c own cTb 7 cTr) (hK : va_K D cl (tyL AC) s) (hi : adI (rng 2 37) ad) (hA : ∀ q, Ar (rng 2 37) ad q → A q) {i : Nat} (h3 : i < 6)
    (K : ∀ (μ : Mm) (H : Heap) (locs : List Loc) (ls : Array Slot), Wd (rng 2 37) D AC ad μ H → va_S A s.heap H locs → SG (6 * (i + 1)) 0 μ → lv_has ls 7 [(0, .ref (ad 2)), (1, .int (nI (i + 1)))] → W p l e R s m args below meth c H locs cells slots Q (F0 m 11 ls [])) :
    ∀ (n j : Nat), j + n = i + 1 → 1 ≤ j → ∀ (μ : Mm) (H : Heap) (locs : List Loc) (ls : Array Slot), Wd (rng 2 37) D AC ad μ H → va_S A s.heap H locs → SG (6 * i + j) 0 μ → lv_has ls 7 [(0, .ref (ad 2)), (1, .int (nI i)), (2, .int (nI j))] → W p l e R s m args below meth c H locs cells slots Q (F0 m 28 ls []) := by
  have s2 : shK 2 = 3 := rfl
  have n2 : shN 2 = 36 := rfl
  have m2 : 2 ∈ rng 2 37 := rng_mem.mpr ⟨by omega, by omega⟩
  intro n
  induction n with
  | zero =>
    intro j ee h1 μ H locs ls hW hS hG hl
    obtain rfl : j = i + 1 := by omega
    refine lv_iload_n X.1 X.2.1 zd_Co_chosenTable_28 rfl (lv_at hl 2 rfl) ?_
    refine lv_iload_n X.1 X.2.1 zd_Co_chosenTable_29 rfl (lv_at hl 1 rfl) ?_
    refine lv_icmp_gt (tgt := 118) X.1 X.2.1 zd_Co_chosenTable_30 (by decide) (fun _ => ?_) (fun c_1 => absurd ((nI_ltI (by omega) (by omega)).mpr (by omega)) c_1)
    refine lv_iinc (v := nI (i + 1)) (lv' := [(1, .int (nI (i + 1))), (0, .ref (ad 2)), (2, .int (nI (i + 1)))]) X.1 X.2.1 zd_Co_chosenTable_118 hl (k := 1) rfl (nI_1 i) (by decide) rfl (fun ls hl => ?_)
    refine lv_goto (tgt := 11) X.1 X.2.1 zd_Co_chosenTable_121 (by decide) ?_
    exact K μ H locs ls hW hS (hG.row h3) (lv_sub hl [1, 0] rfl)
  | succ n ih =>
    intro j ee h1 μ H locs ls hW hS hG hl
    refine lv_iload_n X.1 X.2.1 zd_Co_chosenTable_28 rfl (lv_at hl 2 rfl) ?_
    refine lv_iload_n X.1 X.2.1 zd_Co_chosenTable_29 rfl (lv_at hl 1 rfl) ?_
    refine lv_icmp_gt (tgt := 118) X.1 X.2.1 zd_Co_chosenTable_30 (by decide) (fun c_1 => absurd ((nI_ltI (by omega) (by omega)).mp c_1) (by omega)) (fun _ => ?_)
    refine lv_aload_n X.1 X.2.1 zd_Co_chosenTable_33 rfl (lv_at hl 0 rfl) ?_
    refine lv_iload_n X.1 X.2.1 zd_Co_chosenTable_34 rfl (lv_at hl 1 rfl) ?_
    refine lv_iconst (v := nI 1) X.1 X.2.1 zd_Co_chosenTable_35 (by decide) ?_
    refine lv_isub X.1 X.2.1 zd_Co_chosenTable_36 ?_
    refine lv_bipush (v := nI 6) X.1 X.2.1 zd_Co_chosenTable_37 (by decide) ?_
    refine lv_imul X.1 X.2.1 zd_Co_chosenTable_39 ?_
    refine lv_iload_n X.1 X.2.1 zd_Co_chosenTable_40 rfl (lv_at hl 2 rfl) ?_
    refine lv_iadd X.1 X.2.1 zd_Co_chosenTable_41 ?_
    refine lv_iconst (v := nI 1) X.1 X.2.1 zd_Co_chosenTable_42 (by decide) ?_
    refine lv_isub X.1 X.2.1 zd_Co_chosenTable_43 ?_
    rw [nI_sub (show 1 ≤ i by omega), nI_mul, nI_add, nI_sub (by omega)]
    refine r_qa X hK hW (by omega) (by omega) m2 (by rw [n2]; exact vp_in_nI (by omega) (by omega)) zd_Co_chosenTable_44 ?_
    rw [kl (by omega), ch_s, show 3 + ((i - 1) * 6 + j - 1) = 3 + (6 * (i - 1) + (j - 1)) by omega]
    refine lv_astore_n (lv' := [(3, .ref (ad (3 + (6 * (i - 1) + (j - 1))))), (0, .ref (ad 2)), (1, .int (nI i)), (2, .int (nI j))]) X.1 X.2.1 zd_Co_chosenTable_45 rfl hl (by decide) rfl (fun ls hl => ?_)
    refine lv_aload_n X.1 X.2.1 zd_Co_chosenTable_46 rfl (lv_at hl 1 rfl) ?_
    refine lv_iload_n X.1 X.2.1 zd_Co_chosenTable_47 rfl (lv_at hl 2 rfl) ?_
    refine lv_iconst (v := nI 1) X.1 X.2.1 zd_Co_chosenTable_48 (by decide) ?_
    refine lv_isub X.1 X.2.1 zd_Co_chosenTable_49 ?_
    refine lv_bipush (v := nI 6) X.1 X.2.1 zd_Co_chosenTable_50 (by decide) ?_
    refine lv_imul X.1 X.2.1 zd_Co_chosenTable_52 ?_
    refine lv_iload_n X.1 X.2.1 zd_Co_chosenTable_53 rfl (lv_at hl 3 rfl) ?_
    refine lv_iadd X.1 X.2.1 zd_Co_chosenTable_54 ?_
    rw [nI_sub (show 1 ≤ i by omega), nI_mul, nI_add]
    refine r_qa X hK hW (by omega) (by omega) m2 (by rw [n2]; exact vp_in_nI (by omega) (by omega)) zd_Co_chosenTable_55 ?_
    rw [kl (by omega), ch_s, show 3 + ((i - 1) * 6 + j) = 3 + (6 * (i - 1) + j) by omega]
    refine lv_astore (lv' := [(4, .ref (ad (3 + (6 * (i - 1) + j)))), (3, .ref (ad (3 + (6 * (i - 1) + (j - 1))))), (0, .ref (ad 2)), (1, .int (nI i)), (2, .int (nI j))]) X.1 X.2.1 zd_Co_chosenTable_56 hl (by decide) rfl (fun ls hl => ?_)
    refine lv_aload_n X.1 X.2.1 zd_Co_chosenTable_58 rfl (lv_at hl 2 rfl) ?_
    refine lv_iload_n X.1 X.2.1 zd_Co_chosenTable_59 rfl (lv_at hl 3 rfl) ?_
    refine lv_bipush (v := nI 6) X.1 X.2.1 zd_Co_chosenTable_60 (by decide) ?_
    refine lv_imul X.1 X.2.1 zd_Co_chosenTable_62 ?_
    refine lv_iload_n X.1 X.2.1 zd_Co_chosenTable_63 rfl (lv_at hl 4 rfl) ?_
    refine lv_iadd X.1 X.2.1 zd_Co_chosenTable_64 ?_
    rw [nI_mul, nI_add]
    refine r_qa X hK hW (by omega) (by omega) m2 (by rw [n2]; exact vp_in_nI (by omega) (by omega)) zd_Co_chosenTable_65 ?_
    rw [kl (by omega), ch_s, show 3 + (i * 6 + j) = 3 + (6 * i + j) by omega]
    refine lv_astore (lv' := [(5, .ref (ad (3 + (6 * i + j)))), (4, .ref (ad (3 + (6 * (i - 1) + j)))), (3, .ref (ad (3 + (6 * (i - 1) + (j - 1))))), (0, .ref (ad 2)), (1, .int (nI i)), (2, .int (nI j))]) X.1 X.2.1 zd_Co_chosenTable_66 hl (by decide) rfl (fun ls hl => ?_)
    refine lv_iconst (v := nI 0) X.1 X.2.1 zd_Co_chosenTable_68 (by decide) ?_
    refine lv_istore (lv' := [(6, .int (nI 0)), (5, .ref (ad (3 + (6 * i + j)))), (4, .ref (ad (3 + (6 * (i - 1) + j)))), (3, .ref (ad (3 + (6 * (i - 1) + (j - 1))))), (0, .ref (ad 2)), (1, .int (nI i)), (2, .int (nI j))]) X.1 X.2.1 zd_Co_chosenTable_69 hl (by decide) rfl (fun ls hl => ?_)
    exact ch_k X hK hi hA h1 (show j ≤ i by omega) h3 (fun μ H locs ls hW hS hG hl => ih (j + 1) (by omega) (by omega) μ H locs ls hW hS hG hl) 7 0 rfl μ H locs ls hW hS hG (lv_sub hl [4, 5, 6, 3, 2, 1, 0] rfl)
set_option maxHeartbeats 4000000 in
/-- the outer loop -/
theorem ch_i (X : Cx p s m args meth c own cTb 7 cTr) (hK : va_K D cl (tyL AC) s) (hi : adI (rng 2 37) ad) (hA : ∀ q, Ar (rng 2 37) ad q → A q)
    (K : ∀ (μ : Mm) (H : Heap) (locs : List Loc) (ls : Array Slot), Wd (rng 2 37) D AC ad μ H → va_S A s.heap H locs → SG 36 0 μ → W p l e R s m args below meth c H locs cells slots Q (F0 m 125 ls [.ref (ad 2)])) :
    ∀ (n i : Nat), i + n = 6 → ∀ (μ : Mm) (H : Heap) (locs : List Loc) (ls : Array Slot), Wd (rng 2 37) D AC ad μ H → va_S A s.heap H locs → SG (6 * i) 0 μ → lv_has ls 7 [(0, .ref (ad 2)), (1, .int (nI i))] → W p l e R s m args below meth c H locs cells slots Q (F0 m 11 ls []) := by
  have s2 : shK 2 = 3 := rfl
  have n2 : shN 2 = 36 := rfl
  have m2 : 2 ∈ rng 2 37 := rng_mem.mpr ⟨by omega, by omega⟩
  intro n
  induction n with
  | zero =>
    intro i ee μ H locs ls hW hS hG hl
    obtain rfl : i = 6 := by omega
    refine lv_iload_n X.1 X.2.1 zd_Co_chosenTable_11 rfl (lv_at hl 1 rfl) ?_
    refine lv_bipush (v := nI 6) X.1 X.2.1 zd_Co_chosenTable_12 (by decide) ?_
    refine lv_icmp_ge (tgt := 124) X.1 X.2.1 zd_Co_chosenTable_14 (by decide) (fun _ => ?_) (fun c_1 => absurd (by decide) c_1)
    refine lv_aload_n X.1 X.2.1 zd_Co_chosenTable_124 rfl (lv_at hl 0 rfl) ?_
    exact K μ H locs ls hW hS hG
  | succ n ih =>
    intro i ee μ H locs ls hW hS hG hl
    obtain ⟨a1, a2, a3⟩ := ch_m (r := 6 * i) (by omega)
    refine lv_iload_n X.1 X.2.1 zd_Co_chosenTable_11 rfl (lv_at hl 1 rfl) ?_
    refine lv_bipush (v := nI 6) X.1 X.2.1 zd_Co_chosenTable_12 (by decide) ?_
    refine lv_icmp_ge (tgt := 124) X.1 X.2.1 zd_Co_chosenTable_14 (by decide) (fun c_1 => absurd ((nI_ltI (show i < 2 ^ 31 by omega) (show 6 < 2 ^ 31 by omega)).mpr (by omega)) (Int32.not_lt.mpr c_1)) (fun _ => ?_)
    refine lv_aload_n X.1 X.2.1 zd_Co_chosenTable_17 rfl (lv_at hl 0 rfl) ?_
    refine lv_iload_n X.1 X.2.1 zd_Co_chosenTable_18 rfl (lv_at hl 1 rfl) ?_
    refine lv_bipush (v := nI 6) X.1 X.2.1 zd_Co_chosenTable_19 (by decide) ?_
    refine lv_imul X.1 X.2.1 zd_Co_chosenTable_21 ?_
    rw [nI_mul]
    refine r_qa X hK hW (by omega) (by omega) m2 (by rw [n2]; exact vp_in_nI (by omega) (by omega)) zd_Co_chosenTable_22 ?_
    rw [kl (by omega), ch_s, show 3 + i * 6 = 3 + 6 * i by omega]
    refine lv_iconst (v := nI 0) X.1 X.2.1 zd_Co_chosenTable_23 (by decide) ?_
    refine lv_lconst (v := 1) X.1 X.2.1 zd_Co_chosenTable_24 (by decide) ?_
    refine r_lsA hi X hK hW hS hA a2 a1 (by rw [a3]; exact vp_in_nI (by omega) (by omega)) zd_Co_chosenTable_25 (fun H locs hW hS => ?_)
    refine lv_iconst (v := nI 1) X.1 X.2.1 zd_Co_chosenTable_26 (by decide) ?_
    refine lv_istore_n (lv' := [(2, .int (nI 1)), (0, .ref (ad 2)), (1, .int (nI i))]) X.1 X.2.1 zd_Co_chosenTable_27 rfl hl (by decide) rfl (fun ls hl => ?_)
    exact ch_j X hK hi hA (show i < 6 by omega) (fun μ H locs ls hW hS hG hl => ih (i + 1) (by omega) μ H locs ls hW hS hG hl) i 1 (by omega) (by omega) _ H locs ls hW hS (hG.one (by omega)) (lv_sub hl [1, 2, 0] rfl)
end CHW
theorem at_l {D : va_G} {H : Heap} {a n : Nat} {c : ClassId} {f g : Nat → Int64} (h : ∀ j, j < n → f j = g j) (hP : va_at D cl (a, .inl (c, n, .inr (.inl f))) H) : va_at D cl (a, .inl (c, n, .inr (.inl g))) H := by
  have e : vp_cell c (n, .inr (.inl f)) = vp_cell c (n, .inr (.inl g)) := by
    rw [vp_cell_l, vp_cell_l]
    unfold arrV
    congr 1
    apply congrArg
    funext j
    show Value.long (f j.val) = Value.long (g j.val)
    rw [h j.val j.isLt]
  show H[a]? = some (vp_cell c _)
  rw [← e]
  exact hP
theorem zf_2 : ∀ i, i < 36 → shK (2 + 1 + i) = 1 ∧ shN (2 + 1 + i) = 7 := by decide +kernel
/-- no memory yet -/
def μ00 : Mm := (Zi, fun _ _ => (0 : Int64))
theorem SG_0 : SG 0 0 μ00 := fun r h q h2 => by
  rw [if_neg (by omega)]
  rfl
set_option maxHeartbeats 4000000 in
theorem c_Co_chosenTable (l : Launch) (D : va_G) (AC : Nat → ClassId) (sz : Nat) : Met l ⟨"TypesInside$Counts", "chosenTable", "()[[J"⟩ (ws_ ⟨"TypesInside$Counts", "chosenTable", "()[[J"⟩ cTb 7 cTr) ({ frames := 0, cells := 37, slots := 288, locals := 0 }) (va_Pc [] (fun U => U.heap.size = sz ∧ K6 D AC U)) (va_Qr (fun _ : Nat → Nat => True) (fun ad a t => ad 2 = a ∧ va_P D cl (wl (rng 2 37) AC ad μz) t.heap ∧ va_D (va_A [] sz) (wl (rng 2 37) AC ad μz)) (va_A [] sz)) 37 288 (va_A [] sz) := by
  refine Met.ofW (cc := prog_3_method_2_code) (maxL := 7) (ret := (some (.array (.array .long)))) (by decide) rfl ?_
  intro p e s m args below meth c s₁ B hml hv
  obtain ⟨rfl, hsz, hK6⟩ := hv
  have hK := hK6.1
  have hx := B.exec
  have hb := B.bytes
  have hr := B.returns
  have hts0 := atoms_spec (ws := ws_ ⟨"TypesInside$Counts", "chosenTable", "()[[J"⟩ prog_3_method_2_code 7 (some (.array (.array .long)))) B.pre
  have hts : ∀ w ∈ LW, w.before _ s = true := fun w hw => hts0 w (List.mem_cons_of_mem _ hw)
  have hown : s.vm.findClass "TypesInside$Counts" = some m.cls := findClass_of_methodNamed B.named
  have hlocks := B.notSynchronized
  subst hsz
  generalize hAe : va_A [] s.heap.size = A
  have hA : ∀ q : Nat, s.heap.size ≤ q → A q := fun q h => by rw [← hAe]; exact Or.inr h
  have hS : va_S A s.heap s.heap [] := va_S.rf
  have hl := lv_entry ([]) (n := 7) (Nat.le_of_ble_eq_true rfl)
  rw [lg_entry_eq]
  generalize (lg_sl ([]) ++ List.replicate (7 - (lg_sl ([])).length) Slot.unset).toArray = ls at hl ⊢
  have hl : lv_has ls 7 [] := hl
  have hP : va_P D cl [] s.heap := P_nil
  have hD : va_D A [] := D_nil
  have X : Cx p s m ([] : List Value).toArray meth c "TypesInside$Counts" cTb 7 cTr := ⟨hx, hb, hml, hown, hts, hr, hlocks⟩
  refine lv_bipush (v := (36 : Int32)) hx hb zd_Co_chosenTable_0 (by decide) ?_
  refine lv_bipush (v := (7 : Int32)) hx hb zd_Co_chosenTable_2 (by decide) ?_
  have hcl1 : (Jvm.Cond.classLink "TypesInside$Counts" 21 ("[" ++ (FieldType.array .long).toString)).before _ s = true := hts _ (show Jvm.Cond.classLink "TypesInside$Counts" 21 ("[" ++ (FieldType.array .long).toString) ∈ LW from (by decide : "[" ++ (FieldType.array .long).toString = "[[J") ▸ zw28)
  refine va_mna (X := []) (L := []) (f := fun _ => .inl (AC 1, 7, .inr (.inl (fun _ => (0 : Int64))))) (ty := .long) (cy := AC 1) hx hb hown hcl1 hK6.2.1 (hts _ zw46) (hK.2 1 _ rfl).2 hK (by rw [show va_pl [] _ = [] from rfl, List.append_nil]; exact hP) (by rw [show va_pl [] _ = [] from rfl, List.append_nil]; exact hD) hS hA (n := 36) (k := 7) (N' := 36) (K' := 7) (z := (7, .inr (.inl (fun _ => (0 : Int64))))) (by decide) (by decide) (by decide) (by decide) (Nat.le_of_ble_eq_true rfl) (Nat.le_of_ble_eq_true rfl) (Nat.le_of_ble_eq_true rfl) rfl rfl (Nat.le_of_ble_eq_true rfl) (Nat.le_of_ble_eq_true rfl) (fun c => by show ({ cls := c, slots := Array.replicate 7 _, vm := .none } : Cell) = _; rw [arrV_new]; rfl) zd_Co_chosenTable_4 (fun q1 r1 cA H hri hrl hK1 hP hD hS => ?_)
  obtain rfl := K_new 3 hK1 rfl
  rw [mna_list, List.nil_append] at hP hD
  obtain ⟨ad, ead⟩ : ∃ ad : Nat → Nat, ad = fun k => if k = 2 then q1 else r1 (k - 3) := ⟨_, rfl⟩
  have g0 : ad 2 = q1 := by rw [ead]; exact if_pos rfl
  have gr0 : ∀ i, i < 36 → ad (2 + 1 + i) = r1 i := fun i hi => by rw [ead]; show (if _ then _ else _) = _; rw [if_neg (by omega), show 2 + 1 + i - 3 = i by omega]
  have hW : Wd (rng 2 37) D AC ad μ00 H := mna_P (n := 36) (k := 7) (a := 2) g0 gr0 rfl rfl (fun j hj => rfl) zf_2 (fun _ _ => rfl) hP
  have hD2 : va_D A (wl (rng 2 37) AC ad μz) := D_fst hD ((mna_m g0 gr0).trans (wl_fst _ _).symm)
  have hadI : adI (rng 2 37) ad := ⟨by decide +kernel, fun i j hi hj e => by
    obtain ⟨x, hx2⟩ := List.getElem?_of_mem hi
    obtain ⟨y, hy2⟩ := List.getElem?_of_mem hj
    have w1 := wl_at (AC := AC) (ad := ad) (μ := μz) hx2
    have w2 := wl_at (AC := AC) (ad := ad) (μ := μz) hy2
    have := hD2.1 x y _ _ w1 w2 e
    subst this
    exact Option.some.inj (hx2.symm.trans hy2)⟩
  have hArA : ∀ q, Ar (rng 2 37) ad q → A q := fun q hq => by
    obtain ⟨k, hk, rfl⟩ := hq
    obtain ⟨x, hx2⟩ := List.getElem?_of_mem hk
    exact hD2.2 x _ (wl_at (AC := AC) (ad := ad) (μ := μz) hx2)
  rw [← g0]
  refine lv_astore_n (lv' := [(0, .ref (ad 2))]) hx hb zd_Co_chosenTable_8 rfl hl (by decide) rfl (fun ls hl => ?_)
  refine lv_iconst (v := nI 0) hx hb zd_Co_chosenTable_9 (by decide) ?_
  refine lv_istore_n (lv' := [(1, .int (nI 0)), (0, .ref (ad 2))]) hx hb zd_Co_chosenTable_10 rfl hl (by decide) rfl (fun ls hl => ?_)
  refine ch_i X hK hadI hArA (fun μ H locs ls hW hS hG => ?_) 6 0 rfl μ00 H _ ls hW hS SG_0 (lv_sub hl [1, 0] rfl)
  have hPf : va_P D cl (wl (rng 2 37) AC ad μz) H := P_of fun x hx3 => by
    obtain ⟨k, hk, rfl⟩ := List.mem_map.mp hx3
    obtain ⟨k1, k2⟩ := rng_mem.mp hk
    have h := P_in hW (List.mem_map.mpr ⟨k, hk, rfl⟩)
    by_cases q : k = 2
    · subst q
      show va_at D cl (ad 2, cE AC ad μz 2) H
      rw [cE_q (show shK 2 = 3 from rfl) (by omega) (by omega)]
      have h : va_at D cl (ad 2, cE AC ad μ 2) H := h
      rw [cE_q (show shK 2 = 3 from rfl) (by omega) (by omega)] at h
      exact h
    · obtain ⟨r, rfl⟩ : ∃ r, k = 3 + r := ⟨k - 3, by omega⟩
      obtain ⟨-, b2, b3⟩ := ch_m (r := r) (by omega)
      show va_at D cl (ad (3 + r), cE AC ad μz (3 + r)) H
      have h : va_at D cl (ad (3 + r), cE AC ad μ (3 + r)) H := h
      rw [cE_l b2] at h ⊢
      rw [b3] at h ⊢
      refine at_l (fun j hj => ?_) h
      rw [hG r (by omega) j hj, if_pos (Or.inl (by omega))]
      show tCh r j = Zl (3 + r) j
      unfold Zl
      rw [show Nat.ble 3 (3 + r) = true by rw [Nat.ble_eq]; omega, show Nat.ble (3 + r) 38 = true by rw [Nat.ble_eq]; omega]
      show tCh r j = if j < 7 then tCh (3 + r - 3) j else 0
      rw [if_pos hj, Nat.add_sub_cancel_left]
  refine W.widen (k := 37) (n := 288) (Nat.le_of_ble_eq_true rfl) (Nat.le_of_ble_eq_true rfl) ?_
  exact W.aret hx hb hr (Or.inr ⟨_, rfl⟩) (Or.inr ⟨_, rfl⟩) (fun t ht hW => ⟨⟨ad, ad 2, rfl, trivial, rfl, by rw [ht]; exact hPf, hD2⟩, hS.F ht⟩) hS.2.2 zd_Co_chosenTable_125

