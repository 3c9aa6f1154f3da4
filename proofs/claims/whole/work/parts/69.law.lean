/-! the law: its loop -/
theorem zw1397 : Jvm.Cond.constantLong "TypesInsideLaw" 69 (4294967295 : Int64) ∈ LW := lc6 197 rfl rfl
theorem zw210 : Jvm.Cond.methodLink "TypesInsideLaw" 13 ⟨"TypesInside", "type", "(I)I"⟩ ∈ LW := lc1 210 rfl rfl
theorem zw991 : Jvm.Cond.methodLink "TypesInsideLaw" 17 ⟨"TypesInsideModel", "type", "(I)I"⟩ ∈ LW := lc5 31 rfl rfl
theorem zw219 : Jvm.Cond.methodLink "TypesInsideLaw" 18 ⟨"TypesInside", "of", "(II)I"⟩ ∈ LW := lc1 219 rfl rfl
theorem zw999 : Jvm.Cond.methodLink "TypesInsideLaw" 22 ⟨"TypesInsideModel", "of", "(II)I"⟩ ∈ LW := lc5 39 rfl rfl
theorem zw252 : Jvm.Cond.methodLink "TypesInsideLaw" 23 ⟨"TypesInside", "in", "(II)I"⟩ ∈ LW := lc2 12 rfl rfl
theorem zw1032 : Jvm.Cond.methodLink "TypesInsideLaw" 26 ⟨"TypesInsideModel", "in", "(II)I"⟩ ∈ LW := lc5 72 rfl rfl
theorem zw257 : Jvm.Cond.methodLink "TypesInsideLaw" 27 ⟨"TypesInside", "choices", "(III)J"⟩ ∈ LW := lc2 17 rfl rfl
theorem zw1036 : Jvm.Cond.methodLink "TypesInsideLaw" 31 ⟨"TypesInsideModel", "choices", "(III)J"⟩ ∈ LW := lc5 76 rfl rfl
theorem zw275 : Jvm.Cond.methodLink "TypesInsideLaw" 32 ⟨"TypesInside", "subgroups", "(III)J"⟩ ∈ LW := lc2 35 rfl rfl
theorem zw1060 : Jvm.Cond.methodLink "TypesInsideLaw" 35 ⟨"TypesInsideModel", "subgroups", "(III)J"⟩ ∈ LW := lc5 100 rfl rfl
theorem zw302 : Jvm.Cond.methodLink "TypesInsideLaw" 36 ⟨"TypesInside", "hall", "(IIII)J"⟩ ∈ LW := lc2 62 rfl rfl
theorem zw1072 : Jvm.Cond.methodLink "TypesInsideLaw" 40 ⟨"TypesInsideModel", "hall", "(IIII)J"⟩ ∈ LW := lc5 112 rfl rfl
theorem zw321 : Jvm.Cond.methodLink "TypesInsideLaw" 41 ⟨"TypesInside", "whole", "(III)J"⟩ ∈ LW := lc2 81 rfl rfl
theorem zw1101 : Jvm.Cond.methodLink "TypesInsideLaw" 44 ⟨"TypesInsideModel", "whole", "(III)J"⟩ ∈ LW := lc5 141 rfl rfl
theorem zw354 : Jvm.Cond.methodLink "TypesInsideLaw" 45 ⟨"TypesInside", "value", "(III)J"⟩ ∈ LW := lc2 114 rfl rfl
theorem zw1126 : Jvm.Cond.methodLink "TypesInsideLaw" 48 ⟨"TypesInsideModel", "value", "(III)J"⟩ ∈ LW := lc5 166 rfl rfl
theorem zw364 : Jvm.Cond.methodLink "TypesInsideLaw" 49 ⟨"TypesInside", "group", "(II)I"⟩ ∈ LW := lc2 124 rfl rfl
theorem zw1137 : Jvm.Cond.methodLink "TypesInsideLaw" 52 ⟨"TypesInsideModel", "group", "(II)I"⟩ ∈ LW := lc5 177 rfl rfl
theorem zw415 : Jvm.Cond.methodLink "TypesInsideLaw" 53 ⟨"TypesInside", "sum", "(II)I"⟩ ∈ LW := lc2 175 rfl rfl
theorem zw1148 : Jvm.Cond.methodLink "TypesInsideLaw" 56 ⟨"TypesInsideModel", "sum", "(II)I"⟩ ∈ LW := lc5 188 rfl rfl
theorem zw427 : Jvm.Cond.methodLink "TypesInsideLaw" 57 ⟨"TypesInside", "times", "(II)I"⟩ ∈ LW := lc2 187 rfl rfl
theorem zw1161 : Jvm.Cond.methodLink "TypesInsideLaw" 60 ⟨"TypesInsideModel", "times", "(II)I"⟩ ∈ LW := lc5 201 rfl rfl
theorem zw432 : Jvm.Cond.methodLink "TypesInsideLaw" 61 ⟨"TypesInside", "order", "(I)I"⟩ ∈ LW := lc2 192 rfl rfl
theorem zw1165 : Jvm.Cond.methodLink "TypesInsideLaw" 64 ⟨"TypesInsideModel", "order", "(I)I"⟩ ∈ LW := lc5 205 rfl rfl
theorem zw441 : Jvm.Cond.methodLink "TypesInsideLaw" 65 ⟨"TypesInside", "figure", "(II)I"⟩ ∈ LW := lc2 201 rfl rfl
theorem zw1169 : Jvm.Cond.methodLink "TypesInsideLaw" 68 ⟨"TypesInsideModel", "figure", "(II)I"⟩ ∈ LW := lc5 209 rfl rfl
theorem zw450 : Jvm.Cond.methodLink "TypesInsideLaw" 71 ⟨"TypesInside", "span", "(J)J"⟩ ∈ LW := lc2 210 rfl rfl
theorem zw1173 : Jvm.Cond.methodLink "TypesInsideLaw" 75 ⟨"TypesInsideModel", "span", "(J)J"⟩ ∈ LW := lc5 213 rfl rfl
theorem zw478 : Jvm.Cond.methodLink "TypesInsideLaw" 76 ⟨"TypesInside", "meet", "(JJ)J"⟩ ∈ LW := lc2 238 rfl rfl
theorem zw1192 : Jvm.Cond.methodLink "TypesInsideLaw" 80 ⟨"TypesInsideModel", "meet", "(JJ)J"⟩ ∈ LW := lc5 232 rfl rfl
theorem zw482 : Jvm.Cond.methodLink "TypesInsideLaw" 81 ⟨"TypesInside", "told", "(JI)I"⟩ ∈ LW := lc3 2 rfl rfl
theorem zw1196 : Jvm.Cond.methodLink "TypesInsideLaw" 85 ⟨"TypesInsideModel", "told", "(JI)I"⟩ ∈ LW := lc5 236 rfl rfl
theorem zw520 : Jvm.Cond.methodLink "TypesInsideLaw" 86 ⟨"TypesInside", "list", "(I)J"⟩ ∈ LW := lc3 40 rfl rfl
theorem zw1211 : Jvm.Cond.methodLink "TypesInsideLaw" 90 ⟨"TypesInsideModel", "list", "(I)J"⟩ ∈ LW := lc6 11 rfl rfl
theorem zw553 : Jvm.Cond.methodLink "TypesInsideLaw" 91 ⟨"TypesInside", "listed", "(II)I"⟩ ∈ LW := lc3 73 rfl rfl
theorem zw1227 : Jvm.Cond.methodLink "TypesInsideLaw" 94 ⟨"TypesInsideModel", "listed", "(II)I"⟩ ∈ LW := lc6 27 rfl rfl
theorem zw561 : Jvm.Cond.methodLink "TypesInsideLaw" 95 ⟨"TypesInside", "share", "(I)J"⟩ ∈ LW := lc3 81 rfl rfl
theorem zw1235 : Jvm.Cond.methodLink "TypesInsideLaw" 98 ⟨"TypesInsideModel", "share", "(I)J"⟩ ∈ LW := lc6 35 rfl rfl
theorem zw580 : Jvm.Cond.methodLink "TypesInsideLaw" 99 ⟨"TypesInside", "thousandths", "(I)I"⟩ ∈ LW := lc3 100 rfl rfl
theorem zw1253 : Jvm.Cond.methodLink "TypesInsideLaw" 102 ⟨"TypesInsideModel", "thousandths", "(I)I"⟩ ∈ LW := lc6 53 rfl rfl
theorem zw585 : Jvm.Cond.methodLink "TypesInsideLaw" 103 ⟨"TypesInside", "weight", "(III)J"⟩ ∈ LW := lc3 105 rfl rfl
theorem zw1258 : Jvm.Cond.methodLink "TypesInsideLaw" 106 ⟨"TypesInsideModel", "weight", "(III)J"⟩ ∈ LW := lc6 58 rfl rfl
theorem zw599 : Jvm.Cond.methodLink "TypesInsideLaw" 107 ⟨"TypesInside", "weights", "(III)J"⟩ ∈ LW := lc3 119 rfl rfl
theorem zw1277 : Jvm.Cond.methodLink "TypesInsideLaw" 110 ⟨"TypesInsideModel", "weights", "(III)J"⟩ ∈ LW := lc6 77 rfl rfl
theorem zw603 : Jvm.Cond.methodLink "TypesInsideLaw" 111 ⟨"TypesInside", "mean", "()I"⟩ ∈ LW := lc3 123 rfl rfl
theorem zw1281 : Jvm.Cond.methodLink "TypesInsideLaw" 115 ⟨"TypesInsideModel", "mean", "()I"⟩ ∈ LW := lc6 81 rfl rfl
theorem zw607 : Jvm.Cond.methodLink "TypesInsideLaw" 116 ⟨"TypesInside", "feed", "(I)I"⟩ ∈ LW := lc3 127 rfl rfl
theorem zw1285 : Jvm.Cond.methodLink "TypesInsideLaw" 119 ⟨"TypesInsideModel", "feed", "(I)I"⟩ ∈ LW := lc6 85 rfl rfl
theorem zw619 : Jvm.Cond.methodLink "TypesInsideLaw" 120 ⟨"TypesInside", "read", "()I"⟩ ∈ LW := lc3 139 rfl rfl
theorem zw1290 : Jvm.Cond.methodLink "TypesInsideLaw" 123 ⟨"TypesInsideModel", "read", "()I"⟩ ∈ LW := lc6 90 rfl rfl
theorem zw738 : Jvm.Cond.methodLink "TypesInsideLaw" 124 ⟨"TypesInside", "term", "(II)I"⟩ ∈ LW := lc4 18 rfl rfl
theorem zw1341 : Jvm.Cond.methodLink "TypesInsideLaw" 127 ⟨"TypesInsideModel", "term", "(II)I"⟩ ∈ LW := lc6 141 rfl rfl
theorem zw748 : Jvm.Cond.methodLink "TypesInsideLaw" 128 ⟨"TypesInside", "coefficient", "(II)J"⟩ ∈ LW := lc4 28 rfl rfl
theorem zw1349 : Jvm.Cond.methodLink "TypesInsideLaw" 132 ⟨"TypesInsideModel", "coefficient", "(II)J"⟩ ∈ LW := lc6 149 rfl rfl
theorem zw752 : Jvm.Cond.methodLink "TypesInsideLaw" 133 ⟨"TypesInside", "shelf", "(III)I"⟩ ∈ LW := lc4 32 rfl rfl
theorem zw1353 : Jvm.Cond.methodLink "TypesInsideLaw" 137 ⟨"TypesInsideModel", "shelf", "(III)I"⟩ ∈ LW := lc6 153 rfl rfl
theorem zw769 : Jvm.Cond.methodLink "TypesInsideLaw" 138 ⟨"TypesInside", "put", "(III)I"⟩ ∈ LW := lc4 49 rfl rfl
theorem zw1361 : Jvm.Cond.methodLink "TypesInsideLaw" 141 ⟨"TypesInsideModel", "put", "(III)I"⟩ ∈ LW := lc6 161 rfl rfl
theorem zw790 : Jvm.Cond.methodLink "TypesInsideLaw" 142 ⟨"TypesInside", "get", "(II)I"⟩ ∈ LW := lc4 70 rfl rfl
theorem zw1373 : Jvm.Cond.methodLink "TypesInsideLaw" 145 ⟨"TypesInsideModel", "get", "(II)I"⟩ ∈ LW := lc6 173 rfl rfl
theorem zw798 : Jvm.Cond.methodLink "TypesInsideLaw" 146 ⟨"TypesInside", "move", "(IIIII)I"⟩ ∈ LW := lc4 78 rfl rfl
theorem zw1377 : Jvm.Cond.methodLink "TypesInsideLaw" 150 ⟨"TypesInsideModel", "move", "(IIIII)I"⟩ ∈ LW := lc6 177 rfl rfl
theorem zw806 : Jvm.Cond.methodLink "TypesInsideLaw" 151 ⟨"TypesInside", "all", "(II)I"⟩ ∈ LW := lc4 86 rfl rfl
theorem zw1381 : Jvm.Cond.methodLink "TypesInsideLaw" 154 ⟨"TypesInsideModel", "all", "(II)I"⟩ ∈ LW := lc6 181 rfl rfl
theorem zw810 : Jvm.Cond.methodLink "TypesInsideLaw" 155 ⟨"TypesInside", "image", "()I"⟩ ∈ LW := lc4 90 rfl rfl
theorem zw1385 : Jvm.Cond.methodLink "TypesInsideLaw" 158 ⟨"TypesInsideModel", "image", "()I"⟩ ∈ LW := lc6 185 rfl rfl
theorem zw832 : Jvm.Cond.methodLink "TypesInsideLaw" 159 ⟨"TypesInside", "back", "()I"⟩ ∈ LW := lc4 112 rfl rfl
theorem zw1389 : Jvm.Cond.methodLink "TypesInsideLaw" 162 ⟨"TypesInsideModel", "back", "()I"⟩ ∈ LW := lc6 189 rfl rfl
theorem zw836 : Jvm.Cond.methodLink "TypesInsideLaw" 163 ⟨"TypesInside", "count", "(I)I"⟩ ∈ LW := lc4 116 rfl rfl
theorem zw1393 : Jvm.Cond.methodLink "TypesInsideLaw" 166 ⟨"TypesInsideModel", "count", "(I)I"⟩ ∈ LW := lc6 193 rfl rfl
theorem zw7 : Jvm.Cond.initialized "TypesInsideModel" ∈ LW := lc1 7 rfl rfl
/-- what the law's loop stands on -/
def LAx (p : Program) (s : State) (m : MethodId) (args : Array Value) (meth : Method) (c : Code) (R : Room) (D : va_G) (AC : Nat → ClassId) (ad : Nat → Nat) (tn : Nat) (A : Nat → Prop) (b L : Nat) (xs : Nat → Int32) (cells slots : Nat) : Prop := (Cx p s m args meth c "TypesInsideLaw" code 4 ret ∧ va_K D cl (tyL AC) s ∧ Nst A tn s s.heap) ∧ ((∀ q, Ar kA ad q → A q) ∧ adI kA ad) ∧ (va_X b L xs s s.heap ∧ b < s.heap.size ∧ ¬ A b) ∧ L ≤ 3072 ∧ 61 ≤ R.frames ∧ 3904 ≤ R.locals ∧ (cells + 0 ≤ R.cells ∧ slots + 0 ≤ R.slots)
abbrev laV (ad : Nat → Nat) (b i : Nat) : List (Nat × Value) := [(3, .int (nI i)), (2, .ref (ad 306)), (1, .ref (ad 0)), (0, .ref b)]
theorem la_gt {i L : Nat} (hi : i < 2 ^ 30) (hL : L ≤ 3072) : (Int32.ofNat L - nI 6 < nI i) ↔ L < i + 6 := by
  by_cases h : 6 ≤ L
  · rw [show Int32.ofNat L = nI L from rfl, nI_sub h, nI_ltI (by omega) (by omega)]
    omega
  · constructor
    · intro _
      omega
    · intro _
      rw [Int32.lt_iff_toInt_lt, nI_toInt (by omega)]
      rcases (show L = 0 ∨ L = 1 ∨ L = 2 ∨ L = 3 ∨ L = 4 ∨ L = 5 by omega) with rfl | rfl | rfl | rfl | rfl | rfl
      · rw [show (Int32.ofNat 0 - nI 6).toInt = -6 by decide]; omega
      · rw [show (Int32.ofNat 1 - nI 6).toInt = -5 by decide]; omega
      · rw [show (Int32.ofNat 2 - nI 6).toInt = -4 by decide]; omega
      · rw [show (Int32.ofNat 3 - nI 6).toInt = -3 by decide]; omega
      · rw [show (Int32.ofNat 4 - nI 6).toInt = -2 by decide]; omega
      · rw [show (Int32.ofNat 5 - nI 6).toInt = -1 by decide]; omega
section LAW
variable {p : Program} {l : Launch} {e : Env} {R : Room} {s : State} {m : MethodId} {args : Array Value} {below : List Frame} {meth : Method} {c : Code} {cells slots : Nat} {Q : State → Prop} {D : va_G} {AC : Nat → ClassId} {ad : Nat → Nat} {tn : Nat} {A : Nat → Prop} {b L : Nat} {xs : Nat → Int32}
set_option maxHeartbeats 4000000 in
theorem la_0 (C : LAx p s m args meth c R D AC ad tn A b L xs cells slots) {μ : Mm} {H : Heap} {locs : List Loc} {ls : Array Slot} {i : Nat} (hI : Inv μ) (hW : Wd kA D AC ad μ H) (hS : va_S A s.heap H locs) (hl : lv_has ls 4 (laV ad b i)) (h6 : i + 6 ≤ L)
    (K : ∀ (μ : Mm) (H : Heap) (locs : List Loc), Inv μ → Wd kA D AC ad μ H → va_S A s.heap H locs → W p l e R s m args below meth c H locs cells slots Q (F0 m 1445 ls [])) : W p l e R s m args below meth c H locs cells slots Q (F0 m 188 ls []) := by
  obtain ⟨⟨X, hK, hN⟩, ⟨hA, hi⟩, ⟨hX, hbl, hbA⟩, hL, hR1, hR2, hcs⟩ := C
  have hx := X.1
  have hb := X.2.1
  obtain ⟨r, μ1, μ2, e1, e2, hI2⟩ := go_type hI (xs (nI (i + 1)).toNatClampNeg)
  refine lv_aload_n hx hb zd_La_law_188 rfl (lv_at hl 2 rfl) ?_
  refine lv_aload_n hx hb zd_La_law_189 rfl (lv_at hl 3 rfl) ?_
  refine lv_iload_n hx hb zd_La_law_190 rfl (lv_at hl 0 rfl) ?_
  refine lv_iconst (v := nI 1) hx hb zd_La_law_191 (by decide) ?_
  refine lv_iadd hx hb zd_La_law_192 ?_
  rw [nI_add]
  refine va_sld hx hb hX hbl hbA hS (i := nI (i + 1)) (vp_in_nI (by omega) (by omega)) zd_La_law_193 ?_
  refine cR (c0 := 107) (k := 0) (as := [.int (xs (nI (i + 1)).toNatClampNeg)]) (B := 60) (ci := 0) (rest := []) (st1 := [.int r]) X hK hN hA hi hW hS (by decide) rfl (Nat.le_of_ble_eq_true rfl) e1 rfl (List.mem_range.mpr (by decide)) rfl zw210 rfl (Nat.le_of_ble_eq_true rfl) hR1 hR2 hcs hl.1 rfl (Nat.le_of_ble_eq_true rfl) zd_La_law_194 rfl (fun H locs hW hS => ?_)
  refine lv_aload_n hx hb zd_La_law_197 rfl (lv_at hl 1 rfl) ?_
  refine lv_aload_n hx hb zd_La_law_198 rfl (lv_at hl 3 rfl) ?_
  refine lv_iload_n hx hb zd_La_law_199 rfl (lv_at hl 0 rfl) ?_
  refine lv_iconst (v := nI 1) hx hb zd_La_law_200 (by decide) ?_
  refine lv_iadd hx hb zd_La_law_201 ?_
  rw [nI_add]
  refine va_sld hx hb hX hbl hbA hS (i := nI (i + 1)) (vp_in_nI (by omega) (by omega)) zd_La_law_202 ?_
  refine cR (c0 := 158) (k := 306) (as := [.int (xs (nI (i + 1)).toNatClampNeg)]) (B := 60) (ci := 6) (rest := [.int r]) (st1 := [.int r, .int r]) X hK hN hA hi hW hS (by decide) rfl (Nat.le_of_ble_eq_true rfl) e2 rfl (List.mem_range.mpr (by decide)) rfl zw991 rfl (Nat.le_of_ble_eq_true rfl) hR1 hR2 hcs hl.1 rfl (Nat.le_of_ble_eq_true rfl) zd_La_law_203 rfl (fun H locs hW hS => ?_)
  exact lv_icmp_eq (tgt := 1445) hx hb zd_La_law_206 (by decide) (fun _ => K μ2 H locs hI2 hW hS) (fun c_ => absurd rfl c_)
set_option maxHeartbeats 4000000 in
theorem la_1 (C : LAx p s m args meth c R D AC ad tn A b L xs cells slots) {μ : Mm} {H : Heap} {locs : List Loc} {ls : Array Slot} {i : Nat} (hI : Inv μ) (hW : Wd kA D AC ad μ H) (hS : va_S A s.heap H locs) (hl : lv_has ls 4 (laV ad b i)) (h6 : i + 6 ≤ L)
    (K : ∀ (μ : Mm) (H : Heap) (locs : List Loc), Inv μ → Wd kA D AC ad μ H → va_S A s.heap H locs → W p l e R s m args below meth c H locs cells slots Q (F0 m 1445 ls [])) : W p l e R s m args below meth c H locs cells slots Q (F0 m 211 ls []) := by
  obtain ⟨⟨X, hK, hN⟩, ⟨hA, hi⟩, ⟨hX, hbl, hbA⟩, hL, hR1, hR2, hcs⟩ := C
  have hx := X.1
  have hb := X.2.1
  obtain ⟨r, μ1, μ2, e1, e2, hI2⟩ := go_of hI (xs (nI (i + 1)).toNatClampNeg) (xs (nI (i + 2)).toNatClampNeg)
  refine lv_aload_n hx hb zd_La_law_211 rfl (lv_at hl 2 rfl) ?_
  refine lv_aload_n hx hb zd_La_law_212 rfl (lv_at hl 3 rfl) ?_
  refine lv_iload_n hx hb zd_La_law_213 rfl (lv_at hl 0 rfl) ?_
  refine lv_iconst (v := nI 1) hx hb zd_La_law_214 (by decide) ?_
  refine lv_iadd hx hb zd_La_law_215 ?_
  rw [nI_add]
  refine va_sld hx hb hX hbl hbA hS (i := nI (i + 1)) (vp_in_nI (by omega) (by omega)) zd_La_law_216 ?_
  refine lv_aload_n hx hb zd_La_law_217 rfl (lv_at hl 3 rfl) ?_
  refine lv_iload_n hx hb zd_La_law_218 rfl (lv_at hl 0 rfl) ?_
  refine lv_iconst (v := nI 2) hx hb zd_La_law_219 (by decide) ?_
  refine lv_iadd hx hb zd_La_law_220 ?_
  rw [nI_add]
  refine va_sld hx hb hX hbl hbA hS (i := nI (i + 2)) (vp_in_nI (by omega) (by omega)) zd_La_law_221 ?_
  refine cR (c0 := 108) (k := 0) (as := [.int (xs (nI (i + 1)).toNatClampNeg), .int (xs (nI (i + 2)).toNatClampNeg)]) (B := 60) (ci := 0) (rest := []) (st1 := [.int r]) X hK hN hA hi hW hS (by decide) rfl (Nat.le_of_ble_eq_true rfl) e1 rfl (List.mem_range.mpr (by decide)) rfl zw219 rfl (Nat.le_of_ble_eq_true rfl) hR1 hR2 hcs hl.1 rfl (Nat.le_of_ble_eq_true rfl) zd_La_law_222 rfl (fun H locs hW hS => ?_)
  refine lv_aload_n hx hb zd_La_law_225 rfl (lv_at hl 1 rfl) ?_
  refine lv_aload_n hx hb zd_La_law_226 rfl (lv_at hl 3 rfl) ?_
  refine lv_iload_n hx hb zd_La_law_227 rfl (lv_at hl 0 rfl) ?_
  refine lv_iconst (v := nI 1) hx hb zd_La_law_228 (by decide) ?_
  refine lv_iadd hx hb zd_La_law_229 ?_
  rw [nI_add]
  refine va_sld hx hb hX hbl hbA hS (i := nI (i + 1)) (vp_in_nI (by omega) (by omega)) zd_La_law_230 ?_
  refine lv_aload_n hx hb zd_La_law_231 rfl (lv_at hl 3 rfl) ?_
  refine lv_iload_n hx hb zd_La_law_232 rfl (lv_at hl 0 rfl) ?_
  refine lv_iconst (v := nI 2) hx hb zd_La_law_233 (by decide) ?_
  refine lv_iadd hx hb zd_La_law_234 ?_
  rw [nI_add]
  refine va_sld hx hb hX hbl hbA hS (i := nI (i + 2)) (vp_in_nI (by omega) (by omega)) zd_La_law_235 ?_
  refine cR (c0 := 159) (k := 306) (as := [.int (xs (nI (i + 1)).toNatClampNeg), .int (xs (nI (i + 2)).toNatClampNeg)]) (B := 60) (ci := 6) (rest := [.int r]) (st1 := [.int r, .int r]) X hK hN hA hi hW hS (by decide) rfl (Nat.le_of_ble_eq_true rfl) e2 rfl (List.mem_range.mpr (by decide)) rfl zw999 rfl (Nat.le_of_ble_eq_true rfl) hR1 hR2 hcs hl.1 rfl (Nat.le_of_ble_eq_true rfl) zd_La_law_236 rfl (fun H locs hW hS => ?_)
  exact lv_icmp_eq (tgt := 1445) hx hb zd_La_law_239 (by decide) (fun _ => K μ2 H locs hI2 hW hS) (fun c_ => absurd rfl c_)
set_option maxHeartbeats 4000000 in
theorem la_2 (C : LAx p s m args meth c R D AC ad tn A b L xs cells slots) {μ : Mm} {H : Heap} {locs : List Loc} {ls : Array Slot} {i : Nat} (hI : Inv μ) (hW : Wd kA D AC ad μ H) (hS : va_S A s.heap H locs) (hl : lv_has ls 4 (laV ad b i)) (h6 : i + 6 ≤ L)
    (K : ∀ (μ : Mm) (H : Heap) (locs : List Loc), Inv μ → Wd kA D AC ad μ H → va_S A s.heap H locs → W p l e R s m args below meth c H locs cells slots Q (F0 m 1445 ls [])) : W p l e R s m args below meth c H locs cells slots Q (F0 m 244 ls []) := by
  obtain ⟨⟨X, hK, hN⟩, ⟨hA, hi⟩, ⟨hX, hbl, hbA⟩, hL, hR1, hR2, hcs⟩ := C
  have hx := X.1
  have hb := X.2.1
  obtain ⟨r, μ1, μ2, e1, e2, hI2⟩ := go_in hI (xs (nI (i + 1)).toNatClampNeg) (xs (nI (i + 2)).toNatClampNeg)
  refine lv_aload_n hx hb zd_La_law_244 rfl (lv_at hl 2 rfl) ?_
  refine lv_aload_n hx hb zd_La_law_245 rfl (lv_at hl 3 rfl) ?_
  refine lv_iload_n hx hb zd_La_law_246 rfl (lv_at hl 0 rfl) ?_
  refine lv_iconst (v := nI 1) hx hb zd_La_law_247 (by decide) ?_
  refine lv_iadd hx hb zd_La_law_248 ?_
  rw [nI_add]
  refine va_sld hx hb hX hbl hbA hS (i := nI (i + 1)) (vp_in_nI (by omega) (by omega)) zd_La_law_249 ?_
  refine lv_aload_n hx hb zd_La_law_250 rfl (lv_at hl 3 rfl) ?_
  refine lv_iload_n hx hb zd_La_law_251 rfl (lv_at hl 0 rfl) ?_
  refine lv_iconst (v := nI 2) hx hb zd_La_law_252 (by decide) ?_
  refine lv_iadd hx hb zd_La_law_253 ?_
  rw [nI_add]
  refine va_sld hx hb hX hbl hbA hS (i := nI (i + 2)) (vp_in_nI (by omega) (by omega)) zd_La_law_254 ?_
  refine cR (c0 := 109) (k := 0) (as := [.int (xs (nI (i + 1)).toNatClampNeg), .int (xs (nI (i + 2)).toNatClampNeg)]) (B := 60) (ci := 0) (rest := []) (st1 := [.int r]) X hK hN hA hi hW hS (by decide) rfl (Nat.le_of_ble_eq_true rfl) e1 rfl (List.mem_range.mpr (by decide)) rfl zw252 rfl (Nat.le_of_ble_eq_true rfl) hR1 hR2 hcs hl.1 rfl (Nat.le_of_ble_eq_true rfl) zd_La_law_255 rfl (fun H locs hW hS => ?_)
  refine lv_aload_n hx hb zd_La_law_258 rfl (lv_at hl 1 rfl) ?_
  refine lv_aload_n hx hb zd_La_law_259 rfl (lv_at hl 3 rfl) ?_
  refine lv_iload_n hx hb zd_La_law_260 rfl (lv_at hl 0 rfl) ?_
  refine lv_iconst (v := nI 1) hx hb zd_La_law_261 (by decide) ?_
  refine lv_iadd hx hb zd_La_law_262 ?_
  rw [nI_add]
  refine va_sld hx hb hX hbl hbA hS (i := nI (i + 1)) (vp_in_nI (by omega) (by omega)) zd_La_law_263 ?_
  refine lv_aload_n hx hb zd_La_law_264 rfl (lv_at hl 3 rfl) ?_
  refine lv_iload_n hx hb zd_La_law_265 rfl (lv_at hl 0 rfl) ?_
  refine lv_iconst (v := nI 2) hx hb zd_La_law_266 (by decide) ?_
  refine lv_iadd hx hb zd_La_law_267 ?_
  rw [nI_add]
  refine va_sld hx hb hX hbl hbA hS (i := nI (i + 2)) (vp_in_nI (by omega) (by omega)) zd_La_law_268 ?_
  refine cR (c0 := 149) (k := 306) (as := [.int (xs (nI (i + 1)).toNatClampNeg), .int (xs (nI (i + 2)).toNatClampNeg)]) (B := 60) (ci := 6) (rest := [.int r]) (st1 := [.int r, .int r]) X hK hN hA hi hW hS (by decide) rfl (Nat.le_of_ble_eq_true rfl) e2 rfl (List.mem_range.mpr (by decide)) rfl zw1032 rfl (Nat.le_of_ble_eq_true rfl) hR1 hR2 hcs hl.1 rfl (Nat.le_of_ble_eq_true rfl) zd_La_law_269 rfl (fun H locs hW hS => ?_)
  exact lv_icmp_eq (tgt := 1445) hx hb zd_La_law_272 (by decide) (fun _ => K μ2 H locs hI2 hW hS) (fun c_ => absurd rfl c_)
set_option maxHeartbeats 4000000 in
theorem la_3 (C : LAx p s m args meth c R D AC ad tn A b L xs cells slots) {μ : Mm} {H : Heap} {locs : List Loc} {ls : Array Slot} {i : Nat} (hI : Inv μ) (hW : Wd kA D AC ad μ H) (hS : va_S A s.heap H locs) (hl : lv_has ls 4 (laV ad b i)) (h6 : i + 6 ≤ L)
    (K : ∀ (μ : Mm) (H : Heap) (locs : List Loc), Inv μ → Wd kA D AC ad μ H → va_S A s.heap H locs → W p l e R s m args below meth c H locs cells slots Q (F0 m 1445 ls [])) : W p l e R s m args below meth c H locs cells slots Q (F0 m 277 ls []) := by
  obtain ⟨⟨X, hK, hN⟩, ⟨hA, hi⟩, ⟨hX, hbl, hbA⟩, hL, hR1, hR2, hcs⟩ := C
  have hx := X.1
  have hb := X.2.1
  obtain ⟨r, μ1, μ2, e1, e2, hI2⟩ := go_choices hI (xs (nI (i + 1)).toNatClampNeg) (xs (nI (i + 2)).toNatClampNeg) (xs (nI (i + 3)).toNatClampNeg)
  refine lv_aload_n hx hb zd_La_law_277 rfl (lv_at hl 2 rfl) ?_
  refine lv_aload_n hx hb zd_La_law_278 rfl (lv_at hl 3 rfl) ?_
  refine lv_iload_n hx hb zd_La_law_279 rfl (lv_at hl 0 rfl) ?_
  refine lv_iconst (v := nI 1) hx hb zd_La_law_280 (by decide) ?_
  refine lv_iadd hx hb zd_La_law_281 ?_
  rw [nI_add]
  refine va_sld hx hb hX hbl hbA hS (i := nI (i + 1)) (vp_in_nI (by omega) (by omega)) zd_La_law_282 ?_
  refine lv_aload_n hx hb zd_La_law_283 rfl (lv_at hl 3 rfl) ?_
  refine lv_iload_n hx hb zd_La_law_284 rfl (lv_at hl 0 rfl) ?_
  refine lv_iconst (v := nI 2) hx hb zd_La_law_285 (by decide) ?_
  refine lv_iadd hx hb zd_La_law_286 ?_
  rw [nI_add]
  refine va_sld hx hb hX hbl hbA hS (i := nI (i + 2)) (vp_in_nI (by omega) (by omega)) zd_La_law_287 ?_
  refine lv_aload_n hx hb zd_La_law_288 rfl (lv_at hl 3 rfl) ?_
  refine lv_iload_n hx hb zd_La_law_289 rfl (lv_at hl 0 rfl) ?_
  refine lv_iconst (v := nI 3) hx hb zd_La_law_290 (by decide) ?_
  refine lv_iadd hx hb zd_La_law_291 ?_
  rw [nI_add]
  refine va_sld hx hb hX hbl hbA hS (i := nI (i + 3)) (vp_in_nI (by omega) (by omega)) zd_La_law_292 ?_
  refine cR (c0 := 110) (k := 0) (as := [.int (xs (nI (i + 1)).toNatClampNeg), .int (xs (nI (i + 2)).toNatClampNeg), .int (xs (nI (i + 3)).toNatClampNeg)]) (B := 60) (ci := 0) (rest := []) (st1 := [.long r]) X hK hN hA hi hW hS (by decide) rfl (Nat.le_of_ble_eq_true rfl) e1 rfl (List.mem_range.mpr (by decide)) rfl zw257 rfl (Nat.le_of_ble_eq_true rfl) hR1 hR2 hcs hl.1 rfl (Nat.le_of_ble_eq_true rfl) zd_La_law_293 rfl (fun H locs hW hS => ?_)
  refine lv_aload_n hx hb zd_La_law_296 rfl (lv_at hl 1 rfl) ?_
  refine lv_aload_n hx hb zd_La_law_297 rfl (lv_at hl 3 rfl) ?_
  refine lv_iload_n hx hb zd_La_law_298 rfl (lv_at hl 0 rfl) ?_
  refine lv_iconst (v := nI 1) hx hb zd_La_law_299 (by decide) ?_
  refine lv_iadd hx hb zd_La_law_300 ?_
  rw [nI_add]
  refine va_sld hx hb hX hbl hbA hS (i := nI (i + 1)) (vp_in_nI (by omega) (by omega)) zd_La_law_301 ?_
  refine lv_aload_n hx hb zd_La_law_302 rfl (lv_at hl 3 rfl) ?_
  refine lv_iload_n hx hb zd_La_law_303 rfl (lv_at hl 0 rfl) ?_
  refine lv_iconst (v := nI 2) hx hb zd_La_law_304 (by decide) ?_
  refine lv_iadd hx hb zd_La_law_305 ?_
  rw [nI_add]
  refine va_sld hx hb hX hbl hbA hS (i := nI (i + 2)) (vp_in_nI (by omega) (by omega)) zd_La_law_306 ?_
  refine lv_aload_n hx hb zd_La_law_307 rfl (lv_at hl 3 rfl) ?_
  refine lv_iload_n hx hb zd_La_law_308 rfl (lv_at hl 0 rfl) ?_
  refine lv_iconst (v := nI 3) hx hb zd_La_law_309 (by decide) ?_
  refine lv_iadd hx hb zd_La_law_310 ?_
  rw [nI_add]
  refine va_sld hx hb hX hbl hbA hS (i := nI (i + 3)) (vp_in_nI (by omega) (by omega)) zd_La_law_311 ?_
  refine cR (c0 := 167) (k := 306) (as := [.int (xs (nI (i + 1)).toNatClampNeg), .int (xs (nI (i + 2)).toNatClampNeg), .int (xs (nI (i + 3)).toNatClampNeg)]) (B := 60) (ci := 6) (rest := [.long r]) (st1 := [.long r, .long r]) X hK hN hA hi hW hS (by decide) rfl (Nat.le_of_ble_eq_true rfl) e2 rfl (List.mem_range.mpr (by decide)) rfl zw1036 rfl (Nat.le_of_ble_eq_true rfl) hR1 hR2 hcs hl.1 rfl (Nat.le_of_ble_eq_true rfl) zd_La_law_312 rfl (fun H locs hW hS => ?_)
  refine W.lcmp hx hb zd_La_law_315 ?_
  exact lv_if_eq (tgt := 1445) hx hb zd_La_law_316 (by decide) (fun _ => K μ2 H locs hI2 hW hS) (fun c_ => absurd ((lg_cmp_eq _ _).mpr rfl) c_)
set_option maxHeartbeats 4000000 in
theorem la_4 (C : LAx p s m args meth c R D AC ad tn A b L xs cells slots) {μ : Mm} {H : Heap} {locs : List Loc} {ls : Array Slot} {i : Nat} (hI : Inv μ) (hW : Wd kA D AC ad μ H) (hS : va_S A s.heap H locs) (hl : lv_has ls 4 (laV ad b i)) (h6 : i + 6 ≤ L)
    (K : ∀ (μ : Mm) (H : Heap) (locs : List Loc), Inv μ → Wd kA D AC ad μ H → va_S A s.heap H locs → W p l e R s m args below meth c H locs cells slots Q (F0 m 1445 ls [])) : W p l e R s m args below meth c H locs cells slots Q (F0 m 321 ls []) := by
  obtain ⟨⟨X, hK, hN⟩, ⟨hA, hi⟩, ⟨hX, hbl, hbA⟩, hL, hR1, hR2, hcs⟩ := C
  have hx := X.1
  have hb := X.2.1
  obtain ⟨r, μ1, μ2, e1, e2, hI2⟩ := go_subgroups hI (xs (nI (i + 1)).toNatClampNeg) (xs (nI (i + 2)).toNatClampNeg) (xs (nI (i + 3)).toNatClampNeg)
  refine lv_aload_n hx hb zd_La_law_321 rfl (lv_at hl 2 rfl) ?_
  refine lv_aload_n hx hb zd_La_law_322 rfl (lv_at hl 3 rfl) ?_
  refine lv_iload_n hx hb zd_La_law_323 rfl (lv_at hl 0 rfl) ?_
  refine lv_iconst (v := nI 1) hx hb zd_La_law_324 (by decide) ?_
  refine lv_iadd hx hb zd_La_law_325 ?_
  rw [nI_add]
  refine va_sld hx hb hX hbl hbA hS (i := nI (i + 1)) (vp_in_nI (by omega) (by omega)) zd_La_law_326 ?_
  refine lv_aload_n hx hb zd_La_law_327 rfl (lv_at hl 3 rfl) ?_
  refine lv_iload_n hx hb zd_La_law_328 rfl (lv_at hl 0 rfl) ?_
  refine lv_iconst (v := nI 2) hx hb zd_La_law_329 (by decide) ?_
  refine lv_iadd hx hb zd_La_law_330 ?_
  rw [nI_add]
  refine va_sld hx hb hX hbl hbA hS (i := nI (i + 2)) (vp_in_nI (by omega) (by omega)) zd_La_law_331 ?_
  refine lv_aload_n hx hb zd_La_law_332 rfl (lv_at hl 3 rfl) ?_
  refine lv_iload_n hx hb zd_La_law_333 rfl (lv_at hl 0 rfl) ?_
  refine lv_iconst (v := nI 3) hx hb zd_La_law_334 (by decide) ?_
  refine lv_iadd hx hb zd_La_law_335 ?_
  rw [nI_add]
  refine va_sld hx hb hX hbl hbA hS (i := nI (i + 3)) (vp_in_nI (by omega) (by omega)) zd_La_law_336 ?_
  refine cR (c0 := 111) (k := 0) (as := [.int (xs (nI (i + 1)).toNatClampNeg), .int (xs (nI (i + 2)).toNatClampNeg), .int (xs (nI (i + 3)).toNatClampNeg)]) (B := 60) (ci := 0) (rest := []) (st1 := [.long r]) X hK hN hA hi hW hS (by decide) rfl (Nat.le_of_ble_eq_true rfl) e1 rfl (List.mem_range.mpr (by decide)) rfl zw275 rfl (Nat.le_of_ble_eq_true rfl) hR1 hR2 hcs hl.1 rfl (Nat.le_of_ble_eq_true rfl) zd_La_law_337 rfl (fun H locs hW hS => ?_)
  refine lv_aload_n hx hb zd_La_law_340 rfl (lv_at hl 1 rfl) ?_
  refine lv_aload_n hx hb zd_La_law_341 rfl (lv_at hl 3 rfl) ?_
  refine lv_iload_n hx hb zd_La_law_342 rfl (lv_at hl 0 rfl) ?_
  refine lv_iconst (v := nI 1) hx hb zd_La_law_343 (by decide) ?_
  refine lv_iadd hx hb zd_La_law_344 ?_
  rw [nI_add]
  refine va_sld hx hb hX hbl hbA hS (i := nI (i + 1)) (vp_in_nI (by omega) (by omega)) zd_La_law_345 ?_
  refine lv_aload_n hx hb zd_La_law_346 rfl (lv_at hl 3 rfl) ?_
  refine lv_iload_n hx hb zd_La_law_347 rfl (lv_at hl 0 rfl) ?_
  refine lv_iconst (v := nI 2) hx hb zd_La_law_348 (by decide) ?_
  refine lv_iadd hx hb zd_La_law_349 ?_
  rw [nI_add]
  refine va_sld hx hb hX hbl hbA hS (i := nI (i + 2)) (vp_in_nI (by omega) (by omega)) zd_La_law_350 ?_
  refine lv_aload_n hx hb zd_La_law_351 rfl (lv_at hl 3 rfl) ?_
  refine lv_iload_n hx hb zd_La_law_352 rfl (lv_at hl 0 rfl) ?_
  refine lv_iconst (v := nI 3) hx hb zd_La_law_353 (by decide) ?_
  refine lv_iadd hx hb zd_La_law_354 ?_
  rw [nI_add]
  refine va_sld hx hb hX hbl hbA hS (i := nI (i + 3)) (vp_in_nI (by omega) (by omega)) zd_La_law_355 ?_
  refine cR (c0 := 169) (k := 306) (as := [.int (xs (nI (i + 1)).toNatClampNeg), .int (xs (nI (i + 2)).toNatClampNeg), .int (xs (nI (i + 3)).toNatClampNeg)]) (B := 60) (ci := 6) (rest := [.long r]) (st1 := [.long r, .long r]) X hK hN hA hi hW hS (by decide) rfl (Nat.le_of_ble_eq_true rfl) e2 rfl (List.mem_range.mpr (by decide)) rfl zw1060 rfl (Nat.le_of_ble_eq_true rfl) hR1 hR2 hcs hl.1 rfl (Nat.le_of_ble_eq_true rfl) zd_La_law_356 rfl (fun H locs hW hS => ?_)
  refine W.lcmp hx hb zd_La_law_359 ?_
  exact lv_if_eq (tgt := 1445) hx hb zd_La_law_360 (by decide) (fun _ => K μ2 H locs hI2 hW hS) (fun c_ => absurd ((lg_cmp_eq _ _).mpr rfl) c_)
set_option maxHeartbeats 4000000 in
theorem la_5 (C : LAx p s m args meth c R D AC ad tn A b L xs cells slots) {μ : Mm} {H : Heap} {locs : List Loc} {ls : Array Slot} {i : Nat} (hI : Inv μ) (hW : Wd kA D AC ad μ H) (hS : va_S A s.heap H locs) (hl : lv_has ls 4 (laV ad b i)) (h6 : i + 6 ≤ L)
    (K : ∀ (μ : Mm) (H : Heap) (locs : List Loc), Inv μ → Wd kA D AC ad μ H → va_S A s.heap H locs → W p l e R s m args below meth c H locs cells slots Q (F0 m 1445 ls [])) : W p l e R s m args below meth c H locs cells slots Q (F0 m 365 ls []) := by
  obtain ⟨⟨X, hK, hN⟩, ⟨hA, hi⟩, ⟨hX, hbl, hbA⟩, hL, hR1, hR2, hcs⟩ := C
  have hx := X.1
  have hb := X.2.1
  obtain ⟨r, μ1, μ2, e1, e2, hI2⟩ := go_hall hI (xs (nI (i + 1)).toNatClampNeg) (xs (nI (i + 2)).toNatClampNeg) (xs (nI (i + 3)).toNatClampNeg) (xs (nI (i + 4)).toNatClampNeg)
  refine lv_aload_n hx hb zd_La_law_365 rfl (lv_at hl 2 rfl) ?_
  refine lv_aload_n hx hb zd_La_law_366 rfl (lv_at hl 3 rfl) ?_
  refine lv_iload_n hx hb zd_La_law_367 rfl (lv_at hl 0 rfl) ?_
  refine lv_iconst (v := nI 1) hx hb zd_La_law_368 (by decide) ?_
  refine lv_iadd hx hb zd_La_law_369 ?_
  rw [nI_add]
  refine va_sld hx hb hX hbl hbA hS (i := nI (i + 1)) (vp_in_nI (by omega) (by omega)) zd_La_law_370 ?_
  refine lv_aload_n hx hb zd_La_law_371 rfl (lv_at hl 3 rfl) ?_
  refine lv_iload_n hx hb zd_La_law_372 rfl (lv_at hl 0 rfl) ?_
  refine lv_iconst (v := nI 2) hx hb zd_La_law_373 (by decide) ?_
  refine lv_iadd hx hb zd_La_law_374 ?_
  rw [nI_add]
  refine va_sld hx hb hX hbl hbA hS (i := nI (i + 2)) (vp_in_nI (by omega) (by omega)) zd_La_law_375 ?_
  refine lv_aload_n hx hb zd_La_law_376 rfl (lv_at hl 3 rfl) ?_
  refine lv_iload_n hx hb zd_La_law_377 rfl (lv_at hl 0 rfl) ?_
  refine lv_iconst (v := nI 3) hx hb zd_La_law_378 (by decide) ?_
  refine lv_iadd hx hb zd_La_law_379 ?_
  rw [nI_add]
  refine va_sld hx hb hX hbl hbA hS (i := nI (i + 3)) (vp_in_nI (by omega) (by omega)) zd_La_law_380 ?_
  refine lv_aload_n hx hb zd_La_law_381 rfl (lv_at hl 3 rfl) ?_
  refine lv_iload_n hx hb zd_La_law_382 rfl (lv_at hl 0 rfl) ?_
  refine lv_iconst (v := nI 4) hx hb zd_La_law_383 (by decide) ?_
  refine lv_iadd hx hb zd_La_law_384 ?_
  rw [nI_add]
  refine va_sld hx hb hX hbl hbA hS (i := nI (i + 4)) (vp_in_nI (by omega) (by omega)) zd_La_law_385 ?_
  refine cR (c0 := 112) (k := 0) (as := [.int (xs (nI (i + 1)).toNatClampNeg), .int (xs (nI (i + 2)).toNatClampNeg), .int (xs (nI (i + 3)).toNatClampNeg), .int (xs (nI (i + 4)).toNatClampNeg)]) (B := 60) (ci := 0) (rest := []) (st1 := [.long r]) X hK hN hA hi hW hS (by decide) rfl (Nat.le_of_ble_eq_true rfl) e1 rfl (List.mem_range.mpr (by decide)) rfl zw302 rfl (Nat.le_of_ble_eq_true rfl) hR1 hR2 hcs hl.1 rfl (Nat.le_of_ble_eq_true rfl) zd_La_law_386 rfl (fun H locs hW hS => ?_)
  refine lv_aload_n hx hb zd_La_law_389 rfl (lv_at hl 1 rfl) ?_
  refine lv_aload_n hx hb zd_La_law_390 rfl (lv_at hl 3 rfl) ?_
  refine lv_iload_n hx hb zd_La_law_391 rfl (lv_at hl 0 rfl) ?_
  refine lv_iconst (v := nI 1) hx hb zd_La_law_392 (by decide) ?_
  refine lv_iadd hx hb zd_La_law_393 ?_
  rw [nI_add]
  refine va_sld hx hb hX hbl hbA hS (i := nI (i + 1)) (vp_in_nI (by omega) (by omega)) zd_La_law_394 ?_
  refine lv_aload_n hx hb zd_La_law_395 rfl (lv_at hl 3 rfl) ?_
  refine lv_iload_n hx hb zd_La_law_396 rfl (lv_at hl 0 rfl) ?_
  refine lv_iconst (v := nI 2) hx hb zd_La_law_397 (by decide) ?_
  refine lv_iadd hx hb zd_La_law_398 ?_
  rw [nI_add]
  refine va_sld hx hb hX hbl hbA hS (i := nI (i + 2)) (vp_in_nI (by omega) (by omega)) zd_La_law_399 ?_
  refine lv_aload_n hx hb zd_La_law_400 rfl (lv_at hl 3 rfl) ?_
  refine lv_iload_n hx hb zd_La_law_401 rfl (lv_at hl 0 rfl) ?_
  refine lv_iconst (v := nI 3) hx hb zd_La_law_402 (by decide) ?_
  refine lv_iadd hx hb zd_La_law_403 ?_
  rw [nI_add]
  refine va_sld hx hb hX hbl hbA hS (i := nI (i + 3)) (vp_in_nI (by omega) (by omega)) zd_La_law_404 ?_
  refine lv_aload_n hx hb zd_La_law_405 rfl (lv_at hl 3 rfl) ?_
  refine lv_iload_n hx hb zd_La_law_406 rfl (lv_at hl 0 rfl) ?_
  refine lv_iconst (v := nI 4) hx hb zd_La_law_407 (by decide) ?_
  refine lv_iadd hx hb zd_La_law_408 ?_
  rw [nI_add]
  refine va_sld hx hb hX hbl hbA hS (i := nI (i + 4)) (vp_in_nI (by omega) (by omega)) zd_La_law_409 ?_
  refine cR (c0 := 176) (k := 306) (as := [.int (xs (nI (i + 1)).toNatClampNeg), .int (xs (nI (i + 2)).toNatClampNeg), .int (xs (nI (i + 3)).toNatClampNeg), .int (xs (nI (i + 4)).toNatClampNeg)]) (B := 60) (ci := 6) (rest := [.long r]) (st1 := [.long r, .long r]) X hK hN hA hi hW hS (by decide) rfl (Nat.le_of_ble_eq_true rfl) e2 rfl (List.mem_range.mpr (by decide)) rfl zw1072 rfl (Nat.le_of_ble_eq_true rfl) hR1 hR2 hcs hl.1 rfl (Nat.le_of_ble_eq_true rfl) zd_La_law_410 rfl (fun H locs hW hS => ?_)
  refine W.lcmp hx hb zd_La_law_413 ?_
  exact lv_if_eq (tgt := 1445) hx hb zd_La_law_414 (by decide) (fun _ => K μ2 H locs hI2 hW hS) (fun c_ => absurd ((lg_cmp_eq _ _).mpr rfl) c_)
set_option maxHeartbeats 4000000 in
theorem la_6 (C : LAx p s m args meth c R D AC ad tn A b L xs cells slots) {μ : Mm} {H : Heap} {locs : List Loc} {ls : Array Slot} {i : Nat} (hI : Inv μ) (hW : Wd kA D AC ad μ H) (hS : va_S A s.heap H locs) (hl : lv_has ls 4 (laV ad b i)) (h6 : i + 6 ≤ L)
    (K : ∀ (μ : Mm) (H : Heap) (locs : List Loc), Inv μ → Wd kA D AC ad μ H → va_S A s.heap H locs → W p l e R s m args below meth c H locs cells slots Q (F0 m 1445 ls [])) : W p l e R s m args below meth c H locs cells slots Q (F0 m 419 ls []) := by
  obtain ⟨⟨X, hK, hN⟩, ⟨hA, hi⟩, ⟨hX, hbl, hbA⟩, hL, hR1, hR2, hcs⟩ := C
  have hx := X.1
  have hb := X.2.1
  obtain ⟨r, μ1, μ2, e1, e2, hI2⟩ := go_whole hI (xs (nI (i + 1)).toNatClampNeg) (xs (nI (i + 2)).toNatClampNeg) (xs (nI (i + 3)).toNatClampNeg)
  refine lv_aload_n hx hb zd_La_law_419 rfl (lv_at hl 2 rfl) ?_
  refine lv_aload_n hx hb zd_La_law_420 rfl (lv_at hl 3 rfl) ?_
  refine lv_iload_n hx hb zd_La_law_421 rfl (lv_at hl 0 rfl) ?_
  refine lv_iconst (v := nI 1) hx hb zd_La_law_422 (by decide) ?_
  refine lv_iadd hx hb zd_La_law_423 ?_
  rw [nI_add]
  refine va_sld hx hb hX hbl hbA hS (i := nI (i + 1)) (vp_in_nI (by omega) (by omega)) zd_La_law_424 ?_
  refine lv_aload_n hx hb zd_La_law_425 rfl (lv_at hl 3 rfl) ?_
  refine lv_iload_n hx hb zd_La_law_426 rfl (lv_at hl 0 rfl) ?_
  refine lv_iconst (v := nI 2) hx hb zd_La_law_427 (by decide) ?_
  refine lv_iadd hx hb zd_La_law_428 ?_
  rw [nI_add]
  refine va_sld hx hb hX hbl hbA hS (i := nI (i + 2)) (vp_in_nI (by omega) (by omega)) zd_La_law_429 ?_
  refine lv_aload_n hx hb zd_La_law_430 rfl (lv_at hl 3 rfl) ?_
  refine lv_iload_n hx hb zd_La_law_431 rfl (lv_at hl 0 rfl) ?_
  refine lv_iconst (v := nI 3) hx hb zd_La_law_432 (by decide) ?_
  refine lv_iadd hx hb zd_La_law_433 ?_
  rw [nI_add]
  refine va_sld hx hb hX hbl hbA hS (i := nI (i + 3)) (vp_in_nI (by omega) (by omega)) zd_La_law_434 ?_
  refine cR (c0 := 113) (k := 0) (as := [.int (xs (nI (i + 1)).toNatClampNeg), .int (xs (nI (i + 2)).toNatClampNeg), .int (xs (nI (i + 3)).toNatClampNeg)]) (B := 60) (ci := 0) (rest := []) (st1 := [.long r]) X hK hN hA hi hW hS (by decide) rfl (Nat.le_of_ble_eq_true rfl) e1 rfl (List.mem_range.mpr (by decide)) rfl zw321 rfl (Nat.le_of_ble_eq_true rfl) hR1 hR2 hcs hl.1 rfl (Nat.le_of_ble_eq_true rfl) zd_La_law_435 rfl (fun H locs hW hS => ?_)
  refine lv_aload_n hx hb zd_La_law_438 rfl (lv_at hl 1 rfl) ?_
  refine lv_aload_n hx hb zd_La_law_439 rfl (lv_at hl 3 rfl) ?_
  refine lv_iload_n hx hb zd_La_law_440 rfl (lv_at hl 0 rfl) ?_
  refine lv_iconst (v := nI 1) hx hb zd_La_law_441 (by decide) ?_
  refine lv_iadd hx hb zd_La_law_442 ?_
  rw [nI_add]
  refine va_sld hx hb hX hbl hbA hS (i := nI (i + 1)) (vp_in_nI (by omega) (by omega)) zd_La_law_443 ?_
  refine lv_aload_n hx hb zd_La_law_444 rfl (lv_at hl 3 rfl) ?_
  refine lv_iload_n hx hb zd_La_law_445 rfl (lv_at hl 0 rfl) ?_
  refine lv_iconst (v := nI 2) hx hb zd_La_law_446 (by decide) ?_
  refine lv_iadd hx hb zd_La_law_447 ?_
  rw [nI_add]
  refine va_sld hx hb hX hbl hbA hS (i := nI (i + 2)) (vp_in_nI (by omega) (by omega)) zd_La_law_448 ?_
  refine lv_aload_n hx hb zd_La_law_449 rfl (lv_at hl 3 rfl) ?_
  refine lv_iload_n hx hb zd_La_law_450 rfl (lv_at hl 0 rfl) ?_
  refine lv_iconst (v := nI 3) hx hb zd_La_law_451 (by decide) ?_
  refine lv_iadd hx hb zd_La_law_452 ?_
  rw [nI_add]
  refine va_sld hx hb hX hbl hbA hS (i := nI (i + 3)) (vp_in_nI (by omega) (by omega)) zd_La_law_453 ?_
  refine cR (c0 := 182) (k := 306) (as := [.int (xs (nI (i + 1)).toNatClampNeg), .int (xs (nI (i + 2)).toNatClampNeg), .int (xs (nI (i + 3)).toNatClampNeg)]) (B := 60) (ci := 6) (rest := [.long r]) (st1 := [.long r, .long r]) X hK hN hA hi hW hS (by decide) rfl (Nat.le_of_ble_eq_true rfl) e2 rfl (List.mem_range.mpr (by decide)) rfl zw1101 rfl (Nat.le_of_ble_eq_true rfl) hR1 hR2 hcs hl.1 rfl (Nat.le_of_ble_eq_true rfl) zd_La_law_454 rfl (fun H locs hW hS => ?_)
  refine W.lcmp hx hb zd_La_law_457 ?_
  exact lv_if_eq (tgt := 1445) hx hb zd_La_law_458 (by decide) (fun _ => K μ2 H locs hI2 hW hS) (fun c_ => absurd ((lg_cmp_eq _ _).mpr rfl) c_)
set_option maxHeartbeats 4000000 in
theorem la_7 (C : LAx p s m args meth c R D AC ad tn A b L xs cells slots) {μ : Mm} {H : Heap} {locs : List Loc} {ls : Array Slot} {i : Nat} (hI : Inv μ) (hW : Wd kA D AC ad μ H) (hS : va_S A s.heap H locs) (hl : lv_has ls 4 (laV ad b i)) (h6 : i + 6 ≤ L)
    (K : ∀ (μ : Mm) (H : Heap) (locs : List Loc), Inv μ → Wd kA D AC ad μ H → va_S A s.heap H locs → W p l e R s m args below meth c H locs cells slots Q (F0 m 1445 ls [])) : W p l e R s m args below meth c H locs cells slots Q (F0 m 463 ls []) := by
  obtain ⟨⟨X, hK, hN⟩, ⟨hA, hi⟩, ⟨hX, hbl, hbA⟩, hL, hR1, hR2, hcs⟩ := C
  have hx := X.1
  have hb := X.2.1
  obtain ⟨r, μ1, μ2, e1, e2, hI2⟩ := go_value hI (xs (nI (i + 1)).toNatClampNeg) (xs (nI (i + 2)).toNatClampNeg) (xs (nI (i + 3)).toNatClampNeg)
  refine lv_aload_n hx hb zd_La_law_463 rfl (lv_at hl 2 rfl) ?_
  refine lv_aload_n hx hb zd_La_law_464 rfl (lv_at hl 3 rfl) ?_
  refine lv_iload_n hx hb zd_La_law_465 rfl (lv_at hl 0 rfl) ?_
  refine lv_iconst (v := nI 1) hx hb zd_La_law_466 (by decide) ?_
  refine lv_iadd hx hb zd_La_law_467 ?_
  rw [nI_add]
  refine va_sld hx hb hX hbl hbA hS (i := nI (i + 1)) (vp_in_nI (by omega) (by omega)) zd_La_law_468 ?_
  refine lv_aload_n hx hb zd_La_law_469 rfl (lv_at hl 3 rfl) ?_
  refine lv_iload_n hx hb zd_La_law_470 rfl (lv_at hl 0 rfl) ?_
  refine lv_iconst (v := nI 2) hx hb zd_La_law_471 (by decide) ?_
  refine lv_iadd hx hb zd_La_law_472 ?_
  rw [nI_add]
  refine va_sld hx hb hX hbl hbA hS (i := nI (i + 2)) (vp_in_nI (by omega) (by omega)) zd_La_law_473 ?_
  refine lv_aload_n hx hb zd_La_law_474 rfl (lv_at hl 3 rfl) ?_
  refine lv_iload_n hx hb zd_La_law_475 rfl (lv_at hl 0 rfl) ?_
  refine lv_iconst (v := nI 3) hx hb zd_La_law_476 (by decide) ?_
  refine lv_iadd hx hb zd_La_law_477 ?_
  rw [nI_add]
  refine va_sld hx hb hX hbl hbA hS (i := nI (i + 3)) (vp_in_nI (by omega) (by omega)) zd_La_law_478 ?_
  refine cR (c0 := 114) (k := 0) (as := [.int (xs (nI (i + 1)).toNatClampNeg), .int (xs (nI (i + 2)).toNatClampNeg), .int (xs (nI (i + 3)).toNatClampNeg)]) (B := 60) (ci := 0) (rest := []) (st1 := [.long r]) X hK hN hA hi hW hS (by decide) rfl (Nat.le_of_ble_eq_true rfl) e1 rfl (List.mem_range.mpr (by decide)) rfl zw354 rfl (Nat.le_of_ble_eq_true rfl) hR1 hR2 hcs hl.1 rfl (Nat.le_of_ble_eq_true rfl) zd_La_law_479 rfl (fun H locs hW hS => ?_)
  refine lv_aload_n hx hb zd_La_law_482 rfl (lv_at hl 1 rfl) ?_
  refine lv_aload_n hx hb zd_La_law_483 rfl (lv_at hl 3 rfl) ?_
  refine lv_iload_n hx hb zd_La_law_484 rfl (lv_at hl 0 rfl) ?_
  refine lv_iconst (v := nI 1) hx hb zd_La_law_485 (by decide) ?_
  refine lv_iadd hx hb zd_La_law_486 ?_
  rw [nI_add]
  refine va_sld hx hb hX hbl hbA hS (i := nI (i + 1)) (vp_in_nI (by omega) (by omega)) zd_La_law_487 ?_
  refine lv_aload_n hx hb zd_La_law_488 rfl (lv_at hl 3 rfl) ?_
  refine lv_iload_n hx hb zd_La_law_489 rfl (lv_at hl 0 rfl) ?_
  refine lv_iconst (v := nI 2) hx hb zd_La_law_490 (by decide) ?_
  refine lv_iadd hx hb zd_La_law_491 ?_
  rw [nI_add]
  refine va_sld hx hb hX hbl hbA hS (i := nI (i + 2)) (vp_in_nI (by omega) (by omega)) zd_La_law_492 ?_
  refine lv_aload_n hx hb zd_La_law_493 rfl (lv_at hl 3 rfl) ?_
  refine lv_iload_n hx hb zd_La_law_494 rfl (lv_at hl 0 rfl) ?_
  refine lv_iconst (v := nI 3) hx hb zd_La_law_495 (by decide) ?_
  refine lv_iadd hx hb zd_La_law_496 ?_
  rw [nI_add]
  refine va_sld hx hb hX hbl hbA hS (i := nI (i + 3)) (vp_in_nI (by omega) (by omega)) zd_La_law_497 ?_
  refine cR (c0 := 186) (k := 306) (as := [.int (xs (nI (i + 1)).toNatClampNeg), .int (xs (nI (i + 2)).toNatClampNeg), .int (xs (nI (i + 3)).toNatClampNeg)]) (B := 60) (ci := 6) (rest := [.long r]) (st1 := [.long r, .long r]) X hK hN hA hi hW hS (by decide) rfl (Nat.le_of_ble_eq_true rfl) e2 rfl (List.mem_range.mpr (by decide)) rfl zw1126 rfl (Nat.le_of_ble_eq_true rfl) hR1 hR2 hcs hl.1 rfl (Nat.le_of_ble_eq_true rfl) zd_La_law_498 rfl (fun H locs hW hS => ?_)
  refine W.lcmp hx hb zd_La_law_501 ?_
  exact lv_if_eq (tgt := 1445) hx hb zd_La_law_502 (by decide) (fun _ => K μ2 H locs hI2 hW hS) (fun c_ => absurd ((lg_cmp_eq _ _).mpr rfl) c_)
set_option maxHeartbeats 4000000 in
theorem la_8 (C : LAx p s m args meth c R D AC ad tn A b L xs cells slots) {μ : Mm} {H : Heap} {locs : List Loc} {ls : Array Slot} {i : Nat} (hI : Inv μ) (hW : Wd kA D AC ad μ H) (hS : va_S A s.heap H locs) (hl : lv_has ls 4 (laV ad b i)) (h6 : i + 6 ≤ L)
    (K : ∀ (μ : Mm) (H : Heap) (locs : List Loc), Inv μ → Wd kA D AC ad μ H → va_S A s.heap H locs → W p l e R s m args below meth c H locs cells slots Q (F0 m 1445 ls [])) : W p l e R s m args below meth c H locs cells slots Q (F0 m 507 ls []) := by
  obtain ⟨⟨X, hK, hN⟩, ⟨hA, hi⟩, ⟨hX, hbl, hbA⟩, hL, hR1, hR2, hcs⟩ := C
  have hx := X.1
  have hb := X.2.1
  obtain ⟨r, μ1, μ2, e1, e2, hI2⟩ := go_group hI (xs (nI (i + 1)).toNatClampNeg) (xs (nI (i + 2)).toNatClampNeg)
  refine lv_aload_n hx hb zd_La_law_507 rfl (lv_at hl 2 rfl) ?_
  refine lv_aload_n hx hb zd_La_law_508 rfl (lv_at hl 3 rfl) ?_
  refine lv_iload_n hx hb zd_La_law_509 rfl (lv_at hl 0 rfl) ?_
  refine lv_iconst (v := nI 1) hx hb zd_La_law_510 (by decide) ?_
  refine lv_iadd hx hb zd_La_law_511 ?_
  rw [nI_add]
  refine va_sld hx hb hX hbl hbA hS (i := nI (i + 1)) (vp_in_nI (by omega) (by omega)) zd_La_law_512 ?_
  refine lv_aload_n hx hb zd_La_law_513 rfl (lv_at hl 3 rfl) ?_
  refine lv_iload_n hx hb zd_La_law_514 rfl (lv_at hl 0 rfl) ?_
  refine lv_iconst (v := nI 2) hx hb zd_La_law_515 (by decide) ?_
  refine lv_iadd hx hb zd_La_law_516 ?_
  rw [nI_add]
  refine va_sld hx hb hX hbl hbA hS (i := nI (i + 2)) (vp_in_nI (by omega) (by omega)) zd_La_law_517 ?_
  refine cR (c0 := 116) (k := 0) (as := [.int (xs (nI (i + 1)).toNatClampNeg), .int (xs (nI (i + 2)).toNatClampNeg)]) (B := 60) (ci := 0) (rest := []) (st1 := [.int r]) X hK hN hA hi hW hS (by decide) rfl (Nat.le_of_ble_eq_true rfl) e1 rfl (List.mem_range.mpr (by decide)) rfl zw364 rfl (Nat.le_of_ble_eq_true rfl) hR1 hR2 hcs hl.1 rfl (Nat.le_of_ble_eq_true rfl) zd_La_law_518 rfl (fun H locs hW hS => ?_)
  refine lv_aload_n hx hb zd_La_law_521 rfl (lv_at hl 1 rfl) ?_
  refine lv_aload_n hx hb zd_La_law_522 rfl (lv_at hl 3 rfl) ?_
  refine lv_iload_n hx hb zd_La_law_523 rfl (lv_at hl 0 rfl) ?_
  refine lv_iconst (v := nI 1) hx hb zd_La_law_524 (by decide) ?_
  refine lv_iadd hx hb zd_La_law_525 ?_
  rw [nI_add]
  refine va_sld hx hb hX hbl hbA hS (i := nI (i + 1)) (vp_in_nI (by omega) (by omega)) zd_La_law_526 ?_
  refine lv_aload_n hx hb zd_La_law_527 rfl (lv_at hl 3 rfl) ?_
  refine lv_iload_n hx hb zd_La_law_528 rfl (lv_at hl 0 rfl) ?_
  refine lv_iconst (v := nI 2) hx hb zd_La_law_529 (by decide) ?_
  refine lv_iadd hx hb zd_La_law_530 ?_
  rw [nI_add]
  refine va_sld hx hb hX hbl hbA hS (i := nI (i + 2)) (vp_in_nI (by omega) (by omega)) zd_La_law_531 ?_
  refine cR (c0 := 189) (k := 306) (as := [.int (xs (nI (i + 1)).toNatClampNeg), .int (xs (nI (i + 2)).toNatClampNeg)]) (B := 60) (ci := 6) (rest := [.int r]) (st1 := [.int r, .int r]) X hK hN hA hi hW hS (by decide) rfl (Nat.le_of_ble_eq_true rfl) e2 rfl (List.mem_range.mpr (by decide)) rfl zw1137 rfl (Nat.le_of_ble_eq_true rfl) hR1 hR2 hcs hl.1 rfl (Nat.le_of_ble_eq_true rfl) zd_La_law_532 rfl (fun H locs hW hS => ?_)
  exact lv_icmp_eq (tgt := 1445) hx hb zd_La_law_535 (by decide) (fun _ => K μ2 H locs hI2 hW hS) (fun c_ => absurd rfl c_)
set_option maxHeartbeats 4000000 in
theorem la_9 (C : LAx p s m args meth c R D AC ad tn A b L xs cells slots) {μ : Mm} {H : Heap} {locs : List Loc} {ls : Array Slot} {i : Nat} (hI : Inv μ) (hW : Wd kA D AC ad μ H) (hS : va_S A s.heap H locs) (hl : lv_has ls 4 (laV ad b i)) (h6 : i + 6 ≤ L)
    (K : ∀ (μ : Mm) (H : Heap) (locs : List Loc), Inv μ → Wd kA D AC ad μ H → va_S A s.heap H locs → W p l e R s m args below meth c H locs cells slots Q (F0 m 1445 ls [])) : W p l e R s m args below meth c H locs cells slots Q (F0 m 540 ls []) := by
  obtain ⟨⟨X, hK, hN⟩, ⟨hA, hi⟩, ⟨hX, hbl, hbA⟩, hL, hR1, hR2, hcs⟩ := C
  have hx := X.1
  have hb := X.2.1
  obtain ⟨r, μ1, μ2, e1, e2, hI2⟩ := go_sum hI (xs (nI (i + 1)).toNatClampNeg) (xs (nI (i + 2)).toNatClampNeg)
  refine lv_aload_n hx hb zd_La_law_540 rfl (lv_at hl 2 rfl) ?_
  refine lv_aload_n hx hb zd_La_law_541 rfl (lv_at hl 3 rfl) ?_
  refine lv_iload_n hx hb zd_La_law_542 rfl (lv_at hl 0 rfl) ?_
  refine lv_iconst (v := nI 1) hx hb zd_La_law_543 (by decide) ?_
  refine lv_iadd hx hb zd_La_law_544 ?_
  rw [nI_add]
  refine va_sld hx hb hX hbl hbA hS (i := nI (i + 1)) (vp_in_nI (by omega) (by omega)) zd_La_law_545 ?_
  refine lv_aload_n hx hb zd_La_law_546 rfl (lv_at hl 3 rfl) ?_
  refine lv_iload_n hx hb zd_La_law_547 rfl (lv_at hl 0 rfl) ?_
  refine lv_iconst (v := nI 2) hx hb zd_La_law_548 (by decide) ?_
  refine lv_iadd hx hb zd_La_law_549 ?_
  rw [nI_add]
  refine va_sld hx hb hX hbl hbA hS (i := nI (i + 2)) (vp_in_nI (by omega) (by omega)) zd_La_law_550 ?_
  refine cR (c0 := 117) (k := 0) (as := [.int (xs (nI (i + 1)).toNatClampNeg), .int (xs (nI (i + 2)).toNatClampNeg)]) (B := 60) (ci := 0) (rest := []) (st1 := [.int r]) X hK hN hA hi hW hS (by decide) rfl (Nat.le_of_ble_eq_true rfl) e1 rfl (List.mem_range.mpr (by decide)) rfl zw415 rfl (Nat.le_of_ble_eq_true rfl) hR1 hR2 hcs hl.1 rfl (Nat.le_of_ble_eq_true rfl) zd_La_law_551 rfl (fun H locs hW hS => ?_)
  refine lv_aload_n hx hb zd_La_law_554 rfl (lv_at hl 1 rfl) ?_
  refine lv_aload_n hx hb zd_La_law_555 rfl (lv_at hl 3 rfl) ?_
  refine lv_iload_n hx hb zd_La_law_556 rfl (lv_at hl 0 rfl) ?_
  refine lv_iconst (v := nI 1) hx hb zd_La_law_557 (by decide) ?_
  refine lv_iadd hx hb zd_La_law_558 ?_
  rw [nI_add]
  refine va_sld hx hb hX hbl hbA hS (i := nI (i + 1)) (vp_in_nI (by omega) (by omega)) zd_La_law_559 ?_
  refine lv_aload_n hx hb zd_La_law_560 rfl (lv_at hl 3 rfl) ?_
  refine lv_iload_n hx hb zd_La_law_561 rfl (lv_at hl 0 rfl) ?_
  refine lv_iconst (v := nI 2) hx hb zd_La_law_562 (by decide) ?_
  refine lv_iadd hx hb zd_La_law_563 ?_
  rw [nI_add]
  refine va_sld hx hb hX hbl hbA hS (i := nI (i + 2)) (vp_in_nI (by omega) (by omega)) zd_La_law_564 ?_
  refine cR (c0 := 193) (k := 306) (as := [.int (xs (nI (i + 1)).toNatClampNeg), .int (xs (nI (i + 2)).toNatClampNeg)]) (B := 60) (ci := 6) (rest := [.int r]) (st1 := [.int r, .int r]) X hK hN hA hi hW hS (by decide) rfl (Nat.le_of_ble_eq_true rfl) e2 rfl (List.mem_range.mpr (by decide)) rfl zw1148 rfl (Nat.le_of_ble_eq_true rfl) hR1 hR2 hcs hl.1 rfl (Nat.le_of_ble_eq_true rfl) zd_La_law_565 rfl (fun H locs hW hS => ?_)
  exact lv_icmp_eq (tgt := 1445) hx hb zd_La_law_568 (by decide) (fun _ => K μ2 H locs hI2 hW hS) (fun c_ => absurd rfl c_)
set_option maxHeartbeats 4000000 in
theorem la_10 (C : LAx p s m args meth c R D AC ad tn A b L xs cells slots) {μ : Mm} {H : Heap} {locs : List Loc} {ls : Array Slot} {i : Nat} (hI : Inv μ) (hW : Wd kA D AC ad μ H) (hS : va_S A s.heap H locs) (hl : lv_has ls 4 (laV ad b i)) (h6 : i + 6 ≤ L)
    (K : ∀ (μ : Mm) (H : Heap) (locs : List Loc), Inv μ → Wd kA D AC ad μ H → va_S A s.heap H locs → W p l e R s m args below meth c H locs cells slots Q (F0 m 1445 ls [])) : W p l e R s m args below meth c H locs cells slots Q (F0 m 573 ls []) := by
  obtain ⟨⟨X, hK, hN⟩, ⟨hA, hi⟩, ⟨hX, hbl, hbA⟩, hL, hR1, hR2, hcs⟩ := C
  have hx := X.1
  have hb := X.2.1
  obtain ⟨r, μ1, μ2, e1, e2, hI2⟩ := go_times hI (xs (nI (i + 1)).toNatClampNeg) (xs (nI (i + 2)).toNatClampNeg)
  refine lv_aload_n hx hb zd_La_law_573 rfl (lv_at hl 2 rfl) ?_
  refine lv_aload_n hx hb zd_La_law_574 rfl (lv_at hl 3 rfl) ?_
  refine lv_iload_n hx hb zd_La_law_575 rfl (lv_at hl 0 rfl) ?_
  refine lv_iconst (v := nI 1) hx hb zd_La_law_576 (by decide) ?_
  refine lv_iadd hx hb zd_La_law_577 ?_
  rw [nI_add]
  refine va_sld hx hb hX hbl hbA hS (i := nI (i + 1)) (vp_in_nI (by omega) (by omega)) zd_La_law_578 ?_
  refine lv_aload_n hx hb zd_La_law_579 rfl (lv_at hl 3 rfl) ?_
  refine lv_iload_n hx hb zd_La_law_580 rfl (lv_at hl 0 rfl) ?_
  refine lv_iconst (v := nI 2) hx hb zd_La_law_581 (by decide) ?_
  refine lv_iadd hx hb zd_La_law_582 ?_
  rw [nI_add]
  refine va_sld hx hb hX hbl hbA hS (i := nI (i + 2)) (vp_in_nI (by omega) (by omega)) zd_La_law_583 ?_
  refine cR (c0 := 118) (k := 0) (as := [.int (xs (nI (i + 1)).toNatClampNeg), .int (xs (nI (i + 2)).toNatClampNeg)]) (B := 60) (ci := 0) (rest := []) (st1 := [.int r]) X hK hN hA hi hW hS (by decide) rfl (Nat.le_of_ble_eq_true rfl) e1 rfl (List.mem_range.mpr (by decide)) rfl zw427 rfl (Nat.le_of_ble_eq_true rfl) hR1 hR2 hcs hl.1 rfl (Nat.le_of_ble_eq_true rfl) zd_La_law_584 rfl (fun H locs hW hS => ?_)
  refine lv_aload_n hx hb zd_La_law_587 rfl (lv_at hl 1 rfl) ?_
  refine lv_aload_n hx hb zd_La_law_588 rfl (lv_at hl 3 rfl) ?_
  refine lv_iload_n hx hb zd_La_law_589 rfl (lv_at hl 0 rfl) ?_
  refine lv_iconst (v := nI 1) hx hb zd_La_law_590 (by decide) ?_
  refine lv_iadd hx hb zd_La_law_591 ?_
  rw [nI_add]
  refine va_sld hx hb hX hbl hbA hS (i := nI (i + 1)) (vp_in_nI (by omega) (by omega)) zd_La_law_592 ?_
  refine lv_aload_n hx hb zd_La_law_593 rfl (lv_at hl 3 rfl) ?_
  refine lv_iload_n hx hb zd_La_law_594 rfl (lv_at hl 0 rfl) ?_
  refine lv_iconst (v := nI 2) hx hb zd_La_law_595 (by decide) ?_
  refine lv_iadd hx hb zd_La_law_596 ?_
  rw [nI_add]
  refine va_sld hx hb hX hbl hbA hS (i := nI (i + 2)) (vp_in_nI (by omega) (by omega)) zd_La_law_597 ?_
  refine cR (c0 := 194) (k := 306) (as := [.int (xs (nI (i + 1)).toNatClampNeg), .int (xs (nI (i + 2)).toNatClampNeg)]) (B := 60) (ci := 6) (rest := [.int r]) (st1 := [.int r, .int r]) X hK hN hA hi hW hS (by decide) rfl (Nat.le_of_ble_eq_true rfl) e2 rfl (List.mem_range.mpr (by decide)) rfl zw1161 rfl (Nat.le_of_ble_eq_true rfl) hR1 hR2 hcs hl.1 rfl (Nat.le_of_ble_eq_true rfl) zd_La_law_598 rfl (fun H locs hW hS => ?_)
  exact lv_icmp_eq (tgt := 1445) hx hb zd_La_law_601 (by decide) (fun _ => K μ2 H locs hI2 hW hS) (fun c_ => absurd rfl c_)
set_option maxHeartbeats 4000000 in
theorem la_11 (C : LAx p s m args meth c R D AC ad tn A b L xs cells slots) {μ : Mm} {H : Heap} {locs : List Loc} {ls : Array Slot} {i : Nat} (hI : Inv μ) (hW : Wd kA D AC ad μ H) (hS : va_S A s.heap H locs) (hl : lv_has ls 4 (laV ad b i)) (h6 : i + 6 ≤ L)
    (K : ∀ (μ : Mm) (H : Heap) (locs : List Loc), Inv μ → Wd kA D AC ad μ H → va_S A s.heap H locs → W p l e R s m args below meth c H locs cells slots Q (F0 m 1445 ls [])) : W p l e R s m args below meth c H locs cells slots Q (F0 m 606 ls []) := by
  obtain ⟨⟨X, hK, hN⟩, ⟨hA, hi⟩, ⟨hX, hbl, hbA⟩, hL, hR1, hR2, hcs⟩ := C
  have hx := X.1
  have hb := X.2.1
  obtain ⟨r, μ1, μ2, e1, e2, hI2⟩ := go_order hI (xs (nI (i + 1)).toNatClampNeg)
  refine lv_aload_n hx hb zd_La_law_606 rfl (lv_at hl 2 rfl) ?_
  refine lv_aload_n hx hb zd_La_law_607 rfl (lv_at hl 3 rfl) ?_
  refine lv_iload_n hx hb zd_La_law_608 rfl (lv_at hl 0 rfl) ?_
  refine lv_iconst (v := nI 1) hx hb zd_La_law_609 (by decide) ?_
  refine lv_iadd hx hb zd_La_law_610 ?_
  rw [nI_add]
  refine va_sld hx hb hX hbl hbA hS (i := nI (i + 1)) (vp_in_nI (by omega) (by omega)) zd_La_law_611 ?_
  refine cR (c0 := 119) (k := 0) (as := [.int (xs (nI (i + 1)).toNatClampNeg)]) (B := 60) (ci := 0) (rest := []) (st1 := [.int r]) X hK hN hA hi hW hS (by decide) rfl (Nat.le_of_ble_eq_true rfl) e1 rfl (List.mem_range.mpr (by decide)) rfl zw432 rfl (Nat.le_of_ble_eq_true rfl) hR1 hR2 hcs hl.1 rfl (Nat.le_of_ble_eq_true rfl) zd_La_law_612 rfl (fun H locs hW hS => ?_)
  refine lv_aload_n hx hb zd_La_law_615 rfl (lv_at hl 1 rfl) ?_
  refine lv_aload_n hx hb zd_La_law_616 rfl (lv_at hl 3 rfl) ?_
  refine lv_iload_n hx hb zd_La_law_617 rfl (lv_at hl 0 rfl) ?_
  refine lv_iconst (v := nI 1) hx hb zd_La_law_618 (by decide) ?_
  refine lv_iadd hx hb zd_La_law_619 ?_
  rw [nI_add]
  refine va_sld hx hb hX hbl hbA hS (i := nI (i + 1)) (vp_in_nI (by omega) (by omega)) zd_La_law_620 ?_
  refine cR (c0 := 195) (k := 306) (as := [.int (xs (nI (i + 1)).toNatClampNeg)]) (B := 60) (ci := 6) (rest := [.int r]) (st1 := [.int r, .int r]) X hK hN hA hi hW hS (by decide) rfl (Nat.le_of_ble_eq_true rfl) e2 rfl (List.mem_range.mpr (by decide)) rfl zw1165 rfl (Nat.le_of_ble_eq_true rfl) hR1 hR2 hcs hl.1 rfl (Nat.le_of_ble_eq_true rfl) zd_La_law_621 rfl (fun H locs hW hS => ?_)
  exact lv_icmp_eq (tgt := 1445) hx hb zd_La_law_624 (by decide) (fun _ => K μ2 H locs hI2 hW hS) (fun c_ => absurd rfl c_)
set_option maxHeartbeats 4000000 in
theorem la_12 (C : LAx p s m args meth c R D AC ad tn A b L xs cells slots) {μ : Mm} {H : Heap} {locs : List Loc} {ls : Array Slot} {i : Nat} (hI : Inv μ) (hW : Wd kA D AC ad μ H) (hS : va_S A s.heap H locs) (hl : lv_has ls 4 (laV ad b i)) (h6 : i + 6 ≤ L)
    (K : ∀ (μ : Mm) (H : Heap) (locs : List Loc), Inv μ → Wd kA D AC ad μ H → va_S A s.heap H locs → W p l e R s m args below meth c H locs cells slots Q (F0 m 1445 ls [])) : W p l e R s m args below meth c H locs cells slots Q (F0 m 629 ls []) := by
  obtain ⟨⟨X, hK, hN⟩, ⟨hA, hi⟩, ⟨hX, hbl, hbA⟩, hL, hR1, hR2, hcs⟩ := C
  have hx := X.1
  have hb := X.2.1
  obtain ⟨r, μ1, μ2, e1, e2, hI2⟩ := go_figure hI (xs (nI (i + 1)).toNatClampNeg) (xs (nI (i + 2)).toNatClampNeg)
  refine lv_aload_n hx hb zd_La_law_629 rfl (lv_at hl 2 rfl) ?_
  refine lv_aload_n hx hb zd_La_law_630 rfl (lv_at hl 3 rfl) ?_
  refine lv_iload_n hx hb zd_La_law_631 rfl (lv_at hl 0 rfl) ?_
  refine lv_iconst (v := nI 1) hx hb zd_La_law_632 (by decide) ?_
  refine lv_iadd hx hb zd_La_law_633 ?_
  rw [nI_add]
  refine va_sld hx hb hX hbl hbA hS (i := nI (i + 1)) (vp_in_nI (by omega) (by omega)) zd_La_law_634 ?_
  refine lv_aload_n hx hb zd_La_law_635 rfl (lv_at hl 3 rfl) ?_
  refine lv_iload_n hx hb zd_La_law_636 rfl (lv_at hl 0 rfl) ?_
  refine lv_iconst (v := nI 2) hx hb zd_La_law_637 (by decide) ?_
  refine lv_iadd hx hb zd_La_law_638 ?_
  rw [nI_add]
  refine va_sld hx hb hX hbl hbA hS (i := nI (i + 2)) (vp_in_nI (by omega) (by omega)) zd_La_law_639 ?_
  refine cR (c0 := 120) (k := 0) (as := [.int (xs (nI (i + 1)).toNatClampNeg), .int (xs (nI (i + 2)).toNatClampNeg)]) (B := 60) (ci := 0) (rest := []) (st1 := [.int r]) X hK hN hA hi hW hS (by decide) rfl (Nat.le_of_ble_eq_true rfl) e1 rfl (List.mem_range.mpr (by decide)) rfl zw441 rfl (Nat.le_of_ble_eq_true rfl) hR1 hR2 hcs hl.1 rfl (Nat.le_of_ble_eq_true rfl) zd_La_law_640 rfl (fun H locs hW hS => ?_)
  refine lv_aload_n hx hb zd_La_law_643 rfl (lv_at hl 1 rfl) ?_
  refine lv_aload_n hx hb zd_La_law_644 rfl (lv_at hl 3 rfl) ?_
  refine lv_iload_n hx hb zd_La_law_645 rfl (lv_at hl 0 rfl) ?_
  refine lv_iconst (v := nI 1) hx hb zd_La_law_646 (by decide) ?_
  refine lv_iadd hx hb zd_La_law_647 ?_
  rw [nI_add]
  refine va_sld hx hb hX hbl hbA hS (i := nI (i + 1)) (vp_in_nI (by omega) (by omega)) zd_La_law_648 ?_
  refine lv_aload_n hx hb zd_La_law_649 rfl (lv_at hl 3 rfl) ?_
  refine lv_iload_n hx hb zd_La_law_650 rfl (lv_at hl 0 rfl) ?_
  refine lv_iconst (v := nI 2) hx hb zd_La_law_651 (by decide) ?_
  refine lv_iadd hx hb zd_La_law_652 ?_
  rw [nI_add]
  refine va_sld hx hb hX hbl hbA hS (i := nI (i + 2)) (vp_in_nI (by omega) (by omega)) zd_La_law_653 ?_
  refine cR (c0 := 196) (k := 306) (as := [.int (xs (nI (i + 1)).toNatClampNeg), .int (xs (nI (i + 2)).toNatClampNeg)]) (B := 60) (ci := 6) (rest := [.int r]) (st1 := [.int r, .int r]) X hK hN hA hi hW hS (by decide) rfl (Nat.le_of_ble_eq_true rfl) e2 rfl (List.mem_range.mpr (by decide)) rfl zw1169 rfl (Nat.le_of_ble_eq_true rfl) hR1 hR2 hcs hl.1 rfl (Nat.le_of_ble_eq_true rfl) zd_La_law_654 rfl (fun H locs hW hS => ?_)
  exact lv_icmp_eq (tgt := 1445) hx hb zd_La_law_657 (by decide) (fun _ => K μ2 H locs hI2 hW hS) (fun c_ => absurd rfl c_)
set_option maxHeartbeats 4000000 in
theorem la_13 (C : LAx p s m args meth c R D AC ad tn A b L xs cells slots) {μ : Mm} {H : Heap} {locs : List Loc} {ls : Array Slot} {i : Nat} (hI : Inv μ) (hW : Wd kA D AC ad μ H) (hS : va_S A s.heap H locs) (hl : lv_has ls 4 (laV ad b i)) (h6 : i + 6 ≤ L)
    (K : ∀ (μ : Mm) (H : Heap) (locs : List Loc), Inv μ → Wd kA D AC ad μ H → va_S A s.heap H locs → W p l e R s m args below meth c H locs cells slots Q (F0 m 1445 ls [])) : W p l e R s m args below meth c H locs cells slots Q (F0 m 662 ls []) := by
  obtain ⟨⟨X, hK, hN⟩, ⟨hA, hi⟩, ⟨hX, hbl, hbA⟩, hL, hR1, hR2, hcs⟩ := C
  have hx := X.1
  have hb := X.2.1
  obtain ⟨r, μ1, μ2, e1, e2, hI2⟩ := go_span hI (((xs (nI (i + 1)).toNatClampNeg).toInt64 <<< ((32 : Int32).toInt64 &&& 63)) ||| ((xs (nI (i + 2)).toNatClampNeg).toInt64 &&& (4294967295 : Int64)))
  refine lv_aload_n hx hb zd_La_law_662 rfl (lv_at hl 2 rfl) ?_
  refine lv_aload_n hx hb zd_La_law_663 rfl (lv_at hl 3 rfl) ?_
  refine lv_iload_n hx hb zd_La_law_664 rfl (lv_at hl 0 rfl) ?_
  refine lv_iconst (v := nI 1) hx hb zd_La_law_665 (by decide) ?_
  refine lv_iadd hx hb zd_La_law_666 ?_
  rw [nI_add]
  refine va_sld hx hb hX hbl hbA hS (i := nI (i + 1)) (vp_in_nI (by omega) (by omega)) zd_La_law_667 ?_
  refine lv_i2l hx hb zd_La_law_668 rfl ?_
  refine lv_bipush (v := (32 : Int32)) hx hb zd_La_law_669 (by decide) ?_
  refine lv_lshl (v := (xs (nI (i + 1)).toNatClampNeg).toInt64 <<< ((32 : Int32).toInt64 &&& 63)) hx hb zd_La_law_671 rfl ?_
  refine lv_aload_n hx hb zd_La_law_672 rfl (lv_at hl 3 rfl) ?_
  refine lv_iload_n hx hb zd_La_law_673 rfl (lv_at hl 0 rfl) ?_
  refine lv_iconst (v := nI 2) hx hb zd_La_law_674 (by decide) ?_
  refine lv_iadd hx hb zd_La_law_675 ?_
  rw [nI_add]
  refine va_sld hx hb hX hbl hbA hS (i := nI (i + 2)) (vp_in_nI (by omega) (by omega)) zd_La_law_676 ?_
  refine lv_i2l hx hb zd_La_law_677 rfl ?_
  refine lv_ldc2 (v := (4294967295 : Int64)) hx hb X.2.2.2.1 (X.2.2.2.2.1 _ zw1397) zd_La_law_678 ?_
  refine lv_land hx hb zd_La_law_681 ?_
  refine lv_lor hx hb zd_La_law_682 ?_
  refine cR (c0 := 121) (k := 0) (as := [.long (((xs (nI (i + 1)).toNatClampNeg).toInt64 <<< ((32 : Int32).toInt64 &&& 63)) ||| ((xs (nI (i + 2)).toNatClampNeg).toInt64 &&& (4294967295 : Int64)))]) (B := 60) (ci := 0) (rest := []) (st1 := [.long r]) X hK hN hA hi hW hS (by decide) rfl (Nat.le_of_ble_eq_true rfl) e1 rfl (List.mem_range.mpr (by decide)) rfl zw450 rfl (Nat.le_of_ble_eq_true rfl) hR1 hR2 hcs hl.1 rfl (Nat.le_of_ble_eq_true rfl) zd_La_law_683 rfl (fun H locs hW hS => ?_)
  refine lv_aload_n hx hb zd_La_law_686 rfl (lv_at hl 1 rfl) ?_
  refine lv_aload_n hx hb zd_La_law_687 rfl (lv_at hl 3 rfl) ?_
  refine lv_iload_n hx hb zd_La_law_688 rfl (lv_at hl 0 rfl) ?_
  refine lv_iconst (v := nI 1) hx hb zd_La_law_689 (by decide) ?_
  refine lv_iadd hx hb zd_La_law_690 ?_
  rw [nI_add]
  refine va_sld hx hb hX hbl hbA hS (i := nI (i + 1)) (vp_in_nI (by omega) (by omega)) zd_La_law_691 ?_
  refine lv_i2l hx hb zd_La_law_692 rfl ?_
  refine lv_bipush (v := (32 : Int32)) hx hb zd_La_law_693 (by decide) ?_
  refine lv_lshl (v := (xs (nI (i + 1)).toNatClampNeg).toInt64 <<< ((32 : Int32).toInt64 &&& 63)) hx hb zd_La_law_695 rfl ?_
  refine lv_aload_n hx hb zd_La_law_696 rfl (lv_at hl 3 rfl) ?_
  refine lv_iload_n hx hb zd_La_law_697 rfl (lv_at hl 0 rfl) ?_
  refine lv_iconst (v := nI 2) hx hb zd_La_law_698 (by decide) ?_
  refine lv_iadd hx hb zd_La_law_699 ?_
  rw [nI_add]
  refine va_sld hx hb hX hbl hbA hS (i := nI (i + 2)) (vp_in_nI (by omega) (by omega)) zd_La_law_700 ?_
  refine lv_i2l hx hb zd_La_law_701 rfl ?_
  refine lv_ldc2 (v := (4294967295 : Int64)) hx hb X.2.2.2.1 (X.2.2.2.2.1 _ zw1397) zd_La_law_702 ?_
  refine lv_land hx hb zd_La_law_705 ?_
  refine lv_lor hx hb zd_La_law_706 ?_
  refine cR (c0 := 202) (k := 306) (as := [.long (((xs (nI (i + 1)).toNatClampNeg).toInt64 <<< ((32 : Int32).toInt64 &&& 63)) ||| ((xs (nI (i + 2)).toNatClampNeg).toInt64 &&& (4294967295 : Int64)))]) (B := 60) (ci := 6) (rest := [.long r]) (st1 := [.long r, .long r]) X hK hN hA hi hW hS (by decide) rfl (Nat.le_of_ble_eq_true rfl) e2 rfl (List.mem_range.mpr (by decide)) rfl zw1173 rfl (Nat.le_of_ble_eq_true rfl) hR1 hR2 hcs hl.1 rfl (Nat.le_of_ble_eq_true rfl) zd_La_law_707 rfl (fun H locs hW hS => ?_)
  refine W.lcmp hx hb zd_La_law_710 ?_
  exact lv_if_eq (tgt := 1445) hx hb zd_La_law_711 (by decide) (fun _ => K μ2 H locs hI2 hW hS) (fun c_ => absurd ((lg_cmp_eq _ _).mpr rfl) c_)
set_option maxHeartbeats 4000000 in
theorem la_14 (C : LAx p s m args meth c R D AC ad tn A b L xs cells slots) {μ : Mm} {H : Heap} {locs : List Loc} {ls : Array Slot} {i : Nat} (hI : Inv μ) (hW : Wd kA D AC ad μ H) (hS : va_S A s.heap H locs) (hl : lv_has ls 4 (laV ad b i)) (h6 : i + 6 ≤ L)
    (K : ∀ (μ : Mm) (H : Heap) (locs : List Loc), Inv μ → Wd kA D AC ad μ H → va_S A s.heap H locs → W p l e R s m args below meth c H locs cells slots Q (F0 m 1445 ls [])) : W p l e R s m args below meth c H locs cells slots Q (F0 m 716 ls []) := by
  obtain ⟨⟨X, hK, hN⟩, ⟨hA, hi⟩, ⟨hX, hbl, hbA⟩, hL, hR1, hR2, hcs⟩ := C
  have hx := X.1
  have hb := X.2.1
  obtain ⟨r, μ1, μ2, e1, e2, hI2⟩ := go_meet hI (((xs (nI (i + 1)).toNatClampNeg).toInt64 <<< ((32 : Int32).toInt64 &&& 63)) ||| ((xs (nI (i + 2)).toNatClampNeg).toInt64 &&& (4294967295 : Int64))) (((xs (nI (i + 3)).toNatClampNeg).toInt64 <<< ((32 : Int32).toInt64 &&& 63)) ||| ((xs (nI (i + 4)).toNatClampNeg).toInt64 &&& (4294967295 : Int64)))
  refine lv_aload_n hx hb zd_La_law_716 rfl (lv_at hl 2 rfl) ?_
  refine lv_aload_n hx hb zd_La_law_717 rfl (lv_at hl 3 rfl) ?_
  refine lv_iload_n hx hb zd_La_law_718 rfl (lv_at hl 0 rfl) ?_
  refine lv_iconst (v := nI 1) hx hb zd_La_law_719 (by decide) ?_
  refine lv_iadd hx hb zd_La_law_720 ?_
  rw [nI_add]
  refine va_sld hx hb hX hbl hbA hS (i := nI (i + 1)) (vp_in_nI (by omega) (by omega)) zd_La_law_721 ?_
  refine lv_i2l hx hb zd_La_law_722 rfl ?_
  refine lv_bipush (v := (32 : Int32)) hx hb zd_La_law_723 (by decide) ?_
  refine lv_lshl (v := (xs (nI (i + 1)).toNatClampNeg).toInt64 <<< ((32 : Int32).toInt64 &&& 63)) hx hb zd_La_law_725 rfl ?_
  refine lv_aload_n hx hb zd_La_law_726 rfl (lv_at hl 3 rfl) ?_
  refine lv_iload_n hx hb zd_La_law_727 rfl (lv_at hl 0 rfl) ?_
  refine lv_iconst (v := nI 2) hx hb zd_La_law_728 (by decide) ?_
  refine lv_iadd hx hb zd_La_law_729 ?_
  rw [nI_add]
  refine va_sld hx hb hX hbl hbA hS (i := nI (i + 2)) (vp_in_nI (by omega) (by omega)) zd_La_law_730 ?_
  refine lv_i2l hx hb zd_La_law_731 rfl ?_
  refine lv_ldc2 (v := (4294967295 : Int64)) hx hb X.2.2.2.1 (X.2.2.2.2.1 _ zw1397) zd_La_law_732 ?_
  refine lv_land hx hb zd_La_law_735 ?_
  refine lv_lor hx hb zd_La_law_736 ?_
  refine lv_aload_n hx hb zd_La_law_737 rfl (lv_at hl 3 rfl) ?_
  refine lv_iload_n hx hb zd_La_law_738 rfl (lv_at hl 0 rfl) ?_
  refine lv_iconst (v := nI 3) hx hb zd_La_law_739 (by decide) ?_
  refine lv_iadd hx hb zd_La_law_740 ?_
  rw [nI_add]
  refine va_sld hx hb hX hbl hbA hS (i := nI (i + 3)) (vp_in_nI (by omega) (by omega)) zd_La_law_741 ?_
  refine lv_i2l hx hb zd_La_law_742 rfl ?_
  refine lv_bipush (v := (32 : Int32)) hx hb zd_La_law_743 (by decide) ?_
  refine lv_lshl (v := (xs (nI (i + 3)).toNatClampNeg).toInt64 <<< ((32 : Int32).toInt64 &&& 63)) hx hb zd_La_law_745 rfl ?_
  refine lv_aload_n hx hb zd_La_law_746 rfl (lv_at hl 3 rfl) ?_
  refine lv_iload_n hx hb zd_La_law_747 rfl (lv_at hl 0 rfl) ?_
  refine lv_iconst (v := nI 4) hx hb zd_La_law_748 (by decide) ?_
  refine lv_iadd hx hb zd_La_law_749 ?_
  rw [nI_add]
  refine va_sld hx hb hX hbl hbA hS (i := nI (i + 4)) (vp_in_nI (by omega) (by omega)) zd_La_law_750 ?_
  refine lv_i2l hx hb zd_La_law_751 rfl ?_
  refine lv_ldc2 (v := (4294967295 : Int64)) hx hb X.2.2.2.1 (X.2.2.2.2.1 _ zw1397) zd_La_law_752 ?_
  refine lv_land hx hb zd_La_law_755 ?_
  refine lv_lor hx hb zd_La_law_756 ?_
  refine cR (c0 := 122) (k := 0) (as := [.long (((xs (nI (i + 1)).toNatClampNeg).toInt64 <<< ((32 : Int32).toInt64 &&& 63)) ||| ((xs (nI (i + 2)).toNatClampNeg).toInt64 &&& (4294967295 : Int64))), .long (((xs (nI (i + 3)).toNatClampNeg).toInt64 <<< ((32 : Int32).toInt64 &&& 63)) ||| ((xs (nI (i + 4)).toNatClampNeg).toInt64 &&& (4294967295 : Int64)))]) (B := 60) (ci := 0) (rest := []) (st1 := [.long r]) X hK hN hA hi hW hS (by decide) rfl (Nat.le_of_ble_eq_true rfl) e1 rfl (List.mem_range.mpr (by decide)) rfl zw478 rfl (Nat.le_of_ble_eq_true rfl) hR1 hR2 hcs hl.1 rfl (Nat.le_of_ble_eq_true rfl) zd_La_law_757 rfl (fun H locs hW hS => ?_)
  refine lv_aload_n hx hb zd_La_law_760 rfl (lv_at hl 1 rfl) ?_
  refine lv_aload_n hx hb zd_La_law_761 rfl (lv_at hl 3 rfl) ?_
  refine lv_iload_n hx hb zd_La_law_762 rfl (lv_at hl 0 rfl) ?_
  refine lv_iconst (v := nI 1) hx hb zd_La_law_763 (by decide) ?_
  refine lv_iadd hx hb zd_La_law_764 ?_
  rw [nI_add]
  refine va_sld hx hb hX hbl hbA hS (i := nI (i + 1)) (vp_in_nI (by omega) (by omega)) zd_La_law_765 ?_
  refine lv_i2l hx hb zd_La_law_766 rfl ?_
  refine lv_bipush (v := (32 : Int32)) hx hb zd_La_law_767 (by decide) ?_
  refine lv_lshl (v := (xs (nI (i + 1)).toNatClampNeg).toInt64 <<< ((32 : Int32).toInt64 &&& 63)) hx hb zd_La_law_769 rfl ?_
  refine lv_aload_n hx hb zd_La_law_770 rfl (lv_at hl 3 rfl) ?_
  refine lv_iload_n hx hb zd_La_law_771 rfl (lv_at hl 0 rfl) ?_
  refine lv_iconst (v := nI 2) hx hb zd_La_law_772 (by decide) ?_
  refine lv_iadd hx hb zd_La_law_773 ?_
  rw [nI_add]
  refine va_sld hx hb hX hbl hbA hS (i := nI (i + 2)) (vp_in_nI (by omega) (by omega)) zd_La_law_774 ?_
  refine lv_i2l hx hb zd_La_law_775 rfl ?_
  refine lv_ldc2 (v := (4294967295 : Int64)) hx hb X.2.2.2.1 (X.2.2.2.2.1 _ zw1397) zd_La_law_776 ?_
  refine lv_land hx hb zd_La_law_779 ?_
  refine lv_lor hx hb zd_La_law_780 ?_
  refine lv_aload_n hx hb zd_La_law_781 rfl (lv_at hl 3 rfl) ?_
  refine lv_iload_n hx hb zd_La_law_782 rfl (lv_at hl 0 rfl) ?_
  refine lv_iconst (v := nI 3) hx hb zd_La_law_783 (by decide) ?_
  refine lv_iadd hx hb zd_La_law_784 ?_
  rw [nI_add]
  refine va_sld hx hb hX hbl hbA hS (i := nI (i + 3)) (vp_in_nI (by omega) (by omega)) zd_La_law_785 ?_
  refine lv_i2l hx hb zd_La_law_786 rfl ?_
  refine lv_bipush (v := (32 : Int32)) hx hb zd_La_law_787 (by decide) ?_
  refine lv_lshl (v := (xs (nI (i + 3)).toNatClampNeg).toInt64 <<< ((32 : Int32).toInt64 &&& 63)) hx hb zd_La_law_789 rfl ?_
  refine lv_aload_n hx hb zd_La_law_790 rfl (lv_at hl 3 rfl) ?_
  refine lv_iload_n hx hb zd_La_law_791 rfl (lv_at hl 0 rfl) ?_
  refine lv_iconst (v := nI 4) hx hb zd_La_law_792 (by decide) ?_
  refine lv_iadd hx hb zd_La_law_793 ?_
  rw [nI_add]
  refine va_sld hx hb hX hbl hbA hS (i := nI (i + 4)) (vp_in_nI (by omega) (by omega)) zd_La_law_794 ?_
  refine lv_i2l hx hb zd_La_law_795 rfl ?_
  refine lv_ldc2 (v := (4294967295 : Int64)) hx hb X.2.2.2.1 (X.2.2.2.2.1 _ zw1397) zd_La_law_796 ?_
  refine lv_land hx hb zd_La_law_799 ?_
  refine lv_lor hx hb zd_La_law_800 ?_
  refine cR (c0 := 203) (k := 306) (as := [.long (((xs (nI (i + 1)).toNatClampNeg).toInt64 <<< ((32 : Int32).toInt64 &&& 63)) ||| ((xs (nI (i + 2)).toNatClampNeg).toInt64 &&& (4294967295 : Int64))), .long (((xs (nI (i + 3)).toNatClampNeg).toInt64 <<< ((32 : Int32).toInt64 &&& 63)) ||| ((xs (nI (i + 4)).toNatClampNeg).toInt64 &&& (4294967295 : Int64)))]) (B := 60) (ci := 6) (rest := [.long r]) (st1 := [.long r, .long r]) X hK hN hA hi hW hS (by decide) rfl (Nat.le_of_ble_eq_true rfl) e2 rfl (List.mem_range.mpr (by decide)) rfl zw1192 rfl (Nat.le_of_ble_eq_true rfl) hR1 hR2 hcs hl.1 rfl (Nat.le_of_ble_eq_true rfl) zd_La_law_801 rfl (fun H locs hW hS => ?_)
  refine W.lcmp hx hb zd_La_law_804 ?_
  exact lv_if_eq (tgt := 1445) hx hb zd_La_law_805 (by decide) (fun _ => K μ2 H locs hI2 hW hS) (fun c_ => absurd ((lg_cmp_eq _ _).mpr rfl) c_)
set_option maxHeartbeats 4000000 in
theorem la_15 (C : LAx p s m args meth c R D AC ad tn A b L xs cells slots) {μ : Mm} {H : Heap} {locs : List Loc} {ls : Array Slot} {i : Nat} (hI : Inv μ) (hW : Wd kA D AC ad μ H) (hS : va_S A s.heap H locs) (hl : lv_has ls 4 (laV ad b i)) (h6 : i + 6 ≤ L)
    (K : ∀ (μ : Mm) (H : Heap) (locs : List Loc), Inv μ → Wd kA D AC ad μ H → va_S A s.heap H locs → W p l e R s m args below meth c H locs cells slots Q (F0 m 1445 ls [])) : W p l e R s m args below meth c H locs cells slots Q (F0 m 810 ls []) := by
  obtain ⟨⟨X, hK, hN⟩, ⟨hA, hi⟩, ⟨hX, hbl, hbA⟩, hL, hR1, hR2, hcs⟩ := C
  have hx := X.1
  have hb := X.2.1
  obtain ⟨r, μ1, μ2, e1, e2, hI2⟩ := go_told hI (((xs (nI (i + 1)).toNatClampNeg).toInt64 <<< ((32 : Int32).toInt64 &&& 63)) ||| ((xs (nI (i + 2)).toNatClampNeg).toInt64 &&& (4294967295 : Int64))) (xs (nI (i + 3)).toNatClampNeg)
  refine lv_aload_n hx hb zd_La_law_810 rfl (lv_at hl 2 rfl) ?_
  refine lv_aload_n hx hb zd_La_law_811 rfl (lv_at hl 3 rfl) ?_
  refine lv_iload_n hx hb zd_La_law_812 rfl (lv_at hl 0 rfl) ?_
  refine lv_iconst (v := nI 1) hx hb zd_La_law_813 (by decide) ?_
  refine lv_iadd hx hb zd_La_law_814 ?_
  rw [nI_add]
  refine va_sld hx hb hX hbl hbA hS (i := nI (i + 1)) (vp_in_nI (by omega) (by omega)) zd_La_law_815 ?_
  refine lv_i2l hx hb zd_La_law_816 rfl ?_
  refine lv_bipush (v := (32 : Int32)) hx hb zd_La_law_817 (by decide) ?_
  refine lv_lshl (v := (xs (nI (i + 1)).toNatClampNeg).toInt64 <<< ((32 : Int32).toInt64 &&& 63)) hx hb zd_La_law_819 rfl ?_
  refine lv_aload_n hx hb zd_La_law_820 rfl (lv_at hl 3 rfl) ?_
  refine lv_iload_n hx hb zd_La_law_821 rfl (lv_at hl 0 rfl) ?_
  refine lv_iconst (v := nI 2) hx hb zd_La_law_822 (by decide) ?_
  refine lv_iadd hx hb zd_La_law_823 ?_
  rw [nI_add]
  refine va_sld hx hb hX hbl hbA hS (i := nI (i + 2)) (vp_in_nI (by omega) (by omega)) zd_La_law_824 ?_
  refine lv_i2l hx hb zd_La_law_825 rfl ?_
  refine lv_ldc2 (v := (4294967295 : Int64)) hx hb X.2.2.2.1 (X.2.2.2.2.1 _ zw1397) zd_La_law_826 ?_
  refine lv_land hx hb zd_La_law_829 ?_
  refine lv_lor hx hb zd_La_law_830 ?_
  refine lv_aload_n hx hb zd_La_law_831 rfl (lv_at hl 3 rfl) ?_
  refine lv_iload_n hx hb zd_La_law_832 rfl (lv_at hl 0 rfl) ?_
  refine lv_iconst (v := nI 3) hx hb zd_La_law_833 (by decide) ?_
  refine lv_iadd hx hb zd_La_law_834 ?_
  rw [nI_add]
  refine va_sld hx hb hX hbl hbA hS (i := nI (i + 3)) (vp_in_nI (by omega) (by omega)) zd_La_law_835 ?_
  refine cR (c0 := 123) (k := 0) (as := [.long (((xs (nI (i + 1)).toNatClampNeg).toInt64 <<< ((32 : Int32).toInt64 &&& 63)) ||| ((xs (nI (i + 2)).toNatClampNeg).toInt64 &&& (4294967295 : Int64))), .int (xs (nI (i + 3)).toNatClampNeg)]) (B := 60) (ci := 0) (rest := []) (st1 := [.int r]) X hK hN hA hi hW hS (by decide) rfl (Nat.le_of_ble_eq_true rfl) e1 rfl (List.mem_range.mpr (by decide)) rfl zw482 rfl (Nat.le_of_ble_eq_true rfl) hR1 hR2 hcs hl.1 rfl (Nat.le_of_ble_eq_true rfl) zd_La_law_836 rfl (fun H locs hW hS => ?_)
  refine lv_aload_n hx hb zd_La_law_839 rfl (lv_at hl 1 rfl) ?_
  refine lv_aload_n hx hb zd_La_law_840 rfl (lv_at hl 3 rfl) ?_
  refine lv_iload_n hx hb zd_La_law_841 rfl (lv_at hl 0 rfl) ?_
  refine lv_iconst (v := nI 1) hx hb zd_La_law_842 (by decide) ?_
  refine lv_iadd hx hb zd_La_law_843 ?_
  rw [nI_add]
  refine va_sld hx hb hX hbl hbA hS (i := nI (i + 1)) (vp_in_nI (by omega) (by omega)) zd_La_law_844 ?_
  refine lv_i2l hx hb zd_La_law_845 rfl ?_
  refine lv_bipush (v := (32 : Int32)) hx hb zd_La_law_846 (by decide) ?_
  refine lv_lshl (v := (xs (nI (i + 1)).toNatClampNeg).toInt64 <<< ((32 : Int32).toInt64 &&& 63)) hx hb zd_La_law_848 rfl ?_
  refine lv_aload_n hx hb zd_La_law_849 rfl (lv_at hl 3 rfl) ?_
  refine lv_iload_n hx hb zd_La_law_850 rfl (lv_at hl 0 rfl) ?_
  refine lv_iconst (v := nI 2) hx hb zd_La_law_851 (by decide) ?_
  refine lv_iadd hx hb zd_La_law_852 ?_
  rw [nI_add]
  refine va_sld hx hb hX hbl hbA hS (i := nI (i + 2)) (vp_in_nI (by omega) (by omega)) zd_La_law_853 ?_
  refine lv_i2l hx hb zd_La_law_854 rfl ?_
  refine lv_ldc2 (v := (4294967295 : Int64)) hx hb X.2.2.2.1 (X.2.2.2.2.1 _ zw1397) zd_La_law_855 ?_
  refine lv_land hx hb zd_La_law_858 ?_
  refine lv_lor hx hb zd_La_law_859 ?_
  refine lv_aload_n hx hb zd_La_law_860 rfl (lv_at hl 3 rfl) ?_
  refine lv_iload_n hx hb zd_La_law_861 rfl (lv_at hl 0 rfl) ?_
  refine lv_iconst (v := nI 3) hx hb zd_La_law_862 (by decide) ?_
  refine lv_iadd hx hb zd_La_law_863 ?_
  rw [nI_add]
  refine va_sld hx hb hX hbl hbA hS (i := nI (i + 3)) (vp_in_nI (by omega) (by omega)) zd_La_law_864 ?_
  refine cR (c0 := 205) (k := 306) (as := [.long (((xs (nI (i + 1)).toNatClampNeg).toInt64 <<< ((32 : Int32).toInt64 &&& 63)) ||| ((xs (nI (i + 2)).toNatClampNeg).toInt64 &&& (4294967295 : Int64))), .int (xs (nI (i + 3)).toNatClampNeg)]) (B := 60) (ci := 6) (rest := [.int r]) (st1 := [.int r, .int r]) X hK hN hA hi hW hS (by decide) rfl (Nat.le_of_ble_eq_true rfl) e2 rfl (List.mem_range.mpr (by decide)) rfl zw1196 rfl (Nat.le_of_ble_eq_true rfl) hR1 hR2 hcs hl.1 rfl (Nat.le_of_ble_eq_true rfl) zd_La_law_865 rfl (fun H locs hW hS => ?_)
  exact lv_icmp_eq (tgt := 1445) hx hb zd_La_law_868 (by decide) (fun _ => K μ2 H locs hI2 hW hS) (fun c_ => absurd rfl c_)
set_option maxHeartbeats 4000000 in
theorem la_16 (C : LAx p s m args meth c R D AC ad tn A b L xs cells slots) {μ : Mm} {H : Heap} {locs : List Loc} {ls : Array Slot} {i : Nat} (hI : Inv μ) (hW : Wd kA D AC ad μ H) (hS : va_S A s.heap H locs) (hl : lv_has ls 4 (laV ad b i)) (h6 : i + 6 ≤ L)
    (K : ∀ (μ : Mm) (H : Heap) (locs : List Loc), Inv μ → Wd kA D AC ad μ H → va_S A s.heap H locs → W p l e R s m args below meth c H locs cells slots Q (F0 m 1445 ls [])) : W p l e R s m args below meth c H locs cells slots Q (F0 m 873 ls []) := by
  obtain ⟨⟨X, hK, hN⟩, ⟨hA, hi⟩, ⟨hX, hbl, hbA⟩, hL, hR1, hR2, hcs⟩ := C
  have hx := X.1
  have hb := X.2.1
  obtain ⟨r, μ1, μ2, e1, e2, hI2⟩ := go_list hI (xs (nI (i + 1)).toNatClampNeg)
  refine lv_aload_n hx hb zd_La_law_873 rfl (lv_at hl 2 rfl) ?_
  refine lv_aload_n hx hb zd_La_law_874 rfl (lv_at hl 3 rfl) ?_
  refine lv_iload_n hx hb zd_La_law_875 rfl (lv_at hl 0 rfl) ?_
  refine lv_iconst (v := nI 1) hx hb zd_La_law_876 (by decide) ?_
  refine lv_iadd hx hb zd_La_law_877 ?_
  rw [nI_add]
  refine va_sld hx hb hX hbl hbA hS (i := nI (i + 1)) (vp_in_nI (by omega) (by omega)) zd_La_law_878 ?_
  refine cR (c0 := 124) (k := 0) (as := [.int (xs (nI (i + 1)).toNatClampNeg)]) (B := 60) (ci := 0) (rest := []) (st1 := [.long r]) X hK hN hA hi hW hS (by decide) rfl (Nat.le_of_ble_eq_true rfl) e1 rfl (List.mem_range.mpr (by decide)) rfl zw520 rfl (Nat.le_of_ble_eq_true rfl) hR1 hR2 hcs hl.1 rfl (Nat.le_of_ble_eq_true rfl) zd_La_law_879 rfl (fun H locs hW hS => ?_)
  refine lv_aload_n hx hb zd_La_law_882 rfl (lv_at hl 1 rfl) ?_
  refine lv_aload_n hx hb zd_La_law_883 rfl (lv_at hl 3 rfl) ?_
  refine lv_iload_n hx hb zd_La_law_884 rfl (lv_at hl 0 rfl) ?_
  refine lv_iconst (v := nI 1) hx hb zd_La_law_885 (by decide) ?_
  refine lv_iadd hx hb zd_La_law_886 ?_
  rw [nI_add]
  refine va_sld hx hb hX hbl hbA hS (i := nI (i + 1)) (vp_in_nI (by omega) (by omega)) zd_La_law_887 ?_
  refine cR (c0 := 209) (k := 306) (as := [.int (xs (nI (i + 1)).toNatClampNeg)]) (B := 60) (ci := 6) (rest := [.long r]) (st1 := [.long r, .long r]) X hK hN hA hi hW hS (by decide) rfl (Nat.le_of_ble_eq_true rfl) e2 rfl (List.mem_range.mpr (by decide)) rfl zw1211 rfl (Nat.le_of_ble_eq_true rfl) hR1 hR2 hcs hl.1 rfl (Nat.le_of_ble_eq_true rfl) zd_La_law_888 rfl (fun H locs hW hS => ?_)
  refine W.lcmp hx hb zd_La_law_891 ?_
  exact lv_if_eq (tgt := 1445) hx hb zd_La_law_892 (by decide) (fun _ => K μ2 H locs hI2 hW hS) (fun c_ => absurd ((lg_cmp_eq _ _).mpr rfl) c_)
set_option maxHeartbeats 4000000 in
theorem la_17 (C : LAx p s m args meth c R D AC ad tn A b L xs cells slots) {μ : Mm} {H : Heap} {locs : List Loc} {ls : Array Slot} {i : Nat} (hI : Inv μ) (hW : Wd kA D AC ad μ H) (hS : va_S A s.heap H locs) (hl : lv_has ls 4 (laV ad b i)) (h6 : i + 6 ≤ L)
    (K : ∀ (μ : Mm) (H : Heap) (locs : List Loc), Inv μ → Wd kA D AC ad μ H → va_S A s.heap H locs → W p l e R s m args below meth c H locs cells slots Q (F0 m 1445 ls [])) : W p l e R s m args below meth c H locs cells slots Q (F0 m 897 ls []) := by
  obtain ⟨⟨X, hK, hN⟩, ⟨hA, hi⟩, ⟨hX, hbl, hbA⟩, hL, hR1, hR2, hcs⟩ := C
  have hx := X.1
  have hb := X.2.1
  obtain ⟨r, μ1, μ2, e1, e2, hI2⟩ := go_listed hI (xs (nI (i + 1)).toNatClampNeg) (xs (nI (i + 2)).toNatClampNeg)
  refine lv_aload_n hx hb zd_La_law_897 rfl (lv_at hl 2 rfl) ?_
  refine lv_aload_n hx hb zd_La_law_898 rfl (lv_at hl 3 rfl) ?_
  refine lv_iload_n hx hb zd_La_law_899 rfl (lv_at hl 0 rfl) ?_
  refine lv_iconst (v := nI 1) hx hb zd_La_law_900 (by decide) ?_
  refine lv_iadd hx hb zd_La_law_901 ?_
  rw [nI_add]
  refine va_sld hx hb hX hbl hbA hS (i := nI (i + 1)) (vp_in_nI (by omega) (by omega)) zd_La_law_902 ?_
  refine lv_aload_n hx hb zd_La_law_903 rfl (lv_at hl 3 rfl) ?_
  refine lv_iload_n hx hb zd_La_law_904 rfl (lv_at hl 0 rfl) ?_
  refine lv_iconst (v := nI 2) hx hb zd_La_law_905 (by decide) ?_
  refine lv_iadd hx hb zd_La_law_906 ?_
  rw [nI_add]
  refine va_sld hx hb hX hbl hbA hS (i := nI (i + 2)) (vp_in_nI (by omega) (by omega)) zd_La_law_907 ?_
  refine cR (c0 := 125) (k := 0) (as := [.int (xs (nI (i + 1)).toNatClampNeg), .int (xs (nI (i + 2)).toNatClampNeg)]) (B := 60) (ci := 0) (rest := []) (st1 := [.int r]) X hK hN hA hi hW hS (by decide) rfl (Nat.le_of_ble_eq_true rfl) e1 rfl (List.mem_range.mpr (by decide)) rfl zw553 rfl (Nat.le_of_ble_eq_true rfl) hR1 hR2 hcs hl.1 rfl (Nat.le_of_ble_eq_true rfl) zd_La_law_908 rfl (fun H locs hW hS => ?_)
  refine lv_aload_n hx hb zd_La_law_911 rfl (lv_at hl 1 rfl) ?_
  refine lv_aload_n hx hb zd_La_law_912 rfl (lv_at hl 3 rfl) ?_
  refine lv_iload_n hx hb zd_La_law_913 rfl (lv_at hl 0 rfl) ?_
  refine lv_iconst (v := nI 1) hx hb zd_La_law_914 (by decide) ?_
  refine lv_iadd hx hb zd_La_law_915 ?_
  rw [nI_add]
  refine va_sld hx hb hX hbl hbA hS (i := nI (i + 1)) (vp_in_nI (by omega) (by omega)) zd_La_law_916 ?_
  refine lv_aload_n hx hb zd_La_law_917 rfl (lv_at hl 3 rfl) ?_
  refine lv_iload_n hx hb zd_La_law_918 rfl (lv_at hl 0 rfl) ?_
  refine lv_iconst (v := nI 2) hx hb zd_La_law_919 (by decide) ?_
  refine lv_iadd hx hb zd_La_law_920 ?_
  rw [nI_add]
  refine va_sld hx hb hX hbl hbA hS (i := nI (i + 2)) (vp_in_nI (by omega) (by omega)) zd_La_law_921 ?_
  refine cR (c0 := 211) (k := 306) (as := [.int (xs (nI (i + 1)).toNatClampNeg), .int (xs (nI (i + 2)).toNatClampNeg)]) (B := 60) (ci := 6) (rest := [.int r]) (st1 := [.int r, .int r]) X hK hN hA hi hW hS (by decide) rfl (Nat.le_of_ble_eq_true rfl) e2 rfl (List.mem_range.mpr (by decide)) rfl zw1227 rfl (Nat.le_of_ble_eq_true rfl) hR1 hR2 hcs hl.1 rfl (Nat.le_of_ble_eq_true rfl) zd_La_law_922 rfl (fun H locs hW hS => ?_)
  exact lv_icmp_eq (tgt := 1445) hx hb zd_La_law_925 (by decide) (fun _ => K μ2 H locs hI2 hW hS) (fun c_ => absurd rfl c_)
set_option maxHeartbeats 4000000 in
theorem la_18 (C : LAx p s m args meth c R D AC ad tn A b L xs cells slots) {μ : Mm} {H : Heap} {locs : List Loc} {ls : Array Slot} {i : Nat} (hI : Inv μ) (hW : Wd kA D AC ad μ H) (hS : va_S A s.heap H locs) (hl : lv_has ls 4 (laV ad b i)) (h6 : i + 6 ≤ L)
    (K : ∀ (μ : Mm) (H : Heap) (locs : List Loc), Inv μ → Wd kA D AC ad μ H → va_S A s.heap H locs → W p l e R s m args below meth c H locs cells slots Q (F0 m 1445 ls [])) : W p l e R s m args below meth c H locs cells slots Q (F0 m 930 ls []) := by
  obtain ⟨⟨X, hK, hN⟩, ⟨hA, hi⟩, ⟨hX, hbl, hbA⟩, hL, hR1, hR2, hcs⟩ := C
  have hx := X.1
  have hb := X.2.1
  obtain ⟨r, μ1, μ2, e1, e2, hI2⟩ := go_share hI (xs (nI (i + 1)).toNatClampNeg)
  refine lv_aload_n hx hb zd_La_law_930 rfl (lv_at hl 2 rfl) ?_
  refine lv_aload_n hx hb zd_La_law_931 rfl (lv_at hl 3 rfl) ?_
  refine lv_iload_n hx hb zd_La_law_932 rfl (lv_at hl 0 rfl) ?_
  refine lv_iconst (v := nI 1) hx hb zd_La_law_933 (by decide) ?_
  refine lv_iadd hx hb zd_La_law_934 ?_
  rw [nI_add]
  refine va_sld hx hb hX hbl hbA hS (i := nI (i + 1)) (vp_in_nI (by omega) (by omega)) zd_La_law_935 ?_
  refine cR (c0 := 126) (k := 0) (as := [.int (xs (nI (i + 1)).toNatClampNeg)]) (B := 60) (ci := 0) (rest := []) (st1 := [.long r]) X hK hN hA hi hW hS (by decide) rfl (Nat.le_of_ble_eq_true rfl) e1 rfl (List.mem_range.mpr (by decide)) rfl zw561 rfl (Nat.le_of_ble_eq_true rfl) hR1 hR2 hcs hl.1 rfl (Nat.le_of_ble_eq_true rfl) zd_La_law_936 rfl (fun H locs hW hS => ?_)
  refine lv_aload_n hx hb zd_La_law_939 rfl (lv_at hl 1 rfl) ?_
  refine lv_aload_n hx hb zd_La_law_940 rfl (lv_at hl 3 rfl) ?_
  refine lv_iload_n hx hb zd_La_law_941 rfl (lv_at hl 0 rfl) ?_
  refine lv_iconst (v := nI 1) hx hb zd_La_law_942 (by decide) ?_
  refine lv_iadd hx hb zd_La_law_943 ?_
  rw [nI_add]
  refine va_sld hx hb hX hbl hbA hS (i := nI (i + 1)) (vp_in_nI (by omega) (by omega)) zd_La_law_944 ?_
  refine cR (c0 := 213) (k := 306) (as := [.int (xs (nI (i + 1)).toNatClampNeg)]) (B := 60) (ci := 6) (rest := [.long r]) (st1 := [.long r, .long r]) X hK hN hA hi hW hS (by decide) rfl (Nat.le_of_ble_eq_true rfl) e2 rfl (List.mem_range.mpr (by decide)) rfl zw1235 rfl (Nat.le_of_ble_eq_true rfl) hR1 hR2 hcs hl.1 rfl (Nat.le_of_ble_eq_true rfl) zd_La_law_945 rfl (fun H locs hW hS => ?_)
  refine W.lcmp hx hb zd_La_law_948 ?_
  exact lv_if_eq (tgt := 1445) hx hb zd_La_law_949 (by decide) (fun _ => K μ2 H locs hI2 hW hS) (fun c_ => absurd ((lg_cmp_eq _ _).mpr rfl) c_)
set_option maxHeartbeats 4000000 in
theorem la_19 (C : LAx p s m args meth c R D AC ad tn A b L xs cells slots) {μ : Mm} {H : Heap} {locs : List Loc} {ls : Array Slot} {i : Nat} (hI : Inv μ) (hW : Wd kA D AC ad μ H) (hS : va_S A s.heap H locs) (hl : lv_has ls 4 (laV ad b i)) (h6 : i + 6 ≤ L)
    (K : ∀ (μ : Mm) (H : Heap) (locs : List Loc), Inv μ → Wd kA D AC ad μ H → va_S A s.heap H locs → W p l e R s m args below meth c H locs cells slots Q (F0 m 1445 ls [])) : W p l e R s m args below meth c H locs cells slots Q (F0 m 954 ls []) := by
  obtain ⟨⟨X, hK, hN⟩, ⟨hA, hi⟩, ⟨hX, hbl, hbA⟩, hL, hR1, hR2, hcs⟩ := C
  have hx := X.1
  have hb := X.2.1
  obtain ⟨r, μ1, μ2, e1, e2, hI2⟩ := go_thousandths hI (xs (nI (i + 1)).toNatClampNeg)
  refine lv_aload_n hx hb zd_La_law_954 rfl (lv_at hl 2 rfl) ?_
  refine lv_aload_n hx hb zd_La_law_955 rfl (lv_at hl 3 rfl) ?_
  refine lv_iload_n hx hb zd_La_law_956 rfl (lv_at hl 0 rfl) ?_
  refine lv_iconst (v := nI 1) hx hb zd_La_law_957 (by decide) ?_
  refine lv_iadd hx hb zd_La_law_958 ?_
  rw [nI_add]
  refine va_sld hx hb hX hbl hbA hS (i := nI (i + 1)) (vp_in_nI (by omega) (by omega)) zd_La_law_959 ?_
  refine cR (c0 := 127) (k := 0) (as := [.int (xs (nI (i + 1)).toNatClampNeg)]) (B := 60) (ci := 0) (rest := []) (st1 := [.int r]) X hK hN hA hi hW hS (by decide) rfl (Nat.le_of_ble_eq_true rfl) e1 rfl (List.mem_range.mpr (by decide)) rfl zw580 rfl (Nat.le_of_ble_eq_true rfl) hR1 hR2 hcs hl.1 rfl (Nat.le_of_ble_eq_true rfl) zd_La_law_960 rfl (fun H locs hW hS => ?_)
  refine lv_aload_n hx hb zd_La_law_963 rfl (lv_at hl 1 rfl) ?_
  refine lv_aload_n hx hb zd_La_law_964 rfl (lv_at hl 3 rfl) ?_
  refine lv_iload_n hx hb zd_La_law_965 rfl (lv_at hl 0 rfl) ?_
  refine lv_iconst (v := nI 1) hx hb zd_La_law_966 (by decide) ?_
  refine lv_iadd hx hb zd_La_law_967 ?_
  rw [nI_add]
  refine va_sld hx hb hX hbl hbA hS (i := nI (i + 1)) (vp_in_nI (by omega) (by omega)) zd_La_law_968 ?_
  refine cR (c0 := 214) (k := 306) (as := [.int (xs (nI (i + 1)).toNatClampNeg)]) (B := 60) (ci := 6) (rest := [.int r]) (st1 := [.int r, .int r]) X hK hN hA hi hW hS (by decide) rfl (Nat.le_of_ble_eq_true rfl) e2 rfl (List.mem_range.mpr (by decide)) rfl zw1253 rfl (Nat.le_of_ble_eq_true rfl) hR1 hR2 hcs hl.1 rfl (Nat.le_of_ble_eq_true rfl) zd_La_law_969 rfl (fun H locs hW hS => ?_)
  exact lv_icmp_eq (tgt := 1445) hx hb zd_La_law_972 (by decide) (fun _ => K μ2 H locs hI2 hW hS) (fun c_ => absurd rfl c_)
set_option maxHeartbeats 4000000 in
theorem la_20 (C : LAx p s m args meth c R D AC ad tn A b L xs cells slots) {μ : Mm} {H : Heap} {locs : List Loc} {ls : Array Slot} {i : Nat} (hI : Inv μ) (hW : Wd kA D AC ad μ H) (hS : va_S A s.heap H locs) (hl : lv_has ls 4 (laV ad b i)) (h6 : i + 6 ≤ L)
    (K : ∀ (μ : Mm) (H : Heap) (locs : List Loc), Inv μ → Wd kA D AC ad μ H → va_S A s.heap H locs → W p l e R s m args below meth c H locs cells slots Q (F0 m 1445 ls [])) : W p l e R s m args below meth c H locs cells slots Q (F0 m 977 ls []) := by
  obtain ⟨⟨X, hK, hN⟩, ⟨hA, hi⟩, ⟨hX, hbl, hbA⟩, hL, hR1, hR2, hcs⟩ := C
  have hx := X.1
  have hb := X.2.1
  obtain ⟨r, μ1, μ2, e1, e2, hI2⟩ := go_weight hI (xs (nI (i + 1)).toNatClampNeg) (xs (nI (i + 2)).toNatClampNeg) (xs (nI (i + 3)).toNatClampNeg)
  refine lv_aload_n hx hb zd_La_law_977 rfl (lv_at hl 2 rfl) ?_
  refine lv_aload_n hx hb zd_La_law_978 rfl (lv_at hl 3 rfl) ?_
  refine lv_iload_n hx hb zd_La_law_979 rfl (lv_at hl 0 rfl) ?_
  refine lv_iconst (v := nI 1) hx hb zd_La_law_980 (by decide) ?_
  refine lv_iadd hx hb zd_La_law_981 ?_
  rw [nI_add]
  refine va_sld hx hb hX hbl hbA hS (i := nI (i + 1)) (vp_in_nI (by omega) (by omega)) zd_La_law_982 ?_
  refine lv_aload_n hx hb zd_La_law_983 rfl (lv_at hl 3 rfl) ?_
  refine lv_iload_n hx hb zd_La_law_984 rfl (lv_at hl 0 rfl) ?_
  refine lv_iconst (v := nI 2) hx hb zd_La_law_985 (by decide) ?_
  refine lv_iadd hx hb zd_La_law_986 ?_
  rw [nI_add]
  refine va_sld hx hb hX hbl hbA hS (i := nI (i + 2)) (vp_in_nI (by omega) (by omega)) zd_La_law_987 ?_
  refine lv_aload_n hx hb zd_La_law_988 rfl (lv_at hl 3 rfl) ?_
  refine lv_iload_n hx hb zd_La_law_989 rfl (lv_at hl 0 rfl) ?_
  refine lv_iconst (v := nI 3) hx hb zd_La_law_990 (by decide) ?_
  refine lv_iadd hx hb zd_La_law_991 ?_
  rw [nI_add]
  refine va_sld hx hb hX hbl hbA hS (i := nI (i + 3)) (vp_in_nI (by omega) (by omega)) zd_La_law_992 ?_
  refine cR (c0 := 129) (k := 0) (as := [.int (xs (nI (i + 1)).toNatClampNeg), .int (xs (nI (i + 2)).toNatClampNeg), .int (xs (nI (i + 3)).toNatClampNeg)]) (B := 60) (ci := 0) (rest := []) (st1 := [.long r]) X hK hN hA hi hW hS (by decide) rfl (Nat.le_of_ble_eq_true rfl) e1 rfl (List.mem_range.mpr (by decide)) rfl zw585 rfl (Nat.le_of_ble_eq_true rfl) hR1 hR2 hcs hl.1 rfl (Nat.le_of_ble_eq_true rfl) zd_La_law_993 rfl (fun H locs hW hS => ?_)
  refine lv_aload_n hx hb zd_La_law_996 rfl (lv_at hl 1 rfl) ?_
  refine lv_aload_n hx hb zd_La_law_997 rfl (lv_at hl 3 rfl) ?_
  refine lv_iload_n hx hb zd_La_law_998 rfl (lv_at hl 0 rfl) ?_
  refine lv_iconst (v := nI 1) hx hb zd_La_law_999 (by decide) ?_
  refine lv_iadd hx hb zd_La_law_1000 ?_
  rw [nI_add]
  refine va_sld hx hb hX hbl hbA hS (i := nI (i + 1)) (vp_in_nI (by omega) (by omega)) zd_La_law_1001 ?_
  refine lv_aload_n hx hb zd_La_law_1002 rfl (lv_at hl 3 rfl) ?_
  refine lv_iload_n hx hb zd_La_law_1003 rfl (lv_at hl 0 rfl) ?_
  refine lv_iconst (v := nI 2) hx hb zd_La_law_1004 (by decide) ?_
  refine lv_iadd hx hb zd_La_law_1005 ?_
  rw [nI_add]
  refine va_sld hx hb hX hbl hbA hS (i := nI (i + 2)) (vp_in_nI (by omega) (by omega)) zd_La_law_1006 ?_
  refine lv_aload_n hx hb zd_La_law_1007 rfl (lv_at hl 3 rfl) ?_
  refine lv_iload_n hx hb zd_La_law_1008 rfl (lv_at hl 0 rfl) ?_
  refine lv_iconst (v := nI 3) hx hb zd_La_law_1009 (by decide) ?_
  refine lv_iadd hx hb zd_La_law_1010 ?_
  rw [nI_add]
  refine va_sld hx hb hX hbl hbA hS (i := nI (i + 3)) (vp_in_nI (by omega) (by omega)) zd_La_law_1011 ?_
  refine cR (c0 := 216) (k := 306) (as := [.int (xs (nI (i + 1)).toNatClampNeg), .int (xs (nI (i + 2)).toNatClampNeg), .int (xs (nI (i + 3)).toNatClampNeg)]) (B := 60) (ci := 6) (rest := [.long r]) (st1 := [.long r, .long r]) X hK hN hA hi hW hS (by decide) rfl (Nat.le_of_ble_eq_true rfl) e2 rfl (List.mem_range.mpr (by decide)) rfl zw1258 rfl (Nat.le_of_ble_eq_true rfl) hR1 hR2 hcs hl.1 rfl (Nat.le_of_ble_eq_true rfl) zd_La_law_1012 rfl (fun H locs hW hS => ?_)
  refine W.lcmp hx hb zd_La_law_1015 ?_
  exact lv_if_eq (tgt := 1445) hx hb zd_La_law_1016 (by decide) (fun _ => K μ2 H locs hI2 hW hS) (fun c_ => absurd ((lg_cmp_eq _ _).mpr rfl) c_)
set_option maxHeartbeats 4000000 in
theorem la_21 (C : LAx p s m args meth c R D AC ad tn A b L xs cells slots) {μ : Mm} {H : Heap} {locs : List Loc} {ls : Array Slot} {i : Nat} (hI : Inv μ) (hW : Wd kA D AC ad μ H) (hS : va_S A s.heap H locs) (hl : lv_has ls 4 (laV ad b i)) (h6 : i + 6 ≤ L)
    (K : ∀ (μ : Mm) (H : Heap) (locs : List Loc), Inv μ → Wd kA D AC ad μ H → va_S A s.heap H locs → W p l e R s m args below meth c H locs cells slots Q (F0 m 1445 ls [])) : W p l e R s m args below meth c H locs cells slots Q (F0 m 1021 ls []) := by
  obtain ⟨⟨X, hK, hN⟩, ⟨hA, hi⟩, ⟨hX, hbl, hbA⟩, hL, hR1, hR2, hcs⟩ := C
  have hx := X.1
  have hb := X.2.1
  obtain ⟨r, μ1, μ2, e1, e2, hI2⟩ := go_weights hI (xs (nI (i + 1)).toNatClampNeg) (xs (nI (i + 2)).toNatClampNeg) (xs (nI (i + 3)).toNatClampNeg)
  refine lv_aload_n hx hb zd_La_law_1021 rfl (lv_at hl 2 rfl) ?_
  refine lv_aload_n hx hb zd_La_law_1022 rfl (lv_at hl 3 rfl) ?_
  refine lv_iload_n hx hb zd_La_law_1023 rfl (lv_at hl 0 rfl) ?_
  refine lv_iconst (v := nI 1) hx hb zd_La_law_1024 (by decide) ?_
  refine lv_iadd hx hb zd_La_law_1025 ?_
  rw [nI_add]
  refine va_sld hx hb hX hbl hbA hS (i := nI (i + 1)) (vp_in_nI (by omega) (by omega)) zd_La_law_1026 ?_
  refine lv_aload_n hx hb zd_La_law_1027 rfl (lv_at hl 3 rfl) ?_
  refine lv_iload_n hx hb zd_La_law_1028 rfl (lv_at hl 0 rfl) ?_
  refine lv_iconst (v := nI 2) hx hb zd_La_law_1029 (by decide) ?_
  refine lv_iadd hx hb zd_La_law_1030 ?_
  rw [nI_add]
  refine va_sld hx hb hX hbl hbA hS (i := nI (i + 2)) (vp_in_nI (by omega) (by omega)) zd_La_law_1031 ?_
  refine lv_aload_n hx hb zd_La_law_1032 rfl (lv_at hl 3 rfl) ?_
  refine lv_iload_n hx hb zd_La_law_1033 rfl (lv_at hl 0 rfl) ?_
  refine lv_iconst (v := nI 3) hx hb zd_La_law_1034 (by decide) ?_
  refine lv_iadd hx hb zd_La_law_1035 ?_
  rw [nI_add]
  refine va_sld hx hb hX hbl hbA hS (i := nI (i + 3)) (vp_in_nI (by omega) (by omega)) zd_La_law_1036 ?_
  refine cR (c0 := 130) (k := 0) (as := [.int (xs (nI (i + 1)).toNatClampNeg), .int (xs (nI (i + 2)).toNatClampNeg), .int (xs (nI (i + 3)).toNatClampNeg)]) (B := 60) (ci := 0) (rest := []) (st1 := [.long r]) X hK hN hA hi hW hS (by decide) rfl (Nat.le_of_ble_eq_true rfl) e1 rfl (List.mem_range.mpr (by decide)) rfl zw599 rfl (Nat.le_of_ble_eq_true rfl) hR1 hR2 hcs hl.1 rfl (Nat.le_of_ble_eq_true rfl) zd_La_law_1037 rfl (fun H locs hW hS => ?_)
  refine lv_aload_n hx hb zd_La_law_1040 rfl (lv_at hl 1 rfl) ?_
  refine lv_aload_n hx hb zd_La_law_1041 rfl (lv_at hl 3 rfl) ?_
  refine lv_iload_n hx hb zd_La_law_1042 rfl (lv_at hl 0 rfl) ?_
  refine lv_iconst (v := nI 1) hx hb zd_La_law_1043 (by decide) ?_
  refine lv_iadd hx hb zd_La_law_1044 ?_
  rw [nI_add]
  refine va_sld hx hb hX hbl hbA hS (i := nI (i + 1)) (vp_in_nI (by omega) (by omega)) zd_La_law_1045 ?_
  refine lv_aload_n hx hb zd_La_law_1046 rfl (lv_at hl 3 rfl) ?_
  refine lv_iload_n hx hb zd_La_law_1047 rfl (lv_at hl 0 rfl) ?_
  refine lv_iconst (v := nI 2) hx hb zd_La_law_1048 (by decide) ?_
  refine lv_iadd hx hb zd_La_law_1049 ?_
  rw [nI_add]
  refine va_sld hx hb hX hbl hbA hS (i := nI (i + 2)) (vp_in_nI (by omega) (by omega)) zd_La_law_1050 ?_
  refine lv_aload_n hx hb zd_La_law_1051 rfl (lv_at hl 3 rfl) ?_
  refine lv_iload_n hx hb zd_La_law_1052 rfl (lv_at hl 0 rfl) ?_
  refine lv_iconst (v := nI 3) hx hb zd_La_law_1053 (by decide) ?_
  refine lv_iadd hx hb zd_La_law_1054 ?_
  rw [nI_add]
  refine va_sld hx hb hX hbl hbA hS (i := nI (i + 3)) (vp_in_nI (by omega) (by omega)) zd_La_law_1055 ?_
  refine cR (c0 := 217) (k := 306) (as := [.int (xs (nI (i + 1)).toNatClampNeg), .int (xs (nI (i + 2)).toNatClampNeg), .int (xs (nI (i + 3)).toNatClampNeg)]) (B := 60) (ci := 6) (rest := [.long r]) (st1 := [.long r, .long r]) X hK hN hA hi hW hS (by decide) rfl (Nat.le_of_ble_eq_true rfl) e2 rfl (List.mem_range.mpr (by decide)) rfl zw1277 rfl (Nat.le_of_ble_eq_true rfl) hR1 hR2 hcs hl.1 rfl (Nat.le_of_ble_eq_true rfl) zd_La_law_1056 rfl (fun H locs hW hS => ?_)
  refine W.lcmp hx hb zd_La_law_1059 ?_
  exact lv_if_eq (tgt := 1445) hx hb zd_La_law_1060 (by decide) (fun _ => K μ2 H locs hI2 hW hS) (fun c_ => absurd ((lg_cmp_eq _ _).mpr rfl) c_)
set_option maxHeartbeats 4000000 in
theorem la_22 (C : LAx p s m args meth c R D AC ad tn A b L xs cells slots) {μ : Mm} {H : Heap} {locs : List Loc} {ls : Array Slot} {i : Nat} (hI : Inv μ) (hW : Wd kA D AC ad μ H) (hS : va_S A s.heap H locs) (hl : lv_has ls 4 (laV ad b i)) (h6 : i + 6 ≤ L)
    (K : ∀ (μ : Mm) (H : Heap) (locs : List Loc), Inv μ → Wd kA D AC ad μ H → va_S A s.heap H locs → W p l e R s m args below meth c H locs cells slots Q (F0 m 1445 ls [])) : W p l e R s m args below meth c H locs cells slots Q (F0 m 1065 ls []) := by
  obtain ⟨⟨X, hK, hN⟩, ⟨hA, hi⟩, ⟨hX, hbl, hbA⟩, hL, hR1, hR2, hcs⟩ := C
  have hx := X.1
  have hb := X.2.1
  obtain ⟨r, μ1, μ2, e1, e2, hI2⟩ := go_mean hI 
  refine lv_aload_n hx hb zd_La_law_1065 rfl (lv_at hl 2 rfl) ?_
  refine cR (c0 := 132) (k := 0) (as := []) (B := 60) (ci := 0) (rest := []) (st1 := [.int r]) X hK hN hA hi hW hS (by decide) rfl (Nat.le_of_ble_eq_true rfl) e1 rfl (List.mem_range.mpr (by decide)) rfl zw603 rfl (Nat.le_of_ble_eq_true rfl) hR1 hR2 hcs hl.1 rfl (Nat.le_of_ble_eq_true rfl) zd_La_law_1066 rfl (fun H locs hW hS => ?_)
  refine lv_aload_n hx hb zd_La_law_1069 rfl (lv_at hl 1 rfl) ?_
  refine cR (c0 := 218) (k := 306) (as := []) (B := 60) (ci := 6) (rest := [.int r]) (st1 := [.int r, .int r]) X hK hN hA hi hW hS (by decide) rfl (Nat.le_of_ble_eq_true rfl) e2 rfl (List.mem_range.mpr (by decide)) rfl zw1281 rfl (Nat.le_of_ble_eq_true rfl) hR1 hR2 hcs hl.1 rfl (Nat.le_of_ble_eq_true rfl) zd_La_law_1070 rfl (fun H locs hW hS => ?_)
  exact lv_icmp_eq (tgt := 1445) hx hb zd_La_law_1073 (by decide) (fun _ => K μ2 H locs hI2 hW hS) (fun c_ => absurd rfl c_)
set_option maxHeartbeats 4000000 in
theorem la_23 (C : LAx p s m args meth c R D AC ad tn A b L xs cells slots) {μ : Mm} {H : Heap} {locs : List Loc} {ls : Array Slot} {i : Nat} (hI : Inv μ) (hW : Wd kA D AC ad μ H) (hS : va_S A s.heap H locs) (hl : lv_has ls 4 (laV ad b i)) (h6 : i + 6 ≤ L)
    (K : ∀ (μ : Mm) (H : Heap) (locs : List Loc), Inv μ → Wd kA D AC ad μ H → va_S A s.heap H locs → W p l e R s m args below meth c H locs cells slots Q (F0 m 1445 ls [])) : W p l e R s m args below meth c H locs cells slots Q (F0 m 1078 ls []) := by
  obtain ⟨⟨X, hK, hN⟩, ⟨hA, hi⟩, ⟨hX, hbl, hbA⟩, hL, hR1, hR2, hcs⟩ := C
  have hx := X.1
  have hb := X.2.1
  obtain ⟨r, μ1, μ2, e1, e2, hI2⟩ := go_feed hI (xs (nI (i + 1)).toNatClampNeg)
  refine lv_aload_n hx hb zd_La_law_1078 rfl (lv_at hl 2 rfl) ?_
  refine lv_aload_n hx hb zd_La_law_1079 rfl (lv_at hl 3 rfl) ?_
  refine lv_iload_n hx hb zd_La_law_1080 rfl (lv_at hl 0 rfl) ?_
  refine lv_iconst (v := nI 1) hx hb zd_La_law_1081 (by decide) ?_
  refine lv_iadd hx hb zd_La_law_1082 ?_
  rw [nI_add]
  refine va_sld hx hb hX hbl hbA hS (i := nI (i + 1)) (vp_in_nI (by omega) (by omega)) zd_La_law_1083 ?_
  refine cR (c0 := 133) (k := 0) (as := [.int (xs (nI (i + 1)).toNatClampNeg)]) (B := 60) (ci := 0) (rest := []) (st1 := [.int r]) X hK hN hA hi hW hS (by decide) rfl (Nat.le_of_ble_eq_true rfl) e1 rfl (List.mem_range.mpr (by decide)) rfl zw607 rfl (Nat.le_of_ble_eq_true rfl) hR1 hR2 hcs hl.1 rfl (Nat.le_of_ble_eq_true rfl) zd_La_law_1084 rfl (fun H locs hW hS => ?_)
  refine lv_aload_n hx hb zd_La_law_1087 rfl (lv_at hl 1 rfl) ?_
  refine lv_aload_n hx hb zd_La_law_1088 rfl (lv_at hl 3 rfl) ?_
  refine lv_iload_n hx hb zd_La_law_1089 rfl (lv_at hl 0 rfl) ?_
  refine lv_iconst (v := nI 1) hx hb zd_La_law_1090 (by decide) ?_
  refine lv_iadd hx hb zd_La_law_1091 ?_
  rw [nI_add]
  refine va_sld hx hb hX hbl hbA hS (i := nI (i + 1)) (vp_in_nI (by omega) (by omega)) zd_La_law_1092 ?_
  refine cR (c0 := 219) (k := 306) (as := [.int (xs (nI (i + 1)).toNatClampNeg)]) (B := 60) (ci := 6) (rest := [.int r]) (st1 := [.int r, .int r]) X hK hN hA hi hW hS (by decide) rfl (Nat.le_of_ble_eq_true rfl) e2 rfl (List.mem_range.mpr (by decide)) rfl zw1285 rfl (Nat.le_of_ble_eq_true rfl) hR1 hR2 hcs hl.1 rfl (Nat.le_of_ble_eq_true rfl) zd_La_law_1093 rfl (fun H locs hW hS => ?_)
  exact lv_icmp_eq (tgt := 1445) hx hb zd_La_law_1096 (by decide) (fun _ => K μ2 H locs hI2 hW hS) (fun c_ => absurd rfl c_)
set_option maxHeartbeats 4000000 in
theorem la_24 (C : LAx p s m args meth c R D AC ad tn A b L xs cells slots) {μ : Mm} {H : Heap} {locs : List Loc} {ls : Array Slot} {i : Nat} (hI : Inv μ) (hW : Wd kA D AC ad μ H) (hS : va_S A s.heap H locs) (hl : lv_has ls 4 (laV ad b i)) (h6 : i + 6 ≤ L)
    (K : ∀ (μ : Mm) (H : Heap) (locs : List Loc), Inv μ → Wd kA D AC ad μ H → va_S A s.heap H locs → W p l e R s m args below meth c H locs cells slots Q (F0 m 1445 ls [])) : W p l e R s m args below meth c H locs cells slots Q (F0 m 1101 ls []) := by
  obtain ⟨⟨X, hK, hN⟩, ⟨hA, hi⟩, ⟨hX, hbl, hbA⟩, hL, hR1, hR2, hcs⟩ := C
  have hx := X.1
  have hb := X.2.1
  obtain ⟨r, μ1, μ2, e1, e2, hI2⟩ := go_read hI 
  refine lv_aload_n hx hb zd_La_law_1101 rfl (lv_at hl 2 rfl) ?_
  refine cR (c0 := 134) (k := 0) (as := []) (B := 60) (ci := 0) (rest := []) (st1 := [.int r]) X hK hN hA hi hW hS (by decide) rfl (Nat.le_of_ble_eq_true rfl) e1 rfl (List.mem_range.mpr (by decide)) rfl zw619 rfl (Nat.le_of_ble_eq_true rfl) hR1 hR2 hcs hl.1 rfl (Nat.le_of_ble_eq_true rfl) zd_La_law_1102 rfl (fun H locs hW hS => ?_)
  refine lv_aload_n hx hb zd_La_law_1105 rfl (lv_at hl 1 rfl) ?_
  refine cR (c0 := 229) (k := 306) (as := []) (B := 60) (ci := 6) (rest := [.int r]) (st1 := [.int r, .int r]) X hK hN hA hi hW hS (by decide) rfl (Nat.le_of_ble_eq_true rfl) e2 rfl (List.mem_range.mpr (by decide)) rfl zw1290 rfl (Nat.le_of_ble_eq_true rfl) hR1 hR2 hcs hl.1 rfl (Nat.le_of_ble_eq_true rfl) zd_La_law_1106 rfl (fun H locs hW hS => ?_)
  exact lv_icmp_eq (tgt := 1445) hx hb zd_La_law_1109 (by decide) (fun _ => K μ2 H locs hI2 hW hS) (fun c_ => absurd rfl c_)
set_option maxHeartbeats 4000000 in
theorem la_25 (C : LAx p s m args meth c R D AC ad tn A b L xs cells slots) {μ : Mm} {H : Heap} {locs : List Loc} {ls : Array Slot} {i : Nat} (hI : Inv μ) (hW : Wd kA D AC ad μ H) (hS : va_S A s.heap H locs) (hl : lv_has ls 4 (laV ad b i)) (h6 : i + 6 ≤ L)
    (K : ∀ (μ : Mm) (H : Heap) (locs : List Loc), Inv μ → Wd kA D AC ad μ H → va_S A s.heap H locs → W p l e R s m args below meth c H locs cells slots Q (F0 m 1445 ls [])) : W p l e R s m args below meth c H locs cells slots Q (F0 m 1114 ls []) := by
  obtain ⟨⟨X, hK, hN⟩, ⟨hA, hi⟩, ⟨hX, hbl, hbA⟩, hL, hR1, hR2, hcs⟩ := C
  have hx := X.1
  have hb := X.2.1
  obtain ⟨r, μ1, μ2, e1, e2, hI2⟩ := go_term hI (xs (nI (i + 1)).toNatClampNeg) (xs (nI (i + 2)).toNatClampNeg)
  refine lv_aload_n hx hb zd_La_law_1114 rfl (lv_at hl 2 rfl) ?_
  refine lv_aload_n hx hb zd_La_law_1115 rfl (lv_at hl 3 rfl) ?_
  refine lv_iload_n hx hb zd_La_law_1116 rfl (lv_at hl 0 rfl) ?_
  refine lv_iconst (v := nI 1) hx hb zd_La_law_1117 (by decide) ?_
  refine lv_iadd hx hb zd_La_law_1118 ?_
  rw [nI_add]
  refine va_sld hx hb hX hbl hbA hS (i := nI (i + 1)) (vp_in_nI (by omega) (by omega)) zd_La_law_1119 ?_
  refine lv_aload_n hx hb zd_La_law_1120 rfl (lv_at hl 3 rfl) ?_
  refine lv_iload_n hx hb zd_La_law_1121 rfl (lv_at hl 0 rfl) ?_
  refine lv_iconst (v := nI 2) hx hb zd_La_law_1122 (by decide) ?_
  refine lv_iadd hx hb zd_La_law_1123 ?_
  rw [nI_add]
  refine va_sld hx hb hX hbl hbA hS (i := nI (i + 2)) (vp_in_nI (by omega) (by omega)) zd_La_law_1124 ?_
  refine cR (c0 := 135) (k := 0) (as := [.int (xs (nI (i + 1)).toNatClampNeg), .int (xs (nI (i + 2)).toNatClampNeg)]) (B := 60) (ci := 0) (rest := []) (st1 := [.int r]) X hK hN hA hi hW hS (by decide) rfl (Nat.le_of_ble_eq_true rfl) e1 rfl (List.mem_range.mpr (by decide)) rfl zw738 rfl (Nat.le_of_ble_eq_true rfl) hR1 hR2 hcs hl.1 rfl (Nat.le_of_ble_eq_true rfl) zd_La_law_1125 rfl (fun H locs hW hS => ?_)
  refine lv_aload_n hx hb zd_La_law_1128 rfl (lv_at hl 1 rfl) ?_
  refine lv_aload_n hx hb zd_La_law_1129 rfl (lv_at hl 3 rfl) ?_
  refine lv_iload_n hx hb zd_La_law_1130 rfl (lv_at hl 0 rfl) ?_
  refine lv_iconst (v := nI 1) hx hb zd_La_law_1131 (by decide) ?_
  refine lv_iadd hx hb zd_La_law_1132 ?_
  rw [nI_add]
  refine va_sld hx hb hX hbl hbA hS (i := nI (i + 1)) (vp_in_nI (by omega) (by omega)) zd_La_law_1133 ?_
  refine lv_aload_n hx hb zd_La_law_1134 rfl (lv_at hl 3 rfl) ?_
  refine lv_iload_n hx hb zd_La_law_1135 rfl (lv_at hl 0 rfl) ?_
  refine lv_iconst (v := nI 2) hx hb zd_La_law_1136 (by decide) ?_
  refine lv_iadd hx hb zd_La_law_1137 ?_
  rw [nI_add]
  refine va_sld hx hb hX hbl hbA hS (i := nI (i + 2)) (vp_in_nI (by omega) (by omega)) zd_La_law_1138 ?_
  refine cR (c0 := 232) (k := 306) (as := [.int (xs (nI (i + 1)).toNatClampNeg), .int (xs (nI (i + 2)).toNatClampNeg)]) (B := 60) (ci := 6) (rest := [.int r]) (st1 := [.int r, .int r]) X hK hN hA hi hW hS (by decide) rfl (Nat.le_of_ble_eq_true rfl) e2 rfl (List.mem_range.mpr (by decide)) rfl zw1341 rfl (Nat.le_of_ble_eq_true rfl) hR1 hR2 hcs hl.1 rfl (Nat.le_of_ble_eq_true rfl) zd_La_law_1139 rfl (fun H locs hW hS => ?_)
  exact lv_icmp_eq (tgt := 1445) hx hb zd_La_law_1142 (by decide) (fun _ => K μ2 H locs hI2 hW hS) (fun c_ => absurd rfl c_)
set_option maxHeartbeats 4000000 in
theorem la_26 (C : LAx p s m args meth c R D AC ad tn A b L xs cells slots) {μ : Mm} {H : Heap} {locs : List Loc} {ls : Array Slot} {i : Nat} (hI : Inv μ) (hW : Wd kA D AC ad μ H) (hS : va_S A s.heap H locs) (hl : lv_has ls 4 (laV ad b i)) (h6 : i + 6 ≤ L)
    (K : ∀ (μ : Mm) (H : Heap) (locs : List Loc), Inv μ → Wd kA D AC ad μ H → va_S A s.heap H locs → W p l e R s m args below meth c H locs cells slots Q (F0 m 1445 ls [])) : W p l e R s m args below meth c H locs cells slots Q (F0 m 1147 ls []) := by
  obtain ⟨⟨X, hK, hN⟩, ⟨hA, hi⟩, ⟨hX, hbl, hbA⟩, hL, hR1, hR2, hcs⟩ := C
  have hx := X.1
  have hb := X.2.1
  obtain ⟨r, μ1, μ2, e1, e2, hI2⟩ := go_coefficient hI (xs (nI (i + 1)).toNatClampNeg) (xs (nI (i + 2)).toNatClampNeg)
  refine lv_aload_n hx hb zd_La_law_1147 rfl (lv_at hl 2 rfl) ?_
  refine lv_aload_n hx hb zd_La_law_1148 rfl (lv_at hl 3 rfl) ?_
  refine lv_iload_n hx hb zd_La_law_1149 rfl (lv_at hl 0 rfl) ?_
  refine lv_iconst (v := nI 1) hx hb zd_La_law_1150 (by decide) ?_
  refine lv_iadd hx hb zd_La_law_1151 ?_
  rw [nI_add]
  refine va_sld hx hb hX hbl hbA hS (i := nI (i + 1)) (vp_in_nI (by omega) (by omega)) zd_La_law_1152 ?_
  refine lv_aload_n hx hb zd_La_law_1153 rfl (lv_at hl 3 rfl) ?_
  refine lv_iload_n hx hb zd_La_law_1154 rfl (lv_at hl 0 rfl) ?_
  refine lv_iconst (v := nI 2) hx hb zd_La_law_1155 (by decide) ?_
  refine lv_iadd hx hb zd_La_law_1156 ?_
  rw [nI_add]
  refine va_sld hx hb hX hbl hbA hS (i := nI (i + 2)) (vp_in_nI (by omega) (by omega)) zd_La_law_1157 ?_
  refine cR (c0 := 136) (k := 0) (as := [.int (xs (nI (i + 1)).toNatClampNeg), .int (xs (nI (i + 2)).toNatClampNeg)]) (B := 60) (ci := 0) (rest := []) (st1 := [.long r]) X hK hN hA hi hW hS (by decide) rfl (Nat.le_of_ble_eq_true rfl) e1 rfl (List.mem_range.mpr (by decide)) rfl zw748 rfl (Nat.le_of_ble_eq_true rfl) hR1 hR2 hcs hl.1 rfl (Nat.le_of_ble_eq_true rfl) zd_La_law_1158 rfl (fun H locs hW hS => ?_)
  refine lv_aload_n hx hb zd_La_law_1161 rfl (lv_at hl 1 rfl) ?_
  refine lv_aload_n hx hb zd_La_law_1162 rfl (lv_at hl 3 rfl) ?_
  refine lv_iload_n hx hb zd_La_law_1163 rfl (lv_at hl 0 rfl) ?_
  refine lv_iconst (v := nI 1) hx hb zd_La_law_1164 (by decide) ?_
  refine lv_iadd hx hb zd_La_law_1165 ?_
  rw [nI_add]
  refine va_sld hx hb hX hbl hbA hS (i := nI (i + 1)) (vp_in_nI (by omega) (by omega)) zd_La_law_1166 ?_
  refine lv_aload_n hx hb zd_La_law_1167 rfl (lv_at hl 3 rfl) ?_
  refine lv_iload_n hx hb zd_La_law_1168 rfl (lv_at hl 0 rfl) ?_
  refine lv_iconst (v := nI 2) hx hb zd_La_law_1169 (by decide) ?_
  refine lv_iadd hx hb zd_La_law_1170 ?_
  rw [nI_add]
  refine va_sld hx hb hX hbl hbA hS (i := nI (i + 2)) (vp_in_nI (by omega) (by omega)) zd_La_law_1171 ?_
  refine cR (c0 := 233) (k := 306) (as := [.int (xs (nI (i + 1)).toNatClampNeg), .int (xs (nI (i + 2)).toNatClampNeg)]) (B := 60) (ci := 6) (rest := [.long r]) (st1 := [.long r, .long r]) X hK hN hA hi hW hS (by decide) rfl (Nat.le_of_ble_eq_true rfl) e2 rfl (List.mem_range.mpr (by decide)) rfl zw1349 rfl (Nat.le_of_ble_eq_true rfl) hR1 hR2 hcs hl.1 rfl (Nat.le_of_ble_eq_true rfl) zd_La_law_1172 rfl (fun H locs hW hS => ?_)
  refine W.lcmp hx hb zd_La_law_1175 ?_
  exact lv_if_eq (tgt := 1445) hx hb zd_La_law_1176 (by decide) (fun _ => K μ2 H locs hI2 hW hS) (fun c_ => absurd ((lg_cmp_eq _ _).mpr rfl) c_)
set_option maxHeartbeats 4000000 in
theorem la_27 (C : LAx p s m args meth c R D AC ad tn A b L xs cells slots) {μ : Mm} {H : Heap} {locs : List Loc} {ls : Array Slot} {i : Nat} (hI : Inv μ) (hW : Wd kA D AC ad μ H) (hS : va_S A s.heap H locs) (hl : lv_has ls 4 (laV ad b i)) (h6 : i + 6 ≤ L)
    (K : ∀ (μ : Mm) (H : Heap) (locs : List Loc), Inv μ → Wd kA D AC ad μ H → va_S A s.heap H locs → W p l e R s m args below meth c H locs cells slots Q (F0 m 1445 ls [])) : W p l e R s m args below meth c H locs cells slots Q (F0 m 1181 ls []) := by
  obtain ⟨⟨X, hK, hN⟩, ⟨hA, hi⟩, ⟨hX, hbl, hbA⟩, hL, hR1, hR2, hcs⟩ := C
  have hx := X.1
  have hb := X.2.1
  obtain ⟨r, μ1, μ2, e1, e2, hI2⟩ := go_shelf hI (xs (nI (i + 1)).toNatClampNeg) (xs (nI (i + 2)).toNatClampNeg) (xs (nI (i + 3)).toNatClampNeg)
  refine lv_aload_n hx hb zd_La_law_1181 rfl (lv_at hl 2 rfl) ?_
  refine lv_aload_n hx hb zd_La_law_1182 rfl (lv_at hl 3 rfl) ?_
  refine lv_iload_n hx hb zd_La_law_1183 rfl (lv_at hl 0 rfl) ?_
  refine lv_iconst (v := nI 1) hx hb zd_La_law_1184 (by decide) ?_
  refine lv_iadd hx hb zd_La_law_1185 ?_
  rw [nI_add]
  refine va_sld hx hb hX hbl hbA hS (i := nI (i + 1)) (vp_in_nI (by omega) (by omega)) zd_La_law_1186 ?_
  refine lv_aload_n hx hb zd_La_law_1187 rfl (lv_at hl 3 rfl) ?_
  refine lv_iload_n hx hb zd_La_law_1188 rfl (lv_at hl 0 rfl) ?_
  refine lv_iconst (v := nI 2) hx hb zd_La_law_1189 (by decide) ?_
  refine lv_iadd hx hb zd_La_law_1190 ?_
  rw [nI_add]
  refine va_sld hx hb hX hbl hbA hS (i := nI (i + 2)) (vp_in_nI (by omega) (by omega)) zd_La_law_1191 ?_
  refine lv_aload_n hx hb zd_La_law_1192 rfl (lv_at hl 3 rfl) ?_
  refine lv_iload_n hx hb zd_La_law_1193 rfl (lv_at hl 0 rfl) ?_
  refine lv_iconst (v := nI 3) hx hb zd_La_law_1194 (by decide) ?_
  refine lv_iadd hx hb zd_La_law_1195 ?_
  rw [nI_add]
  refine va_sld hx hb hX hbl hbA hS (i := nI (i + 3)) (vp_in_nI (by omega) (by omega)) zd_La_law_1196 ?_
  refine cR (c0 := 138) (k := 0) (as := [.int (xs (nI (i + 1)).toNatClampNeg), .int (xs (nI (i + 2)).toNatClampNeg), .int (xs (nI (i + 3)).toNatClampNeg)]) (B := 60) (ci := 0) (rest := []) (st1 := [.int r]) X hK hN hA hi hW hS (by decide) rfl (Nat.le_of_ble_eq_true rfl) e1 rfl (List.mem_range.mpr (by decide)) rfl zw752 rfl (Nat.le_of_ble_eq_true rfl) hR1 hR2 hcs hl.1 rfl (Nat.le_of_ble_eq_true rfl) zd_La_law_1197 rfl (fun H locs hW hS => ?_)
  refine lv_aload_n hx hb zd_La_law_1200 rfl (lv_at hl 1 rfl) ?_
  refine lv_aload_n hx hb zd_La_law_1201 rfl (lv_at hl 3 rfl) ?_
  refine lv_iload_n hx hb zd_La_law_1202 rfl (lv_at hl 0 rfl) ?_
  refine lv_iconst (v := nI 1) hx hb zd_La_law_1203 (by decide) ?_
  refine lv_iadd hx hb zd_La_law_1204 ?_
  rw [nI_add]
  refine va_sld hx hb hX hbl hbA hS (i := nI (i + 1)) (vp_in_nI (by omega) (by omega)) zd_La_law_1205 ?_
  refine lv_aload_n hx hb zd_La_law_1206 rfl (lv_at hl 3 rfl) ?_
  refine lv_iload_n hx hb zd_La_law_1207 rfl (lv_at hl 0 rfl) ?_
  refine lv_iconst (v := nI 2) hx hb zd_La_law_1208 (by decide) ?_
  refine lv_iadd hx hb zd_La_law_1209 ?_
  rw [nI_add]
  refine va_sld hx hb hX hbl hbA hS (i := nI (i + 2)) (vp_in_nI (by omega) (by omega)) zd_La_law_1210 ?_
  refine lv_aload_n hx hb zd_La_law_1211 rfl (lv_at hl 3 rfl) ?_
  refine lv_iload_n hx hb zd_La_law_1212 rfl (lv_at hl 0 rfl) ?_
  refine lv_iconst (v := nI 3) hx hb zd_La_law_1213 (by decide) ?_
  refine lv_iadd hx hb zd_La_law_1214 ?_
  rw [nI_add]
  refine va_sld hx hb hX hbl hbA hS (i := nI (i + 3)) (vp_in_nI (by omega) (by omega)) zd_La_law_1215 ?_
  refine cR (c0 := 236) (k := 306) (as := [.int (xs (nI (i + 1)).toNatClampNeg), .int (xs (nI (i + 2)).toNatClampNeg), .int (xs (nI (i + 3)).toNatClampNeg)]) (B := 60) (ci := 6) (rest := [.int r]) (st1 := [.int r, .int r]) X hK hN hA hi hW hS (by decide) rfl (Nat.le_of_ble_eq_true rfl) e2 rfl (List.mem_range.mpr (by decide)) rfl zw1353 rfl (Nat.le_of_ble_eq_true rfl) hR1 hR2 hcs hl.1 rfl (Nat.le_of_ble_eq_true rfl) zd_La_law_1216 rfl (fun H locs hW hS => ?_)
  exact lv_icmp_eq (tgt := 1445) hx hb zd_La_law_1219 (by decide) (fun _ => K μ2 H locs hI2 hW hS) (fun c_ => absurd rfl c_)
set_option maxHeartbeats 4000000 in
theorem la_28 (C : LAx p s m args meth c R D AC ad tn A b L xs cells slots) {μ : Mm} {H : Heap} {locs : List Loc} {ls : Array Slot} {i : Nat} (hI : Inv μ) (hW : Wd kA D AC ad μ H) (hS : va_S A s.heap H locs) (hl : lv_has ls 4 (laV ad b i)) (h6 : i + 6 ≤ L)
    (K : ∀ (μ : Mm) (H : Heap) (locs : List Loc), Inv μ → Wd kA D AC ad μ H → va_S A s.heap H locs → W p l e R s m args below meth c H locs cells slots Q (F0 m 1445 ls [])) : W p l e R s m args below meth c H locs cells slots Q (F0 m 1224 ls []) := by
  obtain ⟨⟨X, hK, hN⟩, ⟨hA, hi⟩, ⟨hX, hbl, hbA⟩, hL, hR1, hR2, hcs⟩ := C
  have hx := X.1
  have hb := X.2.1
  obtain ⟨r, μ1, μ2, e1, e2, hI2⟩ := go_put hI (xs (nI (i + 1)).toNatClampNeg) (xs (nI (i + 2)).toNatClampNeg) (xs (nI (i + 3)).toNatClampNeg)
  refine lv_aload_n hx hb zd_La_law_1224 rfl (lv_at hl 2 rfl) ?_
  refine lv_aload_n hx hb zd_La_law_1225 rfl (lv_at hl 3 rfl) ?_
  refine lv_iload_n hx hb zd_La_law_1226 rfl (lv_at hl 0 rfl) ?_
  refine lv_iconst (v := nI 1) hx hb zd_La_law_1227 (by decide) ?_
  refine lv_iadd hx hb zd_La_law_1228 ?_
  rw [nI_add]
  refine va_sld hx hb hX hbl hbA hS (i := nI (i + 1)) (vp_in_nI (by omega) (by omega)) zd_La_law_1229 ?_
  refine lv_aload_n hx hb zd_La_law_1230 rfl (lv_at hl 3 rfl) ?_
  refine lv_iload_n hx hb zd_La_law_1231 rfl (lv_at hl 0 rfl) ?_
  refine lv_iconst (v := nI 2) hx hb zd_La_law_1232 (by decide) ?_
  refine lv_iadd hx hb zd_La_law_1233 ?_
  rw [nI_add]
  refine va_sld hx hb hX hbl hbA hS (i := nI (i + 2)) (vp_in_nI (by omega) (by omega)) zd_La_law_1234 ?_
  refine lv_aload_n hx hb zd_La_law_1235 rfl (lv_at hl 3 rfl) ?_
  refine lv_iload_n hx hb zd_La_law_1236 rfl (lv_at hl 0 rfl) ?_
  refine lv_iconst (v := nI 3) hx hb zd_La_law_1237 (by decide) ?_
  refine lv_iadd hx hb zd_La_law_1238 ?_
  rw [nI_add]
  refine va_sld hx hb hX hbl hbA hS (i := nI (i + 3)) (vp_in_nI (by omega) (by omega)) zd_La_law_1239 ?_
  refine cR (c0 := 139) (k := 0) (as := [.int (xs (nI (i + 1)).toNatClampNeg), .int (xs (nI (i + 2)).toNatClampNeg), .int (xs (nI (i + 3)).toNatClampNeg)]) (B := 60) (ci := 0) (rest := []) (st1 := [.int r]) X hK hN hA hi hW hS (by decide) rfl (Nat.le_of_ble_eq_true rfl) e1 rfl (List.mem_range.mpr (by decide)) rfl zw769 rfl (Nat.le_of_ble_eq_true rfl) hR1 hR2 hcs hl.1 rfl (Nat.le_of_ble_eq_true rfl) zd_La_law_1240 rfl (fun H locs hW hS => ?_)
  refine lv_aload_n hx hb zd_La_law_1243 rfl (lv_at hl 1 rfl) ?_
  refine lv_aload_n hx hb zd_La_law_1244 rfl (lv_at hl 3 rfl) ?_
  refine lv_iload_n hx hb zd_La_law_1245 rfl (lv_at hl 0 rfl) ?_
  refine lv_iconst (v := nI 1) hx hb zd_La_law_1246 (by decide) ?_
  refine lv_iadd hx hb zd_La_law_1247 ?_
  rw [nI_add]
  refine va_sld hx hb hX hbl hbA hS (i := nI (i + 1)) (vp_in_nI (by omega) (by omega)) zd_La_law_1248 ?_
  refine lv_aload_n hx hb zd_La_law_1249 rfl (lv_at hl 3 rfl) ?_
  refine lv_iload_n hx hb zd_La_law_1250 rfl (lv_at hl 0 rfl) ?_
  refine lv_iconst (v := nI 2) hx hb zd_La_law_1251 (by decide) ?_
  refine lv_iadd hx hb zd_La_law_1252 ?_
  rw [nI_add]
  refine va_sld hx hb hX hbl hbA hS (i := nI (i + 2)) (vp_in_nI (by omega) (by omega)) zd_La_law_1253 ?_
  refine lv_aload_n hx hb zd_La_law_1254 rfl (lv_at hl 3 rfl) ?_
  refine lv_iload_n hx hb zd_La_law_1255 rfl (lv_at hl 0 rfl) ?_
  refine lv_iconst (v := nI 3) hx hb zd_La_law_1256 (by decide) ?_
  refine lv_iadd hx hb zd_La_law_1257 ?_
  rw [nI_add]
  refine va_sld hx hb hX hbl hbA hS (i := nI (i + 3)) (vp_in_nI (by omega) (by omega)) zd_La_law_1258 ?_
  refine cR (c0 := 238) (k := 306) (as := [.int (xs (nI (i + 1)).toNatClampNeg), .int (xs (nI (i + 2)).toNatClampNeg), .int (xs (nI (i + 3)).toNatClampNeg)]) (B := 60) (ci := 6) (rest := [.int r]) (st1 := [.int r, .int r]) X hK hN hA hi hW hS (by decide) rfl (Nat.le_of_ble_eq_true rfl) e2 rfl (List.mem_range.mpr (by decide)) rfl zw1361 rfl (Nat.le_of_ble_eq_true rfl) hR1 hR2 hcs hl.1 rfl (Nat.le_of_ble_eq_true rfl) zd_La_law_1259 rfl (fun H locs hW hS => ?_)
  exact lv_icmp_eq (tgt := 1445) hx hb zd_La_law_1262 (by decide) (fun _ => K μ2 H locs hI2 hW hS) (fun c_ => absurd rfl c_)
set_option maxHeartbeats 4000000 in
theorem la_29 (C : LAx p s m args meth c R D AC ad tn A b L xs cells slots) {μ : Mm} {H : Heap} {locs : List Loc} {ls : Array Slot} {i : Nat} (hI : Inv μ) (hW : Wd kA D AC ad μ H) (hS : va_S A s.heap H locs) (hl : lv_has ls 4 (laV ad b i)) (h6 : i + 6 ≤ L)
    (K : ∀ (μ : Mm) (H : Heap) (locs : List Loc), Inv μ → Wd kA D AC ad μ H → va_S A s.heap H locs → W p l e R s m args below meth c H locs cells slots Q (F0 m 1445 ls [])) : W p l e R s m args below meth c H locs cells slots Q (F0 m 1267 ls []) := by
  obtain ⟨⟨X, hK, hN⟩, ⟨hA, hi⟩, ⟨hX, hbl, hbA⟩, hL, hR1, hR2, hcs⟩ := C
  have hx := X.1
  have hb := X.2.1
  obtain ⟨r, μ1, μ2, e1, e2, hI2⟩ := go_get hI (xs (nI (i + 1)).toNatClampNeg) (xs (nI (i + 2)).toNatClampNeg)
  refine lv_aload_n hx hb zd_La_law_1267 rfl (lv_at hl 2 rfl) ?_
  refine lv_aload_n hx hb zd_La_law_1268 rfl (lv_at hl 3 rfl) ?_
  refine lv_iload_n hx hb zd_La_law_1269 rfl (lv_at hl 0 rfl) ?_
  refine lv_iconst (v := nI 1) hx hb zd_La_law_1270 (by decide) ?_
  refine lv_iadd hx hb zd_La_law_1271 ?_
  rw [nI_add]
  refine va_sld hx hb hX hbl hbA hS (i := nI (i + 1)) (vp_in_nI (by omega) (by omega)) zd_La_law_1272 ?_
  refine lv_aload_n hx hb zd_La_law_1273 rfl (lv_at hl 3 rfl) ?_
  refine lv_iload_n hx hb zd_La_law_1274 rfl (lv_at hl 0 rfl) ?_
  refine lv_iconst (v := nI 2) hx hb zd_La_law_1275 (by decide) ?_
  refine lv_iadd hx hb zd_La_law_1276 ?_
  rw [nI_add]
  refine va_sld hx hb hX hbl hbA hS (i := nI (i + 2)) (vp_in_nI (by omega) (by omega)) zd_La_law_1277 ?_
  refine cR (c0 := 140) (k := 0) (as := [.int (xs (nI (i + 1)).toNatClampNeg), .int (xs (nI (i + 2)).toNatClampNeg)]) (B := 60) (ci := 0) (rest := []) (st1 := [.int r]) X hK hN hA hi hW hS (by decide) rfl (Nat.le_of_ble_eq_true rfl) e1 rfl (List.mem_range.mpr (by decide)) rfl zw790 rfl (Nat.le_of_ble_eq_true rfl) hR1 hR2 hcs hl.1 rfl (Nat.le_of_ble_eq_true rfl) zd_La_law_1278 rfl (fun H locs hW hS => ?_)
  refine lv_aload_n hx hb zd_La_law_1281 rfl (lv_at hl 1 rfl) ?_
  refine lv_aload_n hx hb zd_La_law_1282 rfl (lv_at hl 3 rfl) ?_
  refine lv_iload_n hx hb zd_La_law_1283 rfl (lv_at hl 0 rfl) ?_
  refine lv_iconst (v := nI 1) hx hb zd_La_law_1284 (by decide) ?_
  refine lv_iadd hx hb zd_La_law_1285 ?_
  rw [nI_add]
  refine va_sld hx hb hX hbl hbA hS (i := nI (i + 1)) (vp_in_nI (by omega) (by omega)) zd_La_law_1286 ?_
  refine lv_aload_n hx hb zd_La_law_1287 rfl (lv_at hl 3 rfl) ?_
  refine lv_iload_n hx hb zd_La_law_1288 rfl (lv_at hl 0 rfl) ?_
  refine lv_iconst (v := nI 2) hx hb zd_La_law_1289 (by decide) ?_
  refine lv_iadd hx hb zd_La_law_1290 ?_
  rw [nI_add]
  refine va_sld hx hb hX hbl hbA hS (i := nI (i + 2)) (vp_in_nI (by omega) (by omega)) zd_La_law_1291 ?_
  refine cR (c0 := 239) (k := 306) (as := [.int (xs (nI (i + 1)).toNatClampNeg), .int (xs (nI (i + 2)).toNatClampNeg)]) (B := 60) (ci := 6) (rest := [.int r]) (st1 := [.int r, .int r]) X hK hN hA hi hW hS (by decide) rfl (Nat.le_of_ble_eq_true rfl) e2 rfl (List.mem_range.mpr (by decide)) rfl zw1373 rfl (Nat.le_of_ble_eq_true rfl) hR1 hR2 hcs hl.1 rfl (Nat.le_of_ble_eq_true rfl) zd_La_law_1292 rfl (fun H locs hW hS => ?_)
  exact lv_icmp_eq (tgt := 1445) hx hb zd_La_law_1295 (by decide) (fun _ => K μ2 H locs hI2 hW hS) (fun c_ => absurd rfl c_)
set_option maxHeartbeats 4000000 in
theorem la_30 (C : LAx p s m args meth c R D AC ad tn A b L xs cells slots) {μ : Mm} {H : Heap} {locs : List Loc} {ls : Array Slot} {i : Nat} (hI : Inv μ) (hW : Wd kA D AC ad μ H) (hS : va_S A s.heap H locs) (hl : lv_has ls 4 (laV ad b i)) (h6 : i + 6 ≤ L)
    (K : ∀ (μ : Mm) (H : Heap) (locs : List Loc), Inv μ → Wd kA D AC ad μ H → va_S A s.heap H locs → W p l e R s m args below meth c H locs cells slots Q (F0 m 1445 ls [])) : W p l e R s m args below meth c H locs cells slots Q (F0 m 1300 ls []) := by
  obtain ⟨⟨X, hK, hN⟩, ⟨hA, hi⟩, ⟨hX, hbl, hbA⟩, hL, hR1, hR2, hcs⟩ := C
  have hx := X.1
  have hb := X.2.1
  obtain ⟨r, μ1, μ2, e1, e2, hI2⟩ := go_move hI (xs (nI (i + 1)).toNatClampNeg) (xs (nI (i + 2)).toNatClampNeg) (xs (nI (i + 3)).toNatClampNeg) (xs (nI (i + 4)).toNatClampNeg) (xs (nI (i + 5)).toNatClampNeg)
  refine lv_aload_n hx hb zd_La_law_1300 rfl (lv_at hl 2 rfl) ?_
  refine lv_aload_n hx hb zd_La_law_1301 rfl (lv_at hl 3 rfl) ?_
  refine lv_iload_n hx hb zd_La_law_1302 rfl (lv_at hl 0 rfl) ?_
  refine lv_iconst (v := nI 1) hx hb zd_La_law_1303 (by decide) ?_
  refine lv_iadd hx hb zd_La_law_1304 ?_
  rw [nI_add]
  refine va_sld hx hb hX hbl hbA hS (i := nI (i + 1)) (vp_in_nI (by omega) (by omega)) zd_La_law_1305 ?_
  refine lv_aload_n hx hb zd_La_law_1306 rfl (lv_at hl 3 rfl) ?_
  refine lv_iload_n hx hb zd_La_law_1307 rfl (lv_at hl 0 rfl) ?_
  refine lv_iconst (v := nI 2) hx hb zd_La_law_1308 (by decide) ?_
  refine lv_iadd hx hb zd_La_law_1309 ?_
  rw [nI_add]
  refine va_sld hx hb hX hbl hbA hS (i := nI (i + 2)) (vp_in_nI (by omega) (by omega)) zd_La_law_1310 ?_
  refine lv_aload_n hx hb zd_La_law_1311 rfl (lv_at hl 3 rfl) ?_
  refine lv_iload_n hx hb zd_La_law_1312 rfl (lv_at hl 0 rfl) ?_
  refine lv_iconst (v := nI 3) hx hb zd_La_law_1313 (by decide) ?_
  refine lv_iadd hx hb zd_La_law_1314 ?_
  rw [nI_add]
  refine va_sld hx hb hX hbl hbA hS (i := nI (i + 3)) (vp_in_nI (by omega) (by omega)) zd_La_law_1315 ?_
  refine lv_aload_n hx hb zd_La_law_1316 rfl (lv_at hl 3 rfl) ?_
  refine lv_iload_n hx hb zd_La_law_1317 rfl (lv_at hl 0 rfl) ?_
  refine lv_iconst (v := nI 4) hx hb zd_La_law_1318 (by decide) ?_
  refine lv_iadd hx hb zd_La_law_1319 ?_
  rw [nI_add]
  refine va_sld hx hb hX hbl hbA hS (i := nI (i + 4)) (vp_in_nI (by omega) (by omega)) zd_La_law_1320 ?_
  refine lv_aload_n hx hb zd_La_law_1321 rfl (lv_at hl 3 rfl) ?_
  refine lv_iload_n hx hb zd_La_law_1322 rfl (lv_at hl 0 rfl) ?_
  refine lv_iconst (v := nI 5) hx hb zd_La_law_1323 (by decide) ?_
  refine lv_iadd hx hb zd_La_law_1324 ?_
  rw [nI_add]
  refine va_sld hx hb hX hbl hbA hS (i := nI (i + 5)) (vp_in_nI (by omega) (by omega)) zd_La_law_1325 ?_
  refine cR (c0 := 141) (k := 0) (as := [.int (xs (nI (i + 1)).toNatClampNeg), .int (xs (nI (i + 2)).toNatClampNeg), .int (xs (nI (i + 3)).toNatClampNeg), .int (xs (nI (i + 4)).toNatClampNeg), .int (xs (nI (i + 5)).toNatClampNeg)]) (B := 60) (ci := 0) (rest := []) (st1 := [.int r]) X hK hN hA hi hW hS (by decide) rfl (Nat.le_of_ble_eq_true rfl) e1 rfl (List.mem_range.mpr (by decide)) rfl zw798 rfl (Nat.le_of_ble_eq_true rfl) hR1 hR2 hcs hl.1 rfl (Nat.le_of_ble_eq_true rfl) zd_La_law_1326 rfl (fun H locs hW hS => ?_)
  refine lv_aload_n hx hb zd_La_law_1329 rfl (lv_at hl 1 rfl) ?_
  refine lv_aload_n hx hb zd_La_law_1330 rfl (lv_at hl 3 rfl) ?_
  refine lv_iload_n hx hb zd_La_law_1331 rfl (lv_at hl 0 rfl) ?_
  refine lv_iconst (v := nI 1) hx hb zd_La_law_1332 (by decide) ?_
  refine lv_iadd hx hb zd_La_law_1333 ?_
  rw [nI_add]
  refine va_sld hx hb hX hbl hbA hS (i := nI (i + 1)) (vp_in_nI (by omega) (by omega)) zd_La_law_1334 ?_
  refine lv_aload_n hx hb zd_La_law_1335 rfl (lv_at hl 3 rfl) ?_
  refine lv_iload_n hx hb zd_La_law_1336 rfl (lv_at hl 0 rfl) ?_
  refine lv_iconst (v := nI 2) hx hb zd_La_law_1337 (by decide) ?_
  refine lv_iadd hx hb zd_La_law_1338 ?_
  rw [nI_add]
  refine va_sld hx hb hX hbl hbA hS (i := nI (i + 2)) (vp_in_nI (by omega) (by omega)) zd_La_law_1339 ?_
  refine lv_aload_n hx hb zd_La_law_1340 rfl (lv_at hl 3 rfl) ?_
  refine lv_iload_n hx hb zd_La_law_1341 rfl (lv_at hl 0 rfl) ?_
  refine lv_iconst (v := nI 3) hx hb zd_La_law_1342 (by decide) ?_
  refine lv_iadd hx hb zd_La_law_1343 ?_
  rw [nI_add]
  refine va_sld hx hb hX hbl hbA hS (i := nI (i + 3)) (vp_in_nI (by omega) (by omega)) zd_La_law_1344 ?_
  refine lv_aload_n hx hb zd_La_law_1345 rfl (lv_at hl 3 rfl) ?_
  refine lv_iload_n hx hb zd_La_law_1346 rfl (lv_at hl 0 rfl) ?_
  refine lv_iconst (v := nI 4) hx hb zd_La_law_1347 (by decide) ?_
  refine lv_iadd hx hb zd_La_law_1348 ?_
  rw [nI_add]
  refine va_sld hx hb hX hbl hbA hS (i := nI (i + 4)) (vp_in_nI (by omega) (by omega)) zd_La_law_1349 ?_
  refine lv_aload_n hx hb zd_La_law_1350 rfl (lv_at hl 3 rfl) ?_
  refine lv_iload_n hx hb zd_La_law_1351 rfl (lv_at hl 0 rfl) ?_
  refine lv_iconst (v := nI 5) hx hb zd_La_law_1352 (by decide) ?_
  refine lv_iadd hx hb zd_La_law_1353 ?_
  rw [nI_add]
  refine va_sld hx hb hX hbl hbA hS (i := nI (i + 5)) (vp_in_nI (by omega) (by omega)) zd_La_law_1354 ?_
  refine cR (c0 := 240) (k := 306) (as := [.int (xs (nI (i + 1)).toNatClampNeg), .int (xs (nI (i + 2)).toNatClampNeg), .int (xs (nI (i + 3)).toNatClampNeg), .int (xs (nI (i + 4)).toNatClampNeg), .int (xs (nI (i + 5)).toNatClampNeg)]) (B := 60) (ci := 6) (rest := [.int r]) (st1 := [.int r, .int r]) X hK hN hA hi hW hS (by decide) rfl (Nat.le_of_ble_eq_true rfl) e2 rfl (List.mem_range.mpr (by decide)) rfl zw1377 rfl (Nat.le_of_ble_eq_true rfl) hR1 hR2 hcs hl.1 rfl (Nat.le_of_ble_eq_true rfl) zd_La_law_1355 rfl (fun H locs hW hS => ?_)
  exact lv_icmp_eq (tgt := 1445) hx hb zd_La_law_1358 (by decide) (fun _ => K μ2 H locs hI2 hW hS) (fun c_ => absurd rfl c_)
set_option maxHeartbeats 4000000 in
theorem la_31 (C : LAx p s m args meth c R D AC ad tn A b L xs cells slots) {μ : Mm} {H : Heap} {locs : List Loc} {ls : Array Slot} {i : Nat} (hI : Inv μ) (hW : Wd kA D AC ad μ H) (hS : va_S A s.heap H locs) (hl : lv_has ls 4 (laV ad b i)) (h6 : i + 6 ≤ L)
    (K : ∀ (μ : Mm) (H : Heap) (locs : List Loc), Inv μ → Wd kA D AC ad μ H → va_S A s.heap H locs → W p l e R s m args below meth c H locs cells slots Q (F0 m 1445 ls [])) : W p l e R s m args below meth c H locs cells slots Q (F0 m 1363 ls []) := by
  obtain ⟨⟨X, hK, hN⟩, ⟨hA, hi⟩, ⟨hX, hbl, hbA⟩, hL, hR1, hR2, hcs⟩ := C
  have hx := X.1
  have hb := X.2.1
  obtain ⟨r, μ1, μ2, e1, e2, hI2⟩ := go_all hI (xs (nI (i + 1)).toNatClampNeg) (xs (nI (i + 2)).toNatClampNeg)
  refine lv_aload_n hx hb zd_La_law_1363 rfl (lv_at hl 2 rfl) ?_
  refine lv_aload_n hx hb zd_La_law_1364 rfl (lv_at hl 3 rfl) ?_
  refine lv_iload_n hx hb zd_La_law_1365 rfl (lv_at hl 0 rfl) ?_
  refine lv_iconst (v := nI 1) hx hb zd_La_law_1366 (by decide) ?_
  refine lv_iadd hx hb zd_La_law_1367 ?_
  rw [nI_add]
  refine va_sld hx hb hX hbl hbA hS (i := nI (i + 1)) (vp_in_nI (by omega) (by omega)) zd_La_law_1368 ?_
  refine lv_aload_n hx hb zd_La_law_1369 rfl (lv_at hl 3 rfl) ?_
  refine lv_iload_n hx hb zd_La_law_1370 rfl (lv_at hl 0 rfl) ?_
  refine lv_iconst (v := nI 2) hx hb zd_La_law_1371 (by decide) ?_
  refine lv_iadd hx hb zd_La_law_1372 ?_
  rw [nI_add]
  refine va_sld hx hb hX hbl hbA hS (i := nI (i + 2)) (vp_in_nI (by omega) (by omega)) zd_La_law_1373 ?_
  refine cR (c0 := 142) (k := 0) (as := [.int (xs (nI (i + 1)).toNatClampNeg), .int (xs (nI (i + 2)).toNatClampNeg)]) (B := 60) (ci := 0) (rest := []) (st1 := [.int r]) X hK hN hA hi hW hS (by decide) rfl (Nat.le_of_ble_eq_true rfl) e1 rfl (List.mem_range.mpr (by decide)) rfl zw806 rfl (Nat.le_of_ble_eq_true rfl) hR1 hR2 hcs hl.1 rfl (Nat.le_of_ble_eq_true rfl) zd_La_law_1374 rfl (fun H locs hW hS => ?_)
  refine lv_aload_n hx hb zd_La_law_1377 rfl (lv_at hl 1 rfl) ?_
  refine lv_aload_n hx hb zd_La_law_1378 rfl (lv_at hl 3 rfl) ?_
  refine lv_iload_n hx hb zd_La_law_1379 rfl (lv_at hl 0 rfl) ?_
  refine lv_iconst (v := nI 1) hx hb zd_La_law_1380 (by decide) ?_
  refine lv_iadd hx hb zd_La_law_1381 ?_
  rw [nI_add]
  refine va_sld hx hb hX hbl hbA hS (i := nI (i + 1)) (vp_in_nI (by omega) (by omega)) zd_La_law_1382 ?_
  refine lv_aload_n hx hb zd_La_law_1383 rfl (lv_at hl 3 rfl) ?_
  refine lv_iload_n hx hb zd_La_law_1384 rfl (lv_at hl 0 rfl) ?_
  refine lv_iconst (v := nI 2) hx hb zd_La_law_1385 (by decide) ?_
  refine lv_iadd hx hb zd_La_law_1386 ?_
  rw [nI_add]
  refine va_sld hx hb hX hbl hbA hS (i := nI (i + 2)) (vp_in_nI (by omega) (by omega)) zd_La_law_1387 ?_
  refine cR (c0 := 241) (k := 306) (as := [.int (xs (nI (i + 1)).toNatClampNeg), .int (xs (nI (i + 2)).toNatClampNeg)]) (B := 60) (ci := 6) (rest := [.int r]) (st1 := [.int r, .int r]) X hK hN hA hi hW hS (by decide) rfl (Nat.le_of_ble_eq_true rfl) e2 rfl (List.mem_range.mpr (by decide)) rfl zw1381 rfl (Nat.le_of_ble_eq_true rfl) hR1 hR2 hcs hl.1 rfl (Nat.le_of_ble_eq_true rfl) zd_La_law_1388 rfl (fun H locs hW hS => ?_)
  exact lv_icmp_eq (tgt := 1445) hx hb zd_La_law_1391 (by decide) (fun _ => K μ2 H locs hI2 hW hS) (fun c_ => absurd rfl c_)
set_option maxHeartbeats 4000000 in
theorem la_32 (C : LAx p s m args meth c R D AC ad tn A b L xs cells slots) {μ : Mm} {H : Heap} {locs : List Loc} {ls : Array Slot} {i : Nat} (hI : Inv μ) (hW : Wd kA D AC ad μ H) (hS : va_S A s.heap H locs) (hl : lv_has ls 4 (laV ad b i)) (h6 : i + 6 ≤ L)
    (K : ∀ (μ : Mm) (H : Heap) (locs : List Loc), Inv μ → Wd kA D AC ad μ H → va_S A s.heap H locs → W p l e R s m args below meth c H locs cells slots Q (F0 m 1445 ls [])) : W p l e R s m args below meth c H locs cells slots Q (F0 m 1396 ls []) := by
  obtain ⟨⟨X, hK, hN⟩, ⟨hA, hi⟩, ⟨hX, hbl, hbA⟩, hL, hR1, hR2, hcs⟩ := C
  have hx := X.1
  have hb := X.2.1
  obtain ⟨r, μ1, μ2, e1, e2, hI2⟩ := go_image hI 
  refine lv_aload_n hx hb zd_La_law_1396 rfl (lv_at hl 2 rfl) ?_
  refine cR (c0 := 143) (k := 0) (as := []) (B := 60) (ci := 0) (rest := []) (st1 := [.int r]) X hK hN hA hi hW hS (by decide) rfl (Nat.le_of_ble_eq_true rfl) e1 rfl (List.mem_range.mpr (by decide)) rfl zw810 rfl (Nat.le_of_ble_eq_true rfl) hR1 hR2 hcs hl.1 rfl (Nat.le_of_ble_eq_true rfl) zd_La_law_1397 rfl (fun H locs hW hS => ?_)
  refine lv_aload_n hx hb zd_La_law_1400 rfl (lv_at hl 1 rfl) ?_
  refine cR (c0 := 242) (k := 306) (as := []) (B := 60) (ci := 6) (rest := [.int r]) (st1 := [.int r, .int r]) X hK hN hA hi hW hS (by decide) rfl (Nat.le_of_ble_eq_true rfl) e2 rfl (List.mem_range.mpr (by decide)) rfl zw1385 rfl (Nat.le_of_ble_eq_true rfl) hR1 hR2 hcs hl.1 rfl (Nat.le_of_ble_eq_true rfl) zd_La_law_1401 rfl (fun H locs hW hS => ?_)
  exact lv_icmp_eq (tgt := 1445) hx hb zd_La_law_1404 (by decide) (fun _ => K μ2 H locs hI2 hW hS) (fun c_ => absurd rfl c_)
set_option maxHeartbeats 4000000 in
theorem la_33 (C : LAx p s m args meth c R D AC ad tn A b L xs cells slots) {μ : Mm} {H : Heap} {locs : List Loc} {ls : Array Slot} {i : Nat} (hI : Inv μ) (hW : Wd kA D AC ad μ H) (hS : va_S A s.heap H locs) (hl : lv_has ls 4 (laV ad b i)) (h6 : i + 6 ≤ L)
    (K : ∀ (μ : Mm) (H : Heap) (locs : List Loc), Inv μ → Wd kA D AC ad μ H → va_S A s.heap H locs → W p l e R s m args below meth c H locs cells slots Q (F0 m 1445 ls [])) : W p l e R s m args below meth c H locs cells slots Q (F0 m 1409 ls []) := by
  obtain ⟨⟨X, hK, hN⟩, ⟨hA, hi⟩, ⟨hX, hbl, hbA⟩, hL, hR1, hR2, hcs⟩ := C
  have hx := X.1
  have hb := X.2.1
  obtain ⟨r, μ1, μ2, e1, e2, hI2⟩ := go_back hI 
  refine lv_aload_n hx hb zd_La_law_1409 rfl (lv_at hl 2 rfl) ?_
  refine cR (c0 := 144) (k := 0) (as := []) (B := 60) (ci := 0) (rest := []) (st1 := [.int r]) X hK hN hA hi hW hS (by decide) rfl (Nat.le_of_ble_eq_true rfl) e1 rfl (List.mem_range.mpr (by decide)) rfl zw832 rfl (Nat.le_of_ble_eq_true rfl) hR1 hR2 hcs hl.1 rfl (Nat.le_of_ble_eq_true rfl) zd_La_law_1410 rfl (fun H locs hW hS => ?_)
  refine lv_aload_n hx hb zd_La_law_1413 rfl (lv_at hl 1 rfl) ?_
  refine cR (c0 := 243) (k := 306) (as := []) (B := 60) (ci := 6) (rest := [.int r]) (st1 := [.int r, .int r]) X hK hN hA hi hW hS (by decide) rfl (Nat.le_of_ble_eq_true rfl) e2 rfl (List.mem_range.mpr (by decide)) rfl zw1389 rfl (Nat.le_of_ble_eq_true rfl) hR1 hR2 hcs hl.1 rfl (Nat.le_of_ble_eq_true rfl) zd_La_law_1414 rfl (fun H locs hW hS => ?_)
  exact lv_icmp_eq (tgt := 1445) hx hb zd_La_law_1417 (by decide) (fun _ => K μ2 H locs hI2 hW hS) (fun c_ => absurd rfl c_)
set_option maxHeartbeats 4000000 in
theorem la_34 (C : LAx p s m args meth c R D AC ad tn A b L xs cells slots) {μ : Mm} {H : Heap} {locs : List Loc} {ls : Array Slot} {i : Nat} (hI : Inv μ) (hW : Wd kA D AC ad μ H) (hS : va_S A s.heap H locs) (hl : lv_has ls 4 (laV ad b i)) (h6 : i + 6 ≤ L)
    (K : ∀ (μ : Mm) (H : Heap) (locs : List Loc), Inv μ → Wd kA D AC ad μ H → va_S A s.heap H locs → W p l e R s m args below meth c H locs cells slots Q (F0 m 1445 ls [])) : W p l e R s m args below meth c H locs cells slots Q (F0 m 1422 ls []) := by
  obtain ⟨⟨X, hK, hN⟩, ⟨hA, hi⟩, ⟨hX, hbl, hbA⟩, hL, hR1, hR2, hcs⟩ := C
  have hx := X.1
  have hb := X.2.1
  obtain ⟨r, μ1, μ2, e1, e2, hI2⟩ := go_count hI (xs (nI (i + 1)).toNatClampNeg)
  refine lv_aload_n hx hb zd_La_law_1422 rfl (lv_at hl 2 rfl) ?_
  refine lv_aload_n hx hb zd_La_law_1423 rfl (lv_at hl 3 rfl) ?_
  refine lv_iload_n hx hb zd_La_law_1424 rfl (lv_at hl 0 rfl) ?_
  refine lv_iconst (v := nI 1) hx hb zd_La_law_1425 (by decide) ?_
  refine lv_iadd hx hb zd_La_law_1426 ?_
  rw [nI_add]
  refine va_sld hx hb hX hbl hbA hS (i := nI (i + 1)) (vp_in_nI (by omega) (by omega)) zd_La_law_1427 ?_
  refine cR (c0 := 146) (k := 0) (as := [.int (xs (nI (i + 1)).toNatClampNeg)]) (B := 60) (ci := 0) (rest := []) (st1 := [.int r]) X hK hN hA hi hW hS (by decide) rfl (Nat.le_of_ble_eq_true rfl) e1 rfl (List.mem_range.mpr (by decide)) rfl zw836 rfl (Nat.le_of_ble_eq_true rfl) hR1 hR2 hcs hl.1 rfl (Nat.le_of_ble_eq_true rfl) zd_La_law_1428 rfl (fun H locs hW hS => ?_)
  refine lv_aload_n hx hb zd_La_law_1431 rfl (lv_at hl 1 rfl) ?_
  refine lv_aload_n hx hb zd_La_law_1432 rfl (lv_at hl 3 rfl) ?_
  refine lv_iload_n hx hb zd_La_law_1433 rfl (lv_at hl 0 rfl) ?_
  refine lv_iconst (v := nI 1) hx hb zd_La_law_1434 (by decide) ?_
  refine lv_iadd hx hb zd_La_law_1435 ?_
  rw [nI_add]
  refine va_sld hx hb hX hbl hbA hS (i := nI (i + 1)) (vp_in_nI (by omega) (by omega)) zd_La_law_1436 ?_
  refine cR (c0 := 244) (k := 306) (as := [.int (xs (nI (i + 1)).toNatClampNeg)]) (B := 60) (ci := 6) (rest := [.int r]) (st1 := [.int r, .int r]) X hK hN hA hi hW hS (by decide) rfl (Nat.le_of_ble_eq_true rfl) e2 rfl (List.mem_range.mpr (by decide)) rfl zw1393 rfl (Nat.le_of_ble_eq_true rfl) hR1 hR2 hcs hl.1 rfl (Nat.le_of_ble_eq_true rfl) zd_La_law_1437 rfl (fun H locs hW hS => ?_)
  exact lv_icmp_eq (tgt := 1445) hx hb zd_La_law_1440 (by decide) (fun _ => K μ2 H locs hI2 hW hS) (fun c_ => absurd rfl c_)
set_option maxHeartbeats 4000000 in
/-- one call of the script -/
theorem la_step (C : LAx p s m args meth c R D AC ad tn A b L xs cells slots) {μ : Mm} {H : Heap} {locs : List Loc} {ls : Array Slot} {i : Nat} (hI : Inv μ) (hW : Wd kA D AC ad μ H) (hS : va_S A s.heap H locs) (hl : lv_has ls 4 (laV ad b i)) (h6 : i + 6 ≤ L)
    (K : ∀ (μ : Mm) (H : Heap) (locs : List Loc), Inv μ → Wd kA D AC ad μ H → va_S A s.heap H locs → W p l e R s m args below meth c H locs cells slots Q (F0 m 1445 ls [])) (x : Int32) : W p l e R s m args below meth c H locs cells slots Q (F0 m 33 ls [.int x]) := by
  have hx := C.1.1.1
  have hb := C.1.1.2.1
  by_cases hq : x.toInt < 0 ∨ 34 < x.toInt
  · exact lv_tableOut (tgt := 1445) hx hb zd_La_law_33 hq (by decide) (K μ H locs hI hW hS)
  · obtain ⟨k, hk⟩ : ∃ k : Nat, x.toInt = (k : Int) := ⟨x.toInt.toNat, by omega⟩
    have hk35 : k < 35 := by omega
    have h1 : ¬ x.toInt < 0 := fun q => hq (Or.inl q)
    have h2 : ¬ 34 < x.toInt := fun q => hq (Or.inr q)
    rcases (show k = 0 ∨ k = 1 ∨ k = 2 ∨ k = 3 ∨ k = 4 ∨ k = 5 ∨ k = 6 ∨ k = 7 ∨ k = 8 ∨ k = 9 ∨ k = 10 ∨ k = 11 ∨ k = 12 ∨ k = 13 ∨ k = 14 ∨ k = 15 ∨ k = 16 ∨ k = 17 ∨ k = 18 ∨ k = 19 ∨ k = 20 ∨ k = 21 ∨ k = 22 ∨ k = 23 ∨ k = 24 ∨ k = 25 ∨ k = 26 ∨ k = 27 ∨ k = 28 ∨ k = 29 ∨ k = 30 ∨ k = 31 ∨ k = 32 ∨ k = 33 ∨ k = 34 by omega) with rfl | rfl | rfl | rfl | rfl | rfl | rfl | rfl | rfl | rfl | rfl | rfl | rfl | rfl | rfl | rfl | rfl | rfl | rfl | rfl | rfl | rfl | rfl | rfl | rfl | rfl | rfl | rfl | rfl | rfl | rfl | rfl | rfl | rfl | rfl
    · exact lv_tableIn (off := 155) (tgt := 188) hx hb zd_La_law_33 h1 h2 (by rw [hk]; rfl) (by decide) (la_0 C hI hW hS hl h6 K)
    · exact lv_tableIn (off := 178) (tgt := 211) hx hb zd_La_law_33 h1 h2 (by rw [hk]; rfl) (by decide) (la_1 C hI hW hS hl h6 K)
    · exact lv_tableIn (off := 211) (tgt := 244) hx hb zd_La_law_33 h1 h2 (by rw [hk]; rfl) (by decide) (la_2 C hI hW hS hl h6 K)
    · exact lv_tableIn (off := 244) (tgt := 277) hx hb zd_La_law_33 h1 h2 (by rw [hk]; rfl) (by decide) (la_3 C hI hW hS hl h6 K)
    · exact lv_tableIn (off := 288) (tgt := 321) hx hb zd_La_law_33 h1 h2 (by rw [hk]; rfl) (by decide) (la_4 C hI hW hS hl h6 K)
    · exact lv_tableIn (off := 332) (tgt := 365) hx hb zd_La_law_33 h1 h2 (by rw [hk]; rfl) (by decide) (la_5 C hI hW hS hl h6 K)
    · exact lv_tableIn (off := 386) (tgt := 419) hx hb zd_La_law_33 h1 h2 (by rw [hk]; rfl) (by decide) (la_6 C hI hW hS hl h6 K)
    · exact lv_tableIn (off := 430) (tgt := 463) hx hb zd_La_law_33 h1 h2 (by rw [hk]; rfl) (by decide) (la_7 C hI hW hS hl h6 K)
    · exact lv_tableIn (off := 474) (tgt := 507) hx hb zd_La_law_33 h1 h2 (by rw [hk]; rfl) (by decide) (la_8 C hI hW hS hl h6 K)
    · exact lv_tableIn (off := 507) (tgt := 540) hx hb zd_La_law_33 h1 h2 (by rw [hk]; rfl) (by decide) (la_9 C hI hW hS hl h6 K)
    · exact lv_tableIn (off := 540) (tgt := 573) hx hb zd_La_law_33 h1 h2 (by rw [hk]; rfl) (by decide) (la_10 C hI hW hS hl h6 K)
    · exact lv_tableIn (off := 573) (tgt := 606) hx hb zd_La_law_33 h1 h2 (by rw [hk]; rfl) (by decide) (la_11 C hI hW hS hl h6 K)
    · exact lv_tableIn (off := 596) (tgt := 629) hx hb zd_La_law_33 h1 h2 (by rw [hk]; rfl) (by decide) (la_12 C hI hW hS hl h6 K)
    · exact lv_tableIn (off := 629) (tgt := 662) hx hb zd_La_law_33 h1 h2 (by rw [hk]; rfl) (by decide) (la_13 C hI hW hS hl h6 K)
    · exact lv_tableIn (off := 683) (tgt := 716) hx hb zd_La_law_33 h1 h2 (by rw [hk]; rfl) (by decide) (la_14 C hI hW hS hl h6 K)
    · exact lv_tableIn (off := 777) (tgt := 810) hx hb zd_La_law_33 h1 h2 (by rw [hk]; rfl) (by decide) (la_15 C hI hW hS hl h6 K)
    · exact lv_tableIn (off := 840) (tgt := 873) hx hb zd_La_law_33 h1 h2 (by rw [hk]; rfl) (by decide) (la_16 C hI hW hS hl h6 K)
    · exact lv_tableIn (off := 864) (tgt := 897) hx hb zd_La_law_33 h1 h2 (by rw [hk]; rfl) (by decide) (la_17 C hI hW hS hl h6 K)
    · exact lv_tableIn (off := 897) (tgt := 930) hx hb zd_La_law_33 h1 h2 (by rw [hk]; rfl) (by decide) (la_18 C hI hW hS hl h6 K)
    · exact lv_tableIn (off := 921) (tgt := 954) hx hb zd_La_law_33 h1 h2 (by rw [hk]; rfl) (by decide) (la_19 C hI hW hS hl h6 K)
    · exact lv_tableIn (off := 944) (tgt := 977) hx hb zd_La_law_33 h1 h2 (by rw [hk]; rfl) (by decide) (la_20 C hI hW hS hl h6 K)
    · exact lv_tableIn (off := 988) (tgt := 1021) hx hb zd_La_law_33 h1 h2 (by rw [hk]; rfl) (by decide) (la_21 C hI hW hS hl h6 K)
    · exact lv_tableIn (off := 1032) (tgt := 1065) hx hb zd_La_law_33 h1 h2 (by rw [hk]; rfl) (by decide) (la_22 C hI hW hS hl h6 K)
    · exact lv_tableIn (off := 1045) (tgt := 1078) hx hb zd_La_law_33 h1 h2 (by rw [hk]; rfl) (by decide) (la_23 C hI hW hS hl h6 K)
    · exact lv_tableIn (off := 1068) (tgt := 1101) hx hb zd_La_law_33 h1 h2 (by rw [hk]; rfl) (by decide) (la_24 C hI hW hS hl h6 K)
    · exact lv_tableIn (off := 1081) (tgt := 1114) hx hb zd_La_law_33 h1 h2 (by rw [hk]; rfl) (by decide) (la_25 C hI hW hS hl h6 K)
    · exact lv_tableIn (off := 1114) (tgt := 1147) hx hb zd_La_law_33 h1 h2 (by rw [hk]; rfl) (by decide) (la_26 C hI hW hS hl h6 K)
    · exact lv_tableIn (off := 1148) (tgt := 1181) hx hb zd_La_law_33 h1 h2 (by rw [hk]; rfl) (by decide) (la_27 C hI hW hS hl h6 K)
    · exact lv_tableIn (off := 1191) (tgt := 1224) hx hb zd_La_law_33 h1 h2 (by rw [hk]; rfl) (by decide) (la_28 C hI hW hS hl h6 K)
    · exact lv_tableIn (off := 1234) (tgt := 1267) hx hb zd_La_law_33 h1 h2 (by rw [hk]; rfl) (by decide) (la_29 C hI hW hS hl h6 K)
    · exact lv_tableIn (off := 1267) (tgt := 1300) hx hb zd_La_law_33 h1 h2 (by rw [hk]; rfl) (by decide) (la_30 C hI hW hS hl h6 K)
    · exact lv_tableIn (off := 1330) (tgt := 1363) hx hb zd_La_law_33 h1 h2 (by rw [hk]; rfl) (by decide) (la_31 C hI hW hS hl h6 K)
    · exact lv_tableIn (off := 1363) (tgt := 1396) hx hb zd_La_law_33 h1 h2 (by rw [hk]; rfl) (by decide) (la_32 C hI hW hS hl h6 K)
    · exact lv_tableIn (off := 1376) (tgt := 1409) hx hb zd_La_law_33 h1 h2 (by rw [hk]; rfl) (by decide) (la_33 C hI hW hS hl h6 K)
    · exact lv_tableIn (off := 1389) (tgt := 1422) hx hb zd_La_law_33 h1 h2 (by rw [hk]; rfl) (by decide) (la_34 C hI hW hS hl h6 K)
/-- the law's loop -/
theorem la_loop (C : LAx p s m args meth c R D AC ad tn A b L xs cells slots)
    (K : ∀ (H : Heap) (locs : List Loc) (ls : Array Slot), va_S A s.heap H locs → W p l e R s m args below meth c H locs cells slots Q (F0 m 1451 ls [])) :
    ∀ (n i : Nat), L + 6 ≤ i + n → i ≤ 3078 → ∀ (μ : Mm) (H : Heap) (locs : List Loc) (ls : Array Slot), Inv μ → Wd kA D AC ad μ H → va_S A s.heap H locs → lv_has ls 4 (laV ad b i) → W p l e R s m args below meth c H locs cells slots Q (F0 m 18 ls []) := by
  obtain ⟨⟨X, hK, hN⟩, ⟨hA, hi⟩, ⟨hX, hbl, hbA⟩, hL, hR1, hR2, hcs⟩ := id C
  have hx := X.1
  have hb := X.2.1
  intro n
  induction n with
  | zero =>
    intro i hn hi3 μ H locs ls hI hW hS hl
    refine lv_iload_n hx hb zd_La_law_18 rfl (lv_at hl 0 rfl) ?_
    refine lv_aload_n hx hb zd_La_law_19 rfl (lv_at hl 3 rfl) ?_
    refine va_slen hx hb hX hbl hbA hS zd_La_law_20 ?_
    refine lv_bipush (v := nI 6) hx hb zd_La_law_21 (by decide) ?_
    refine lv_isub hx hb zd_La_law_23 ?_
    exact lv_icmp_gt (tgt := 1451) hx hb zd_La_law_24 (by decide) (fun _ => K H locs ls hS) (fun c_ => absurd ((la_gt (by omega) hL).mpr (by omega)) c_)
  | succ n ih =>
    intro i hn hi3 μ H locs ls hI hW hS hl
    refine lv_iload_n hx hb zd_La_law_18 rfl (lv_at hl 0 rfl) ?_
    refine lv_aload_n hx hb zd_La_law_19 rfl (lv_at hl 3 rfl) ?_
    refine va_slen hx hb hX hbl hbA hS zd_La_law_20 ?_
    refine lv_bipush (v := nI 6) hx hb zd_La_law_21 (by decide) ?_
    refine lv_isub hx hb zd_La_law_23 ?_
    refine lv_icmp_gt (tgt := 1451) hx hb zd_La_law_24 (by decide) (fun _ => K H locs ls hS) (fun c_ => ?_)
    have h6 : i + 6 ≤ L := Nat.not_lt.mp fun q => c_ ((la_gt (by omega) hL).mpr q)
    refine lv_aload_n hx hb zd_La_law_27 rfl (lv_at hl 3 rfl) ?_
    refine lv_iload_n hx hb zd_La_law_28 rfl (lv_at hl 0 rfl) ?_
    refine va_sld hx hb hX hbl hbA hS (i := nI i) (vp_in_nI (by omega) (by omega)) zd_La_law_29 ?_
    refine lv_bipush (v := nI 63) hx hb zd_La_law_30 (by decide) ?_
    refine lv_iand hx hb zd_La_law_32 ?_
    refine la_step C hI hW hS hl h6 (fun μ H locs hI hW hS => ?_) _
    refine lv_iinc (v := nI (i + 6)) (lv' := laV ad b (i + 6)) hx hb zd_La_law_1445 hl (k := 0) rfl (by rw [show Int32.ofInt 6 = nI 6 from rfl, nI_add]) (by decide) rfl (fun ls hl => ?_)
    refine lv_goto (tgt := 18) hx hb zd_La_law_1448 (by decide) ?_
    exact ih (i + 6) (by omega) (by omega) μ H locs ls hI hW hS hl
end LAW
