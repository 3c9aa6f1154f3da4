/-! what the law's walk stands on -/
theorem lgc_self (x : Int64) : lg_cmp x x = 0 := of_decide_eq_true (lgc_eq.trans (decide_eq_true rfl))
theorem lgc_pos {a b : Nat} (h : a < b) (hb : b < 2 ^ 32) : 0 < lg_cmp (lN b) (lN a) := of_decide_eq_true (lgc_gt.trans ((lN_ltb (by omega) (by omega)).trans (decide_eq_true h)))
theorem kc_s (n : Nat) : Kc n (nI n + Int32.ofInt (-1)) := by
  cases n with
  | zero => exact Or.inl ⟨rfl, by decide⟩
  | succ n => exact Or.inr ⟨by omega, nI_m1⟩
section AN2
variable {g : Nat} {μ : Mm}
theorem a_valueG (h : J g μ) : An g μ (m_TI_value (nI (numN (tG g))) (nI 0) (nI (pG g))) (.long (lN (lenG g))) := by
  have hg1 := g_1 g h.1
  have e := a_value hg1.1.1 hg1.1.2.1 h
  rw [nI_l (by have := hg1.1.2.1; omega), f_val g h.1] at e
  exact e
theorem a_list0 (h : J g μ) : An g μ (m_TI_list (nI 0)) (.long (lN 1)) := by
  have hlen := len_ok g h.1
  have e := a_list (i := 0) (by omega) h
  rw [(l_ok g h.1).1] at e
  exact e
theorem a_inT {m l : Nat} (hm : m < 19) (hl : l < 19) (q : liesN m l = true) (h : J g μ) : An g μ (m_TI_in (nI (numN m)) (nI (numN l))) (.int (nI 1)) := by
  have e := a_in hm hl h
  rw [q] at e
  exact e
end AN2
/-- what the law's walk stands on -/
def LAx (p : Program) (s : State) (m : MethodId) (args : Array Value) (meth : Method) (c : Code) (R : Room) (D : va_G) (AC : Nat → ClassId) (ad : Nat → Nat) (tn : Nat) (A : Nat → Prop) (b L : Nat) (xs : Nat → Int32) (cells slots : Nat) : Prop := (Cx p s m args meth c "TypesInsideLaw" code 13 ret ∧ va_K D cl (tyL AC) s ∧ Nst A tn s s.heap) ∧ ((∀ q, Ar kA ad q → A q) ∧ adI kA ad) ∧ (va_X b L xs s s.heap ∧ b < s.heap.size ∧ ¬ A b) ∧ L < 2 ^ 30 ∧ 9 ≤ R.frames ∧ 348 ≤ R.locals ∧ (cells + 0 ≤ R.cells ∧ slots + 0 ≤ R.slots)
theorem zw418 : Jvm.Cond.methodLink "TypesInsideLaw" 31 ⟨"TypesInside", "list", "(I)J"⟩ ∈ LW := lc2 178 rfl rfl
theorem zh_La_setUp : (⟨"TypesInsideLaw", "setUp", "(LTypesInside;[II)I"⟩ : MethodName).cls ≠ "java/lang/invoke/MethodHandle" ∧ (⟨"TypesInsideLaw", "setUp", "(LTypesInside;[II)I"⟩ : MethodName).cls ≠ "java/lang/invoke/VarHandle" ∧ (parseMethodDescriptor (⟨"TypesInsideLaw", "setUp", "(LTypesInside;[II)I"⟩ : MethodName).desc).map (fun d => d.parameters.length) = some 3 := by decide +kernel
theorem zw509 : Jvm.Cond.code ⟨"TypesInsideLaw", "setUp", "(LTypesInside;[II)I"⟩ method_4_code 5 (some FieldType.int) ∈ LW := lc3 29 rfl rfl
theorem zw507 : Jvm.Cond.methodLink "TypesInsideLaw" 35 ⟨"TypesInsideLaw", "setUp", "(LTypesInside;[II)I"⟩ ∈ LW := lc3 27 rfl rfl
theorem zw508 : Jvm.Cond.static ⟨"TypesInsideLaw", "setUp", "(LTypesInside;[II)I"⟩ ∈ LW := lc3 28 rfl rfl
theorem zw309 : Jvm.Cond.methodLink "TypesInsideLaw" 39 ⟨"TypesInside", "value", "(III)J"⟩ ∈ LW := lc2 69 rfl rfl
theorem zw559 : Jvm.Cond.constantLong "TypesInsideLaw" 45 (-9223372036854775808 : Int64) ∈ LW := lc3 79 rfl rfl
theorem zw212 : Jvm.Cond.methodLink "TypesInsideLaw" 47 ⟨"TypesInside", "of", "(II)I"⟩ ∈ LW := lc1 212 rfl rfl
theorem zw250 : Jvm.Cond.methodLink "TypesInsideLaw" 50 ⟨"TypesInside", "subgroups", "(III)J"⟩ ∈ LW := lc2 10 rfl rfl
theorem zw452 : Jvm.Cond.methodLink "TypesInsideLaw" 53 ⟨"TypesInside", "listed", "(II)I"⟩ ∈ LW := lc2 212 rfl rfl
theorem zw245 : Jvm.Cond.methodLink "TypesInsideLaw" 56 ⟨"TypesInside", "in", "(II)I"⟩ ∈ LW := lc2 5 rfl rfl
theorem zw290 : Jvm.Cond.methodLink "TypesInsideLaw" 59 ⟨"TypesInside", "hall", "(IIII)J"⟩ ∈ LW := lc2 50 rfl rfl
theorem zw380 : Jvm.Cond.methodLink "TypesInsideLaw" 67 ⟨"TypesInside", "told", "(JI)I"⟩ ∈ LW := lc2 140 rfl rfl
theorem zw348 : Jvm.Cond.methodLink "TypesInsideLaw" 71 ⟨"TypesInside", "span", "(J)J"⟩ ∈ LW := lc2 108 rfl rfl
theorem zw556 : Jvm.Cond.methodLink "TypesInsideLaw" 63 ⟨"TypesInsideLaw", "bits", "(J)I"⟩ ∈ LW := lc3 76 rfl rfl
theorem zd_La_law_8 : decode code 8 = .ok (.aload_n 1, 1) := by decide +kernel
theorem zd_La_law_9 : decode code 9 = .ok (.iconst 0, 1) := by decide +kernel
theorem zd_La_law_10 : decode code 10 = .ok (.invokevirtual 27, 3) := by decide +kernel
theorem zd_La_law_13 : decode code 13 = .ok (.ifCond .ne 63, 3) := by decide +kernel
theorem zd_La_law_16 : decode code 16 = .ok (.aload_n 1, 1) := by decide +kernel
theorem zd_La_law_17 : decode code 17 = .ok (.iconst 1, 1) := by decide +kernel
theorem zd_La_law_18 : decode code 18 = .ok (.invokevirtual 27, 3) := by decide +kernel
theorem zd_La_law_21 : decode code 21 = .ok (.iconst 2, 1) := by decide +kernel
theorem zd_La_law_22 : decode code 22 = .ok (.if_icmp .ne 54, 3) := by decide +kernel
theorem zd_La_law_25 : decode code 25 = .ok (.aload_n 1, 1) := by decide +kernel
theorem zd_La_law_26 : decode code 26 = .ok (.iconst 2, 1) := by decide +kernel
theorem zd_La_law_27 : decode code 27 = .ok (.invokevirtual 27, 3) := by decide +kernel
theorem zd_La_law_30 : decode code 30 = .ok (.iconst 1, 1) := by decide +kernel
theorem zd_La_law_31 : decode code 31 = .ok (.if_icmp .ne 45, 3) := by decide +kernel
theorem zd_La_law_34 : decode code 34 = .ok (.aload_n 1, 1) := by decide +kernel
theorem zd_La_law_35 : decode code 35 = .ok (.iconst (-1), 1) := by decide +kernel
theorem zd_La_law_36 : decode code 36 = .ok (.invokevirtual 31, 3) := by decide +kernel
theorem zd_La_law_39 : decode code 39 = .ok (.lconst 1, 1) := by decide +kernel
theorem zd_La_law_40 : decode code 40 = .ok (.lcmp, 1) := by decide +kernel
theorem zd_La_law_41 : decode code 41 = .ok (.ifCond .ne 35, 3) := by decide +kernel
theorem zd_La_law_44 : decode code 44 = .ok (.aload_n 1, 1) := by decide +kernel
theorem zd_La_law_45 : decode code 45 = .ok (.iconst 0, 1) := by decide +kernel
theorem zd_La_law_46 : decode code 46 = .ok (.invokevirtual 31, 3) := by decide +kernel
theorem zd_La_law_49 : decode code 49 = .ok (.lconst 1, 1) := by decide +kernel
theorem zd_La_law_50 : decode code 50 = .ok (.lcmp, 1) := by decide +kernel
theorem zd_La_law_51 : decode code 51 = .ok (.ifCond .ne 25, 3) := by decide +kernel
theorem zd_La_law_54 : decode code 54 = .ok (.aload_n 1, 1) := by decide +kernel
theorem zd_La_law_55 : decode code 55 = .ok (.bipush 19, 2) := by decide +kernel
theorem zd_La_law_57 : decode code 57 = .ok (.invokevirtual 17, 3) := by decide +kernel
theorem zd_La_law_60 : decode code 60 = .ok (.iconst (-1), 1) := by decide +kernel
theorem zd_La_law_61 : decode code 61 = .ok (.if_icmp .ne 15, 3) := by decide +kernel
theorem zd_La_law_64 : decode code 64 = .ok (.aload_n 1, 1) := by decide +kernel
theorem zd_La_law_65 : decode code 65 = .ok (.bipush 18, 2) := by decide +kernel
theorem zd_La_law_67 : decode code 67 = .ok (.invokevirtual 17, 3) := by decide +kernel
theorem zd_La_law_70 : decode code 70 = .ok (.sipush 11111, 3) := by decide +kernel
theorem zd_La_law_73 : decode code 73 = .ok (.if_icmp .eq 5, 3) := by decide +kernel
theorem zd_La_law_78 : decode code 78 = .ok (.aload_n 1, 1) := by decide +kernel
theorem zd_La_law_79 : decode code 79 = .ok (.aload_n 0, 1) := by decide +kernel
theorem zd_La_law_80 : decode code 80 = .ok (.iconst 0, 1) := by decide +kernel
theorem zd_La_law_81 : decode code 81 = .ok (.invokestatic 35, 3) := by decide +kernel
theorem zd_La_law_84 : decode code 84 = .ok (.istore_n 2, 1) := by decide +kernel
theorem zd_La_law_85 : decode code 85 = .ok (.aload_n 1, 1) := by decide +kernel
theorem zd_La_law_86 : decode code 86 = .ok (.iconst 1, 1) := by decide +kernel
theorem zd_La_law_87 : decode code 87 = .ok (.invokevirtual 27, 3) := by decide +kernel
theorem zd_La_law_90 : decode code 90 = .ok (.istore_n 3, 1) := by decide +kernel
theorem zd_La_law_91 : decode code 91 = .ok (.aload_n 1, 1) := by decide +kernel
theorem zd_La_law_92 : decode code 92 = .ok (.iconst (-1), 1) := by decide +kernel
theorem zd_La_law_93 : decode code 93 = .ok (.invokevirtual 31, 3) := by decide +kernel
theorem zd_La_law_96 : decode code 96 = .ok (.l2i, 1) := by decide +kernel
theorem zd_La_law_97 : decode code 97 = .ok (.istore 4, 2) := by decide +kernel
theorem zd_La_law_99 : decode code 99 = .ok (.aload_n 1, 1) := by decide +kernel
theorem zd_La_law_100 : decode code 100 = .ok (.iload_n 2, 1) := by decide +kernel
theorem zd_La_law_101 : decode code 101 = .ok (.iconst 0, 1) := by decide +kernel
theorem zd_La_law_102 : decode code 102 = .ok (.iload_n 3, 1) := by decide +kernel
theorem zd_La_law_103 : decode code 103 = .ok (.invokevirtual 39, 3) := by decide +kernel
theorem zd_La_law_106 : decode code 106 = .ok (.iload 4, 2) := by decide +kernel
theorem zd_La_law_108 : decode code 108 = .ok (.i2l, 1) := by decide +kernel
theorem zd_La_law_109 : decode code 109 = .ok (.lcmp, 1) := by decide +kernel
theorem zd_La_law_110 : decode code 110 = .ok (.ifCond .ne 26, 3) := by decide +kernel
theorem zd_La_law_113 : decode code 113 = .ok (.aload_n 1, 1) := by decide +kernel
theorem zd_La_law_114 : decode code 114 = .ok (.iload 4, 2) := by decide +kernel
theorem zd_La_law_116 : decode code 116 = .ok (.invokevirtual 31, 3) := by decide +kernel
theorem zd_La_law_119 : decode code 119 = .ok (.ldc2_w 45, 3) := by decide +kernel
theorem zd_La_law_122 : decode code 122 = .ok (.lcmp, 1) := by decide +kernel
theorem zd_La_law_123 : decode code 123 = .ok (.ifCond .ne 13, 3) := by decide +kernel
theorem zd_La_law_126 : decode code 126 = .ok (.aload_n 1, 1) := by decide +kernel
theorem zd_La_law_127 : decode code 127 = .ok (.iconst 0, 1) := by decide +kernel
theorem zd_La_law_128 : decode code 128 = .ok (.invokevirtual 31, 3) := by decide +kernel
theorem zd_La_law_131 : decode code 131 = .ok (.lconst 1, 1) := by decide +kernel
theorem zd_La_law_132 : decode code 132 = .ok (.lcmp, 1) := by decide +kernel
theorem zd_La_law_133 : decode code 133 = .ok (.ifCond .eq 5, 3) := by decide +kernel
theorem zd_La_law_138 : decode code 138 = .ok (.aload_n 1, 1) := by decide +kernel
theorem zd_La_law_139 : decode code 139 = .ok (.iload_n 2, 1) := by decide +kernel
theorem zd_La_law_140 : decode code 140 = .ok (.iconst 1, 1) := by decide +kernel
theorem zd_La_law_141 : decode code 141 = .ok (.invokevirtual 47, 3) := by decide +kernel
theorem zd_La_law_144 : decode code 144 = .ok (.istore 5, 2) := by decide +kernel
theorem zd_La_law_146 : decode code 146 = .ok (.iconst 0, 1) := by decide +kernel
theorem zd_La_law_147 : decode code 147 = .ok (.istore 6, 2) := by decide +kernel
theorem zd_La_law_149 : decode code 149 = .ok (.iconst 0, 1) := by decide +kernel
theorem zd_La_law_150 : decode code 150 = .ok (.istore 7, 2) := by decide +kernel
theorem zd_La_law_181 : decode code 181 = .ok (.iload 11, 2) := by decide +kernel
theorem zd_La_law_183 : decode code 183 = .ok (.ifCond .lt 26, 3) := by decide +kernel
theorem zd_La_law_186 : decode code 186 = .ok (.lload 9, 2) := by decide +kernel
theorem zd_La_law_188 : decode code 188 = .ok (.iload_n 3, 1) := by decide +kernel
theorem zd_La_law_189 : decode code 189 = .ok (.i2l, 1) := by decide +kernel
theorem zd_La_law_190 : decode code 190 = .ok (.lmul, 1) := by decide +kernel
theorem zd_La_law_191 : decode code 191 = .ok (.aload_n 1, 1) := by decide +kernel
theorem zd_La_law_192 : decode code 192 = .ok (.iload_n 2, 1) := by decide +kernel
theorem zd_La_law_193 : decode code 193 = .ok (.iload 8, 2) := by decide +kernel
theorem zd_La_law_195 : decode code 195 = .ok (.iload 11, 2) := by decide +kernel
theorem zd_La_law_197 : decode code 197 = .ok (.invokevirtual 50, 3) := by decide +kernel
theorem zd_La_law_200 : decode code 200 = .ok (.ladd, 1) := by decide +kernel
theorem zd_La_law_201 : decode code 201 = .ok (.lstore 9, 2) := by decide +kernel
theorem zd_La_law_203 : decode code 203 = .ok (.iinc 11 (-1), 3) := by decide +kernel
theorem zd_La_law_206 : decode code 206 = .ok (.goto (-25), 3) := by decide +kernel
theorem zd_La_law_243 : decode code 243 = .ok (.iload 6, 2) := by decide +kernel
theorem zd_La_law_245 : decode code 245 = .ok (.lload 9, 2) := by decide +kernel
theorem zd_La_law_247 : decode code 247 = .ok (.l2i, 1) := by decide +kernel
theorem zd_La_law_248 : decode code 248 = .ok (.iadd, 1) := by decide +kernel
theorem zd_La_law_249 : decode code 249 = .ok (.istore 6, 2) := by decide +kernel
theorem zd_La_law_251 : decode code 251 = .ok (.iinc 7 1, 3) := by decide +kernel
theorem zd_La_law_254 : decode code 254 = .ok (.goto (-102), 3) := by decide +kernel
theorem zd_La_law_209 : decode code 209 = .ok (.aload_n 1, 1) := by decide +kernel
theorem zd_La_law_210 : decode code 210 = .ok (.iload 8, 2) := by decide +kernel
theorem zd_La_law_212 : decode code 212 = .ok (.iconst (-1), 1) := by decide +kernel
theorem zd_La_law_213 : decode code 213 = .ok (.invokevirtual 53, 3) := by decide +kernel
theorem zd_La_law_216 : decode code 216 = .ok (.i2l, 1) := by decide +kernel
theorem zd_La_law_217 : decode code 217 = .ok (.lload 9, 2) := by decide +kernel
theorem zd_La_law_219 : decode code 219 = .ok (.lcmp, 1) := by decide +kernel
theorem zd_La_law_220 : decode code 220 = .ok (.ifCond .ne 21, 3) := by decide +kernel
theorem zd_La_law_223 : decode code 223 = .ok (.lload 9, 2) := by decide +kernel
theorem zd_La_law_225 : decode code 225 = .ok (.lconst 0, 1) := by decide +kernel
theorem zd_La_law_226 : decode code 226 = .ok (.lcmp, 1) := by decide +kernel
theorem zd_La_law_227 : decode code 227 = .ok (.ifCond .le 16, 3) := by decide +kernel
theorem zd_La_law_230 : decode code 230 = .ok (.aload_n 1, 1) := by decide +kernel
theorem zd_La_law_231 : decode code 231 = .ok (.iload 8, 2) := by decide +kernel
theorem zd_La_law_233 : decode code 233 = .ok (.iload_n 2, 1) := by decide +kernel
theorem zd_La_law_234 : decode code 234 = .ok (.invokevirtual 56, 3) := by decide +kernel
theorem zd_La_law_237 : decode code 237 = .ok (.iconst 1, 1) := by decide +kernel
theorem zd_La_law_238 : decode code 238 = .ok (.if_icmp .eq 5, 3) := by decide +kernel
theorem zd_La_law_152 : decode code 152 = .ok (.iload 7, 2) := by decide +kernel
theorem zd_La_law_154 : decode code 154 = .ok (.bipush 19, 2) := by decide +kernel
theorem zd_La_law_156 : decode code 156 = .ok (.if_icmp .ge 101, 3) := by decide +kernel
theorem zd_La_law_159 : decode code 159 = .ok (.aload_n 1, 1) := by decide +kernel
theorem zd_La_law_160 : decode code 160 = .ok (.iload 7, 2) := by decide +kernel
theorem zd_La_law_162 : decode code 162 = .ok (.invokevirtual 17, 3) := by decide +kernel
theorem zd_La_law_165 : decode code 165 = .ok (.istore 8, 2) := by decide +kernel
theorem zd_La_law_167 : decode code 167 = .ok (.lconst 0, 1) := by decide +kernel
theorem zd_La_law_168 : decode code 168 = .ok (.lstore 9, 2) := by decide +kernel
theorem zd_La_law_170 : decode code 170 = .ok (.aload_n 1, 1) := by decide +kernel
theorem zd_La_law_171 : decode code 171 = .ok (.iload_n 2, 1) := by decide +kernel
theorem zd_La_law_172 : decode code 172 = .ok (.iload 8, 2) := by decide +kernel
theorem zd_La_law_174 : decode code 174 = .ok (.iconst (-1), 1) := by decide +kernel
theorem zd_La_law_175 : decode code 175 = .ok (.invokevirtual 50, 3) := by decide +kernel
theorem zd_La_law_178 : decode code 178 = .ok (.l2i, 1) := by decide +kernel
theorem zd_La_law_179 : decode code 179 = .ok (.istore 11, 2) := by decide +kernel
theorem zd_La_law_257 : decode code 257 = .ok (.iload 6, 2) := by decide +kernel
theorem zd_La_law_259 : decode code 259 = .ok (.iload 4, 2) := by decide +kernel
theorem zd_La_law_261 : decode code 261 = .ok (.if_icmp .eq 5, 3) := by decide +kernel
theorem zd_La_law_266 : decode code 266 = .ok (.iconst 0, 1) := by decide +kernel
theorem zd_La_law_267 : decode code 267 = .ok (.istore 7, 2) := by decide +kernel
theorem zd_La_law_328 : decode code 328 = .ok (.iload 12, 2) := by decide +kernel
theorem zd_La_law_330 : decode code 330 = .ok (.ifCond .lt 28, 3) := by decide +kernel
theorem zd_La_law_333 : decode code 333 = .ok (.lload 10, 2) := by decide +kernel
theorem zd_La_law_335 : decode code 335 = .ok (.iload_n 3, 1) := by decide +kernel
theorem zd_La_law_336 : decode code 336 = .ok (.i2l, 1) := by decide +kernel
theorem zd_La_law_337 : decode code 337 = .ok (.lmul, 1) := by decide +kernel
theorem zd_La_law_338 : decode code 338 = .ok (.aload_n 1, 1) := by decide +kernel
theorem zd_La_law_339 : decode code 339 = .ok (.iload_n 2, 1) := by decide +kernel
theorem zd_La_law_340 : decode code 340 = .ok (.iload 8, 2) := by decide +kernel
theorem zd_La_law_342 : decode code 342 = .ok (.iload 9, 2) := by decide +kernel
theorem zd_La_law_344 : decode code 344 = .ok (.iload 12, 2) := by decide +kernel
theorem zd_La_law_346 : decode code 346 = .ok (.invokevirtual 59, 3) := by decide +kernel
theorem zd_La_law_349 : decode code 349 = .ok (.ladd, 1) := by decide +kernel
theorem zd_La_law_350 : decode code 350 = .ok (.lstore 10, 2) := by decide +kernel
theorem zd_La_law_352 : decode code 352 = .ok (.iinc 12 (-1), 3) := by decide +kernel
theorem zd_La_law_355 : decode code 355 = .ok (.goto (-27), 3) := by decide +kernel
theorem zd_La_law_358 : decode code 358 = .ok (.aload_n 1, 1) := by decide +kernel
theorem zd_La_law_359 : decode code 359 = .ok (.iload 8, 2) := by decide +kernel
theorem zd_La_law_361 : decode code 361 = .ok (.iload 9, 2) := by decide +kernel
theorem zd_La_law_363 : decode code 363 = .ok (.invokevirtual 53, 3) := by decide +kernel
theorem zd_La_law_366 : decode code 366 = .ok (.i2l, 1) := by decide +kernel
theorem zd_La_law_367 : decode code 367 = .ok (.lload 10, 2) := by decide +kernel
theorem zd_La_law_369 : decode code 369 = .ok (.lcmp, 1) := by decide +kernel
theorem zd_La_law_370 : decode code 370 = .ok (.ifCond .eq 5, 3) := by decide +kernel
theorem zd_La_law_375 : decode code 375 = .ok (.iinc 7 1, 3) := by decide +kernel
theorem zd_La_law_378 : decode code 378 = .ok (.goto (-109), 3) := by decide +kernel
theorem zd_La_law_269 : decode code 269 = .ok (.iload 7, 2) := by decide +kernel
theorem zd_La_law_271 : decode code 271 = .ok (.bipush 6, 2) := by decide +kernel
theorem zd_La_law_273 : decode code 273 = .ok (.if_icmp .ge 108, 3) := by decide +kernel
theorem zd_La_law_276 : decode code 276 = .ok (.aload_n 1, 1) := by decide +kernel
theorem zd_La_law_277 : decode code 277 = .ok (.aload_n 0, 1) := by decide +kernel
theorem zd_La_law_278 : decode code 278 = .ok (.iconst 2, 1) := by decide +kernel
theorem zd_La_law_279 : decode code 279 = .ok (.iconst 2, 1) := by decide +kernel
theorem zd_La_law_280 : decode code 280 = .ok (.iload 7, 2) := by decide +kernel
theorem zd_La_law_282 : decode code 282 = .ok (.imul, 1) := by decide +kernel
theorem zd_La_law_283 : decode code 283 = .ok (.iadd, 1) := by decide +kernel
theorem zd_La_law_284 : decode code 284 = .ok (.bipush 19, 2) := by decide +kernel
theorem zd_La_law_286 : decode code 286 = .ok (.invokestatic 13, 3) := by decide +kernel
theorem zd_La_law_289 : decode code 289 = .ok (.invokevirtual 17, 3) := by decide +kernel
theorem zd_La_law_292 : decode code 292 = .ok (.istore 8, 2) := by decide +kernel
theorem zd_La_law_294 : decode code 294 = .ok (.aload_n 1, 1) := by decide +kernel
theorem zd_La_law_295 : decode code 295 = .ok (.aload_n 0, 1) := by decide +kernel
theorem zd_La_law_296 : decode code 296 = .ok (.iconst 3, 1) := by decide +kernel
theorem zd_La_law_297 : decode code 297 = .ok (.iconst 2, 1) := by decide +kernel
theorem zd_La_law_298 : decode code 298 = .ok (.iload 7, 2) := by decide +kernel
theorem zd_La_law_300 : decode code 300 = .ok (.imul, 1) := by decide +kernel
theorem zd_La_law_301 : decode code 301 = .ok (.iadd, 1) := by decide +kernel
theorem zd_La_law_302 : decode code 302 = .ok (.bipush 19, 2) := by decide +kernel
theorem zd_La_law_304 : decode code 304 = .ok (.invokestatic 13, 3) := by decide +kernel
theorem zd_La_law_307 : decode code 307 = .ok (.invokevirtual 17, 3) := by decide +kernel
theorem zd_La_law_310 : decode code 310 = .ok (.istore 9, 2) := by decide +kernel
theorem zd_La_law_312 : decode code 312 = .ok (.lconst 0, 1) := by decide +kernel
theorem zd_La_law_313 : decode code 313 = .ok (.lstore 10, 2) := by decide +kernel
theorem zd_La_law_315 : decode code 315 = .ok (.aload_n 1, 1) := by decide +kernel
theorem zd_La_law_316 : decode code 316 = .ok (.iload_n 2, 1) := by decide +kernel
theorem zd_La_law_317 : decode code 317 = .ok (.iload 8, 2) := by decide +kernel
theorem zd_La_law_319 : decode code 319 = .ok (.iload 9, 2) := by decide +kernel
theorem zd_La_law_321 : decode code 321 = .ok (.iconst (-1), 1) := by decide +kernel
theorem zd_La_law_322 : decode code 322 = .ok (.invokevirtual 59, 3) := by decide +kernel
theorem zd_La_law_325 : decode code 325 = .ok (.l2i, 1) := by decide +kernel
theorem zd_La_law_326 : decode code 326 = .ok (.istore 12, 2) := by decide +kernel
theorem zd_La_law_381 : decode code 381 = .ok (.iconst 1, 1) := by decide +kernel
theorem zd_La_law_382 : decode code 382 = .ok (.istore 7, 2) := by decide +kernel
theorem zd_La_law_384 : decode code 384 = .ok (.iconst 0, 1) := by decide +kernel
theorem zd_La_law_385 : decode code 385 = .ok (.istore 8, 2) := by decide +kernel
theorem zd_La_law_562 : decode code 562 = .ok (.iinc 8 1, 3) := by decide +kernel
theorem zd_La_law_565 : decode code 565 = .ok (.goto (-178), 3) := by decide +kernel
theorem zd_La_law_476 : decode code 476 = .ok (.aload_n 1, 1) := by decide +kernel
theorem zd_La_law_477 : decode code 477 = .ok (.lload 9, 2) := by decide +kernel
theorem zd_La_law_479 : decode code 479 = .ok (.iconst 0, 1) := by decide +kernel
theorem zd_La_law_480 : decode code 480 = .ok (.invokevirtual 67, 3) := by decide +kernel
theorem zd_La_law_483 : decode code 483 = .ok (.istore 11, 2) := by decide +kernel
theorem zd_La_law_485 : decode code 485 = .ok (.aload_n 1, 1) := by decide +kernel
theorem zd_La_law_486 : decode code 486 = .ok (.lload 9, 2) := by decide +kernel
theorem zd_La_law_488 : decode code 488 = .ok (.iconst 1, 1) := by decide +kernel
theorem zd_La_law_489 : decode code 489 = .ok (.invokevirtual 67, 3) := by decide +kernel
theorem zd_La_law_492 : decode code 492 = .ok (.istore 12, 2) := by decide +kernel
theorem zd_La_law_494 : decode code 494 = .ok (.aload_n 1, 1) := by decide +kernel
theorem zd_La_law_495 : decode code 495 = .ok (.lload 9, 2) := by decide +kernel
theorem zd_La_law_497 : decode code 497 = .ok (.iconst 2, 1) := by decide +kernel
theorem zd_La_law_498 : decode code 498 = .ok (.invokevirtual 67, 3) := by decide +kernel
theorem zd_La_law_501 : decode code 501 = .ok (.iload 7, 2) := by decide +kernel
theorem zd_La_law_503 : decode code 503 = .ok (.if_icmp .ne 57, 3) := by decide +kernel
theorem zd_La_law_506 : decode code 506 = .ok (.aload_n 1, 1) := by decide +kernel
theorem zd_La_law_507 : decode code 507 = .ok (.lload 9, 2) := by decide +kernel
theorem zd_La_law_509 : decode code 509 = .ok (.invokevirtual 71, 3) := by decide +kernel
theorem zd_La_law_512 : decode code 512 = .ok (.lload 9, 2) := by decide +kernel
theorem zd_La_law_514 : decode code 514 = .ok (.lcmp, 1) := by decide +kernel
theorem zd_La_law_515 : decode code 515 = .ok (.ifCond .ne 45, 3) := by decide +kernel
theorem zd_La_law_518 : decode code 518 = .ok (.aload_n 1, 1) := by decide +kernel
theorem zd_La_law_519 : decode code 519 = .ok (.iload 11, 2) := by decide +kernel
theorem zd_La_law_521 : decode code 521 = .ok (.iload_n 2, 1) := by decide +kernel
theorem zd_La_law_522 : decode code 522 = .ok (.invokevirtual 56, 3) := by decide +kernel
theorem zd_La_law_525 : decode code 525 = .ok (.iconst 1, 1) := by decide +kernel
theorem zd_La_law_526 : decode code 526 = .ok (.if_icmp .ne 34, 3) := by decide +kernel
theorem zd_La_law_529 : decode code 529 = .ok (.aload_n 1, 1) := by decide +kernel
theorem zd_La_law_530 : decode code 530 = .ok (.iload 12, 2) := by decide +kernel
theorem zd_La_law_532 : decode code 532 = .ok (.iload_n 2, 1) := by decide +kernel
theorem zd_La_law_533 : decode code 533 = .ok (.invokevirtual 56, 3) := by decide +kernel
theorem zd_La_law_536 : decode code 536 = .ok (.iconst 1, 1) := by decide +kernel
theorem zd_La_law_537 : decode code 537 = .ok (.if_icmp .ne 23, 3) := by decide +kernel
theorem zd_La_law_540 : decode code 540 = .ok (.aload_n 1, 1) := by decide +kernel
theorem zd_La_law_541 : decode code 541 = .ok (.iload 11, 2) := by decide +kernel
theorem zd_La_law_543 : decode code 543 = .ok (.iconst 1, 1) := by decide +kernel
theorem zd_La_law_544 : decode code 544 = .ok (.invokevirtual 47, 3) := by decide +kernel
theorem zd_La_law_547 : decode code 547 = .ok (.aload_n 1, 1) := by decide +kernel
theorem zd_La_law_548 : decode code 548 = .ok (.iload 12, 2) := by decide +kernel
theorem zd_La_law_550 : decode code 550 = .ok (.iconst 1, 1) := by decide +kernel
theorem zd_La_law_551 : decode code 551 = .ok (.invokevirtual 47, 3) := by decide +kernel
theorem zd_La_law_554 : decode code 554 = .ok (.iadd, 1) := by decide +kernel
theorem zd_La_law_555 : decode code 555 = .ok (.iload 5, 2) := by decide +kernel
theorem zd_La_law_557 : decode code 557 = .ok (.if_icmp .eq 5, 3) := by decide +kernel
theorem zd_La_law_443 : decode code 443 = .ok (.lload 9, 2) := by decide +kernel
theorem zd_La_law_445 : decode code 445 = .ok (.invokestatic 63, 3) := by decide +kernel
theorem zd_La_law_448 : decode code 448 = .ok (.istore 7, 2) := by decide +kernel
theorem zd_La_law_450 : decode code 450 = .ok (.iload 4, 2) := by decide +kernel
theorem zd_La_law_452 : decode code 452 = .ok (.bipush 90, 2) := by decide +kernel
theorem zd_La_law_454 : decode code 454 = .ok (.if_icmp .le 22, 3) := by decide +kernel
theorem zd_La_law_457 : decode code 457 = .ok (.aload_n 0, 1) := by decide +kernel
theorem zd_La_law_458 : decode code 458 = .ok (.bipush 20, 2) := by decide +kernel
theorem zd_La_law_460 : decode code 460 = .ok (.iload 8, 2) := by decide +kernel
theorem zd_La_law_462 : decode code 462 = .ok (.bipush 40, 2) := by decide +kernel
theorem zd_La_law_464 : decode code 464 = .ok (.irem, 1) := by decide +kernel
theorem zd_La_law_465 : decode code 465 = .ok (.iadd, 1) := by decide +kernel
theorem zd_La_law_466 : decode code 466 = .ok (.iconst 4, 1) := by decide +kernel
theorem zd_La_law_467 : decode code 467 = .ok (.invokestatic 13, 3) := by decide +kernel
theorem zd_La_law_470 : decode code 470 = .ok (.ifCond .le 6, 3) := by decide +kernel
theorem zd_La_law_473 : decode code 473 = .ok (.goto 89, 3) := by decide +kernel
theorem zd_La_law_387 : decode code 387 = .ok (.iload 8, 2) := by decide +kernel
theorem zd_La_law_389 : decode code 389 = .ok (.iload 4, 2) := by decide +kernel
theorem zd_La_law_391 : decode code 391 = .ok (.if_icmp .ge 177, 3) := by decide +kernel
theorem zd_La_law_394 : decode code 394 = .ok (.aload_n 1, 1) := by decide +kernel
theorem zd_La_law_395 : decode code 395 = .ok (.iload 8, 2) := by decide +kernel
theorem zd_La_law_397 : decode code 397 = .ok (.invokevirtual 31, 3) := by decide +kernel
theorem zd_La_law_400 : decode code 400 = .ok (.lstore 9, 2) := by decide +kernel
theorem zd_La_law_402 : decode code 402 = .ok (.iload 8, 2) := by decide +kernel
theorem zd_La_law_404 : decode code 404 = .ok (.ifCond .le 39, 3) := by decide +kernel
theorem zd_La_law_407 : decode code 407 = .ok (.lload 9, 2) := by decide +kernel
theorem zd_La_law_409 : decode code 409 = .ok (.invokestatic 63, 3) := by decide +kernel
theorem zd_La_law_412 : decode code 412 = .ok (.iload 7, 2) := by decide +kernel
theorem zd_La_law_414 : decode code 414 = .ok (.if_icmp .lt 27, 3) := by decide +kernel
theorem zd_La_law_417 : decode code 417 = .ok (.lload 9, 2) := by decide +kernel
theorem zd_La_law_419 : decode code 419 = .ok (.invokestatic 63, 3) := by decide +kernel
theorem zd_La_law_422 : decode code 422 = .ok (.iload 7, 2) := by decide +kernel
theorem zd_La_law_424 : decode code 424 = .ok (.if_icmp .ne 19, 3) := by decide +kernel
theorem zd_La_law_427 : decode code 427 = .ok (.lload 9, 2) := by decide +kernel
theorem zd_La_law_429 : decode code 429 = .ok (.aload_n 1, 1) := by decide +kernel
theorem zd_La_law_430 : decode code 430 = .ok (.iload 8, 2) := by decide +kernel
theorem zd_La_law_432 : decode code 432 = .ok (.iconst 1, 1) := by decide +kernel
theorem zd_La_law_433 : decode code 433 = .ok (.isub, 1) := by decide +kernel
theorem zd_La_law_434 : decode code 434 = .ok (.invokevirtual 31, 3) := by decide +kernel
theorem zd_La_law_437 : decode code 437 = .ok (.lcmp, 1) := by decide +kernel
theorem zd_La_law_438 : decode code 438 = .ok (.ifCond .gt 5, 3) := by decide +kernel
theorem zd_La_law_0 : decode code 0 = .ok (.new 18, 3) := by decide +kernel
theorem zd_La_law_3 : decode code 3 = .ok (.dup, 1) := by decide +kernel
theorem zd_La_law_4 : decode code 4 = .ok (.invokespecial 30, 3) := by decide +kernel
theorem zd_La_law_7 : decode code 7 = .ok (.astore_n 1, 1) := by decide +kernel
theorem zd_La_law_568 : decode code 568 = .ok (.iconst 1, 1) := by decide +kernel
theorem zd_La_law_569 : decode code 569 = .ok (.ireturn, 1) := by decide +kernel
section LAW
variable {p : Program} {l : Launch} {e : Env} {R : Room} {s : State} {m : MethodId} {args : Array Value} {below : List Frame} {meth : Method} {c : Code} {cells slots : Nat} {Q : State → Prop} {D : va_G} {AC : Nat → ClassId} {ad : Nat → Nat} {tn : Nat} {A : Nat → Prop} {b L : Nat} {xs : Nat → Int32}
set_option maxHeartbeats 4000000 in
theorem ls_a (C : LAx p s m args meth c R D AC ad tn A b L xs cells slots) {μ : Mm} {H : Heap} {locs : List Loc} {ls : Array Slot} (hJ : J 0 μ) (hW : Wd kA D AC ad μ H) (hS : va_S A s.heap H locs) (hl : lv_has ls 13 [(1, .ref (ad 0)), (0, .ref b)])
    (K : ∀ (μ : Mm) (H : Heap) (locs : List Loc) (ls : Array Slot), J 0 μ → Wd kA D AC ad μ H → va_S A s.heap H locs → lv_has ls 13 [(1, .ref (ad 0)), (0, .ref b)] → W p l e R s m args below meth c H locs cells slots Q (F0 m 78 ls [])) : W p l e R s m args below meth c H locs cells slots Q (F0 m 8 ls []) := by
  obtain ⟨⟨X, hK, hN⟩, ⟨hA, hi⟩, ⟨hX, hbl, hbA⟩, hLL, hF9, hL9, hcs⟩ := id C
  have hx := X.1
  have hb := X.2.1
  have hR1 : 7 ≤ R.frames := by omega
  have hR2 : 280 ≤ R.locals := by omega
  have hR3 : 2 ≤ R.frames := by omega
  have hR4 : 46 ≤ R.locals := by omega
  refine lv_aload_n hx hb zd_La_law_8 rfl (lv_at hl 0 rfl) ?_
  refine lv_iconst (v := nI 0) hx hb zd_La_law_9 (by decide) ?_
  obtain ⟨μ1, e1, hJ⟩ := a_count0 hJ
  refine cR (c0 := 81) (k := 0) (as := [.int (nI 0)]) (B := 6) (ci := 0) (rest := []) (st1 := [.int (nI (numN (tG 0)))]) X hK hN hA hi hW hS (by decide) rfl (Nat.le_of_ble_eq_true rfl) e1 rfl (List.mem_range.mpr (by decide)) rfl zw460 rfl (Nat.le_of_ble_eq_true rfl) hR1 hR2 hcs hl.1 rfl (Nat.le_of_ble_eq_true rfl) zd_La_law_10 rfl (fun H locs hW hS => ?_)
  refine lv_if_ne (tgt := 76) hx hb zd_La_law_13 (by decide) (fun c_ => absurd c_ (fun z => z (by decide +kernel))) (fun _ => ?_)
  refine lv_aload_n hx hb zd_La_law_16 rfl (lv_at hl 0 rfl) ?_
  refine lv_iconst (v := nI 1) hx hb zd_La_law_17 (by decide) ?_
  obtain ⟨μ2, e2, hJ⟩ := a_count1 hJ
  refine cR (c0 := 81) (k := 0) (as := [.int (nI 1)]) (B := 6) (ci := 0) (rest := []) (st1 := [.int (nI (pG 0))]) X hK hN hA hi hW hS (by decide) rfl (Nat.le_of_ble_eq_true rfl) e2 rfl (List.mem_range.mpr (by decide)) rfl zw460 rfl (Nat.le_of_ble_eq_true rfl) hR1 hR2 hcs hl.1 rfl (Nat.le_of_ble_eq_true rfl) zd_La_law_18 rfl (fun H locs hW hS => ?_)
  refine lv_iconst (v := nI 2) hx hb zd_La_law_21 (by decide) ?_
  refine lv_icmp_ne (tgt := 76) hx hb zd_La_law_22 (by decide) (fun c_ => absurd c_ (fun z => z (by decide +kernel))) (fun _ => ?_)
  refine lv_aload_n hx hb zd_La_law_25 rfl (lv_at hl 0 rfl) ?_
  refine lv_iconst (v := nI 2) hx hb zd_La_law_26 (by decide) ?_
  obtain ⟨μ3, e3, hJ⟩ := a_count2 hJ
  refine cR (c0 := 81) (k := 0) (as := [.int (nI 2)]) (B := 6) (ci := 0) (rest := []) (st1 := [.int (nI (nG 0))]) X hK hN hA hi hW hS (by decide) rfl (Nat.le_of_ble_eq_true rfl) e3 rfl (List.mem_range.mpr (by decide)) rfl zw460 rfl (Nat.le_of_ble_eq_true rfl) hR1 hR2 hcs hl.1 rfl (Nat.le_of_ble_eq_true rfl) zd_La_law_27 rfl (fun H locs hW hS => ?_)
  refine lv_iconst (v := nI 1) hx hb zd_La_law_30 (by decide) ?_
  refine lv_icmp_ne (tgt := 76) hx hb zd_La_law_31 (by decide) (fun c_ => absurd c_ (fun z => z (by decide +kernel))) (fun _ => ?_)
  refine lv_aload_n hx hb zd_La_law_34 rfl (lv_at hl 0 rfl) ?_
  refine lv_iconst (v := (-1 : Int32)) hx hb zd_La_law_35 (by decide) ?_
  obtain ⟨μ4, e4, hJ⟩ := a_listn hJ
  refine cR (c0 := 79) (k := 0) (as := [.int ((-1 : Int32))]) (B := 6) (ci := 0) (rest := []) (st1 := [.long (lN (lenG 0))]) X hK hN hA hi hW hS (by decide) rfl (Nat.le_of_ble_eq_true rfl) e4 rfl (List.mem_range.mpr (by decide)) rfl zw418 rfl (Nat.le_of_ble_eq_true rfl) hR1 hR2 hcs hl.1 rfl (Nat.le_of_ble_eq_true rfl) zd_La_law_36 rfl (fun H locs hW hS => ?_)
  refine lv_lconst (v := lN 1) hx hb zd_La_law_39 (by decide) ?_
  refine W.lcmp hx hb zd_La_law_40 ?_
  refine lv_if_ne (tgt := 76) hx hb zd_La_law_41 (by decide) (fun c_ => absurd c_ (fun z => z (by decide +kernel))) (fun _ => ?_)
  refine lv_aload_n hx hb zd_La_law_44 rfl (lv_at hl 0 rfl) ?_
  refine lv_iconst (v := nI 0) hx hb zd_La_law_45 (by decide) ?_
  obtain ⟨μ5, e5, hJ⟩ := a_list (i := 0) (by decide +kernel) hJ
  refine cR (c0 := 79) (k := 0) (as := [.int (nI 0)]) (B := 6) (ci := 0) (rest := []) (st1 := [.long (lN (LG 0 0))]) X hK hN hA hi hW hS (by decide) rfl (Nat.le_of_ble_eq_true rfl) e5 rfl (List.mem_range.mpr (by decide)) rfl zw418 rfl (Nat.le_of_ble_eq_true rfl) hR1 hR2 hcs hl.1 rfl (Nat.le_of_ble_eq_true rfl) zd_La_law_46 rfl (fun H locs hW hS => ?_)
  refine lv_lconst (v := lN 1) hx hb zd_La_law_49 (by decide) ?_
  refine W.lcmp hx hb zd_La_law_50 ?_
  refine lv_if_ne (tgt := 76) hx hb zd_La_law_51 (by decide) (fun c_ => absurd c_ (fun z => z (by decide +kernel))) (fun _ => ?_)
  refine lv_aload_n hx hb zd_La_law_54 rfl (lv_at hl 0 rfl) ?_
  refine lv_bipush (v := nI 19) hx hb zd_La_law_55 (by decide) ?_
  obtain ⟨μ6, e6, hJ⟩ := a_type19 hJ
  refine cR (c0 := 69) (k := 0) (as := [.int (nI 19)]) (B := 6) (ci := 0) (rest := []) (st1 := [.int ((-1 : Int32))]) X hK hN hA hi hW hS (by decide) rfl (Nat.le_of_ble_eq_true rfl) e6 rfl (List.mem_range.mpr (by decide)) rfl zw203 rfl (Nat.le_of_ble_eq_true rfl) hR1 hR2 hcs hl.1 rfl (Nat.le_of_ble_eq_true rfl) zd_La_law_57 rfl (fun H locs hW hS => ?_)
  refine lv_iconst (v := (-1 : Int32)) hx hb zd_La_law_60 (by decide) ?_
  refine lv_icmp_ne (tgt := 76) hx hb zd_La_law_61 (by decide) (fun c_ => absurd c_ (fun z => z rfl)) (fun _ => ?_)
  refine lv_aload_n hx hb zd_La_law_64 rfl (lv_at hl 0 rfl) ?_
  refine lv_bipush (v := nI 18) hx hb zd_La_law_65 (by decide) ?_
  obtain ⟨μ7, e7, hJ⟩ := a_type (t := 18) (by omega) hJ
  refine cR (c0 := 69) (k := 0) (as := [.int (nI 18)]) (B := 6) (ci := 0) (rest := []) (st1 := [.int (nI (numN 18))]) X hK hN hA hi hW hS (by decide) rfl (Nat.le_of_ble_eq_true rfl) e7 rfl (List.mem_range.mpr (by decide)) rfl zw203 rfl (Nat.le_of_ble_eq_true rfl) hR1 hR2 hcs hl.1 rfl (Nat.le_of_ble_eq_true rfl) zd_La_law_67 rfl (fun H locs hW hS => ?_)
  refine lv_sipush (v := nI 11111) hx hb zd_La_law_70 (by decide) ?_
  refine lv_icmp_eq (tgt := 78) hx hb zd_La_law_73 (by decide) (fun _ => ?_) (fun c_ => absurd (show nI (numN 18) = nI 11111 by decide +kernel) c_)
  exact K _ _ _ _ hJ hW hS hl
set_option maxHeartbeats 4000000 in
theorem ls_b (C : LAx p s m args meth c R D AC ad tn A b L xs cells slots) {μ : Mm} {H : Heap} {locs : List Loc} {ls : Array Slot} (hJ : J 0 μ) (hW : Wd kA D AC ad μ H) (hS : va_S A s.heap H locs) (hl : lv_has ls 13 [(1, .ref (ad 0)), (0, .ref b)])
    (K : ∀ (g : Nat) (μ : Mm) (H : Heap) (locs : List Loc) (ls : Array Slot), J g μ → Wd kA D AC ad μ H → va_S A s.heap H locs → lv_has ls 13 [(4, .int (nI (lenG g))), (3, .int (nI (pG g))), (2, .int (nI (numN (tG g)))), (1, .ref (ad 0)), (0, .ref b)] → W p l e R s m args below meth c H locs cells slots Q (F0 m 138 ls [])) : W p l e R s m args below meth c H locs cells slots Q (F0 m 78 ls []) := by
  obtain ⟨⟨X, hK, hN⟩, ⟨hA, hi⟩, ⟨hX, hbl, hbA⟩, hLL, hF9, hL9, hcs⟩ := id C
  have hx := X.1
  have hb := X.2.1
  have hR1 : 7 ≤ R.frames := by omega
  have hR2 : 280 ≤ R.locals := by omega
  have hR3 : 2 ≤ R.frames := by omega
  have hR4 : 46 ≤ R.locals := by omega
  refine lv_aload_n hx hb zd_La_law_78 rfl (lv_at hl 0 rfl) ?_
  refine lv_aload_n hx hb zd_La_law_79 rfl (lv_at hl 1 rfl) ?_
  refine lv_iconst (v := nI 0) hx hb zd_La_law_80 (by decide) ?_
  obtain ⟨g, ν, hJ, hM⟩ := c_setUp l D AC ad tn b L hLL xs hJ
  refine k_mR (va_runS (As := [.ref (ad 0), .ref b, .int (nI 0)]) (rest := []) ⟨X.1, X.2.1, X.2.2.1, X.2.2.2.1, X.2.2.2.2.1⟩ hM ⟨callB_of 3 X.2.2.2.2.1 (LW_gin zw509) rfl rfl rfl (X.2.2.2.2.1 _ zw0) (X.2.2.2.2.1 _ zw507) zh_La_setUp ⟨(show 6 + 1 ≤ R.frames by omega), (show 8 + (5 + 11) + 300 ≤ R.locals by omega)⟩, X.2.2.2.2.1 _ zw508⟩ ⟨blindS _, fun U hU hw => ⟨rfl, preR hK hN hA hi hW hS hU hw, by rw [hU]; exact (hX.kept (hS.2.1 b hbl hbA)).moved hw.alike, by rw [hU]; exact Nat.lt_of_lt_of_le hbl hS.1, fun q => hbA (hA b q)⟩⟩ rfl rfl hl.1 rfl (lv_room (Nat.le_of_ble_eq_true rfl)) zd_La_law_81 hcs) hA hA hS (fun t locs hF _ hS => ?_)
  have hW : Wd kA D AC ad ν t.heap := hF
  generalize t.heap = H at hW hS ⊢
  have hg := hJ.1
  have hg1 := g_1 g hg
  have hlen := len_ok g hg
  show W p l e R s m args below meth c H locs cells slots Q (F0 m 84 ls [.int (nI (numN (tG g)))])
  refine lv_istore_n (lv' := [(2, .int (nI (numN (tG g)))), (1, .ref (ad 0)), (0, .ref b)]) hx hb zd_La_law_84 rfl hl (by decide) rfl (fun ls hl => ?_)
  refine lv_aload_n hx hb zd_La_law_85 rfl (lv_at hl 1 rfl) ?_
  refine lv_iconst (v := nI 1) hx hb zd_La_law_86 (by decide) ?_
  obtain ⟨μ1, e1, hJ⟩ := a_count1 hJ
  refine cR (c0 := 81) (k := 0) (as := [.int (nI 1)]) (B := 6) (ci := 0) (rest := []) (st1 := [.int (nI (pG g))]) X hK hN hA hi hW hS (by decide) rfl (Nat.le_of_ble_eq_true rfl) e1 rfl (List.mem_range.mpr (by decide)) rfl zw460 rfl (Nat.le_of_ble_eq_true rfl) hR1 hR2 hcs hl.1 rfl (Nat.le_of_ble_eq_true rfl) zd_La_law_87 rfl (fun H locs hW hS => ?_)
  refine lv_istore_n (lv' := [(3, .int (nI (pG g))), (2, .int (nI (numN (tG g)))), (1, .ref (ad 0)), (0, .ref b)]) hx hb zd_La_law_90 rfl hl (by decide) rfl (fun ls hl => ?_)
  refine lv_aload_n hx hb zd_La_law_91 rfl (lv_at hl 2 rfl) ?_
  refine lv_iconst (v := (-1 : Int32)) hx hb zd_La_law_92 (by decide) ?_
  obtain ⟨μ2, e2, hJ⟩ := a_listn hJ
  refine cR (c0 := 79) (k := 0) (as := [.int ((-1 : Int32))]) (B := 6) (ci := 0) (rest := []) (st1 := [.long (lN (lenG g))]) X hK hN hA hi hW hS (by decide) rfl (Nat.le_of_ble_eq_true rfl) e2 rfl (List.mem_range.mpr (by decide)) rfl zw418 rfl (Nat.le_of_ble_eq_true rfl) hR1 hR2 hcs hl.1 rfl (Nat.le_of_ble_eq_true rfl) zd_La_law_93 rfl (fun H locs hW hS => ?_)
  refine lv_l2i (v := nI (lenG g)) hx hb zd_La_law_96 (lN_i _) ?_
  refine lv_istore (lv' := [(4, .int (nI (lenG g))), (3, .int (nI (pG g))), (2, .int (nI (numN (tG g)))), (1, .ref (ad 0)), (0, .ref b)]) hx hb zd_La_law_97 hl (by decide) rfl (fun ls hl => ?_)
  refine lv_aload_n hx hb zd_La_law_99 rfl (lv_at hl 3 rfl) ?_
  refine lv_iload_n hx hb zd_La_law_100 rfl (lv_at hl 2 rfl) ?_
  refine lv_iconst (v := nI 0) hx hb zd_La_law_101 (by decide) ?_
  refine lv_iload_n hx hb zd_La_law_102 rfl (lv_at hl 1 rfl) ?_
  obtain ⟨μ3, e3, hJ⟩ := a_valueG hJ
  refine cR (c0 := 74) (k := 0) (as := [.int (nI (numN (tG g))), .int (nI 0), .int (nI (pG g))]) (B := 6) (ci := 0) (rest := []) (st1 := [.long (lN (lenG g))]) X hK hN hA hi hW hS (by decide) rfl (Nat.le_of_ble_eq_true rfl) e3 rfl (List.mem_range.mpr (by decide)) rfl zw309 rfl (Nat.le_of_ble_eq_true rfl) hR1 hR2 hcs hl.1 rfl (Nat.le_of_ble_eq_true rfl) zd_La_law_103 rfl (fun H locs hW hS => ?_)
  refine lv_iload hx hb zd_La_law_106 (lv_at hl 0 rfl) ?_
  refine lv_i2l (v := lN (lenG g)) hx hb zd_La_law_108 (nI_l (by omega)) ?_
  refine W.lcmp hx hb zd_La_law_109 ?_
  refine lv_if_ne (tgt := 136) hx hb zd_La_law_110 (by decide) (fun c_ => absurd c_ (fun z => z (lgc_self _))) (fun _ => ?_)
  refine lv_aload_n hx hb zd_La_law_113 rfl (lv_at hl 3 rfl) ?_
  refine lv_iload hx hb zd_La_law_114 (lv_at hl 0 rfl) ?_
  obtain ⟨μ4, e4, hJ⟩ := a_liste hJ
  refine cR (c0 := 79) (k := 0) (as := [.int (nI (lenG g))]) (B := 6) (ci := 0) (rest := []) (st1 := [.long ((-9223372036854775808 : Int64))]) X hK hN hA hi hW hS (by decide) rfl (Nat.le_of_ble_eq_true rfl) e4 rfl (List.mem_range.mpr (by decide)) rfl zw418 rfl (Nat.le_of_ble_eq_true rfl) hR1 hR2 hcs hl.1 rfl (Nat.le_of_ble_eq_true rfl) zd_La_law_116 rfl (fun H locs hW hS => ?_)
  refine lv_ldc2 (v := (-9223372036854775808 : Int64)) hx hb X.2.2.2.1 (X.2.2.2.2.1 _ zw559) zd_La_law_119 ?_
  refine W.lcmp hx hb zd_La_law_122 ?_
  refine lv_if_ne (tgt := 136) hx hb zd_La_law_123 (by decide) (fun c_ => absurd c_ (fun z => z (lgc_self _))) (fun _ => ?_)
  refine lv_aload_n hx hb zd_La_law_126 rfl (lv_at hl 3 rfl) ?_
  refine lv_iconst (v := nI 0) hx hb zd_La_law_127 (by decide) ?_
  obtain ⟨μ5, e5, hJ⟩ := a_list0 hJ
  refine cR (c0 := 79) (k := 0) (as := [.int (nI 0)]) (B := 6) (ci := 0) (rest := []) (st1 := [.long (lN 1)]) X hK hN hA hi hW hS (by decide) rfl (Nat.le_of_ble_eq_true rfl) e5 rfl (List.mem_range.mpr (by decide)) rfl zw418 rfl (Nat.le_of_ble_eq_true rfl) hR1 hR2 hcs hl.1 rfl (Nat.le_of_ble_eq_true rfl) zd_La_law_128 rfl (fun H locs hW hS => ?_)
  refine lv_lconst (v := lN 1) hx hb zd_La_law_131 (by decide) ?_
  refine W.lcmp hx hb zd_La_law_132 ?_
  refine lv_if_eq (tgt := 138) hx hb zd_La_law_133 (by decide) (fun _ => ?_) (fun c_ => absurd (lgc_self _) c_)
  exact K g _ _ _ _ hJ hW hS hl
set_option maxHeartbeats 4000000 in
theorem ls_c (C : LAx p s m args meth c R D AC ad tn A b L xs cells slots) {g : Nat} {μ : Mm} {H : Heap} {locs : List Loc} {ls : Array Slot} (hJ : J g μ) (hW : Wd kA D AC ad μ H) (hS : va_S A s.heap H locs) (hl : lv_has ls 13 [(4, .int (nI (lenG g))), (3, .int (nI (pG g))), (2, .int (nI (numN (tG g)))), (1, .ref (ad 0)), (0, .ref b)])
    (K : ∀ (μ : Mm) (H : Heap) (locs : List Loc) (ls : Array Slot), J g μ → Wd kA D AC ad μ H → va_S A s.heap H locs → lv_has ls 13 [(7, .int (nI 0)), (6, .int (nI 0)), (5, .int (nI (sizN (tG g)))), (4, .int (nI (lenG g))), (3, .int (nI (pG g))), (2, .int (nI (numN (tG g)))), (1, .ref (ad 0)), (0, .ref b)] → W p l e R s m args below meth c H locs cells slots Q (F0 m 152 ls [])) : W p l e R s m args below meth c H locs cells slots Q (F0 m 138 ls []) := by
  obtain ⟨⟨X, hK, hN⟩, ⟨hA, hi⟩, ⟨hX, hbl, hbA⟩, hLL, hF9, hL9, hcs⟩ := id C
  have hx := X.1
  have hb := X.2.1
  have hR1 : 7 ≤ R.frames := by omega
  have hR2 : 280 ≤ R.locals := by omega
  have hR3 : 2 ≤ R.frames := by omega
  have hR4 : 46 ≤ R.locals := by omega
  have hg1 := g_1 g hJ.1
  refine lv_aload_n hx hb zd_La_law_138 rfl (lv_at hl 3 rfl) ?_
  refine lv_iload_n hx hb zd_La_law_139 rfl (lv_at hl 2 rfl) ?_
  refine lv_iconst (v := nI 1) hx hb zd_La_law_140 (by decide) ?_
  obtain ⟨μ1, e1, hJ⟩ := a_of1 hg1.1.1 hJ
  refine cR (c0 := 70) (k := 0) (as := [.int (nI (numN (tG g))), .int (nI 1)]) (B := 6) (ci := 0) (rest := []) (st1 := [.int (nI (sizN (tG g)))]) X hK hN hA hi hW hS (by decide) rfl (Nat.le_of_ble_eq_true rfl) e1 rfl (List.mem_range.mpr (by decide)) rfl zw212 rfl (Nat.le_of_ble_eq_true rfl) hR1 hR2 hcs hl.1 rfl (Nat.le_of_ble_eq_true rfl) zd_La_law_141 rfl (fun H locs hW hS => ?_)
  refine lv_istore (lv' := [(5, .int (nI (sizN (tG g)))), (4, .int (nI (lenG g))), (3, .int (nI (pG g))), (2, .int (nI (numN (tG g)))), (1, .ref (ad 0)), (0, .ref b)]) hx hb zd_La_law_144 hl (by decide) rfl (fun ls hl => ?_)
  refine lv_iconst (v := nI 0) hx hb zd_La_law_146 (by decide) ?_
  refine lv_istore (lv' := [(6, .int (nI 0)), (5, .int (nI (sizN (tG g)))), (4, .int (nI (lenG g))), (3, .int (nI (pG g))), (2, .int (nI (numN (tG g)))), (1, .ref (ad 0)), (0, .ref b)]) hx hb zd_La_law_147 hl (by decide) rfl (fun ls hl => ?_)
  refine lv_iconst (v := nI 0) hx hb zd_La_law_149 (by decide) ?_
  refine lv_istore (lv' := [(7, .int (nI 0)), (6, .int (nI 0)), (5, .int (nI (sizN (tG g)))), (4, .int (nI (lenG g))), (3, .int (nI (pG g))), (2, .int (nI (numN (tG g)))), (1, .ref (ad 0)), (0, .ref b)]) hx hb zd_La_law_150 hl (by decide) rfl (fun ls hl => ?_)
  exact K _ _ _ _ hJ hW hS hl
set_option maxHeartbeats 4000000 in
theorem lp_sub (C : LAx p s m args meth c R D AC ad tn A b L xs cells slots) {g : Nat} {i : Nat} (hi19 : i < 19) (v0 : Int64)
    (K : ∀ (k : Int32) (μ : Mm) (H : Heap) (locs : List Loc) (ls : Array Slot), J g μ → Wd kA D AC ad μ H → va_S A s.heap H locs → lv_has ls 13 [(11, .int k), (9, .long v0), (8, .int (nI (numN i))), (7, .int (nI i)), (6, .int (nI (smG g i))), (5, .int (nI (sizN (tG g)))), (4, .int (nI (lenG g))), (3, .int (nI (pG g))), (2, .int (nI (numN (tG g)))), (1, .ref (ad 0)), (0, .ref b)] → W p l e R s m args below meth c H locs cells slots Q (F0 m 209 ls [])) : ∀ (n : Nat) (k : Int32) (v : Int64) (μ : Mm) (H : Heap) (locs : List Loc) (ls : Array Slot), n ≤ 31 → Kc n k → val (rp (subC (tG g) i)) (lN (pG g)) n v = v0 → J g μ → Wd kA D AC ad μ H → va_S A s.heap H locs → lv_has ls 13 [(11, .int k), (9, .long v), (8, .int (nI (numN i))), (7, .int (nI i)), (6, .int (nI (smG g i))), (5, .int (nI (sizN (tG g)))), (4, .int (nI (lenG g))), (3, .int (nI (pG g))), (2, .int (nI (numN (tG g)))), (1, .ref (ad 0)), (0, .ref b)] → W p l e R s m args below meth c H locs cells slots Q (F0 m 181 ls []) := by
  obtain ⟨⟨X, hK, hN⟩, ⟨hA, hi⟩, ⟨hX, hbl, hbA⟩, hLL, hF9, hL9, hcs⟩ := id C
  have hx := X.1
  have hb := X.2.1
  have hR1 : 7 ≤ R.frames := by omega
  have hR2 : 280 ≤ R.locals := by omega
  have hR3 : 2 ≤ R.frames := by omega
  have hR4 : 46 ≤ R.locals := by omega
  intro n
  induction n with
  | zero =>
    intro k v μ H locs ls hn hk hv hJ hW hS hl
    have hk0 : k < 0 := hk.elim (fun z => z.2) (fun z => absurd z.1 (Nat.lt_irrefl 0))
    have hv : v = v0 := hv
    subst hv
    refine lv_iload hx hb zd_La_law_181 (lv_at hl 0 rfl) ?_
    exact lv_if_lt (tgt := 209) hx hb zd_La_law_183 (by decide) (fun _ => K k _ _ _ _ hJ hW hS hl) (fun c_ => absurd hk0 c_)
  | succ n ih =>
    intro k v μ H locs ls hn hk hv hJ hW hS hl
    have hk0 : k = nI n := hk.elim (fun z => absurd z.1 (Nat.succ_ne_zero n)) (fun z => z.2)
    subst hk0
    have hg1 := g_1 g hJ.1
    have hpp : pG g < 2 ^ 31 := by have := hg1.1.2.1; omega
    refine lv_iload hx hb zd_La_law_181 (lv_at hl 0 rfl) ?_
    refine lv_if_lt (tgt := 209) hx hb zd_La_law_183 (by decide) (fun c_ => absurd c_ (nI_pos (by omega))) (fun _ => ?_)
    refine lv_lload hx hb zd_La_law_186 (lv_at hl 1 rfl) ?_
    refine lv_iload_n hx hb zd_La_law_188 rfl (lv_at hl 7 rfl) ?_
    refine lv_i2l (v := lN (pG g)) hx hb zd_La_law_189 (nI_l hpp) ?_
    refine lv_lmul hx hb zd_La_law_190 ?_
    refine lv_aload_n hx hb zd_La_law_191 rfl (lv_at hl 9 rfl) ?_
    refine lv_iload_n hx hb zd_La_law_192 rfl (lv_at hl 8 rfl) ?_
    refine lv_iload hx hb zd_La_law_193 (lv_at hl 2 rfl) ?_
    refine lv_iload hx hb zd_La_law_195 (lv_at hl 0 rfl) ?_
    obtain ⟨μ1, e1, hJ⟩ := a_sub hg1.1.1 hi19 (Or.inr ⟨n, by omega, rfl⟩) hJ
    refine cR (c0 := 72) (k := 0) (as := [.int (nI (numN (tG g))), .int (nI (numN i)), .int (nI n)]) (B := 6) (ci := 0) (rest := [.long (v * (lN (pG g)))]) (st1 := [.long (prt (rp (subC (tG g) i)) (nI n)), .long (v * (lN (pG g)))]) X hK hN hA hi hW hS (by decide) rfl (Nat.le_of_ble_eq_true rfl) e1 rfl (List.mem_range.mpr (by decide)) rfl zw250 rfl (Nat.le_of_ble_eq_true rfl) hR1 hR2 hcs hl.1 rfl (Nat.le_of_ble_eq_true rfl) zd_La_law_197 rfl (fun H locs hW hS => ?_)
    rw [show prt (rp (subC (tG g) i)) (nI n) = rp (subC (tG g) i) n from prt_n _ (by omega)]
    refine lv_ladd hx hb zd_La_law_200 ?_
    refine lv_lstore (lv' := [(9, .long ((v * (lN (pG g))) + (rp (subC (tG g) i) n))), (11, .int (nI n)), (8, .int (nI (numN i))), (7, .int (nI i)), (6, .int (nI (smG g i))), (5, .int (nI (sizN (tG g)))), (4, .int (nI (lenG g))), (3, .int (nI (pG g))), (2, .int (nI (numN (tG g)))), (1, .ref (ad 0)), (0, .ref b)]) hx hb zd_La_law_201 hl (by decide) rfl (fun ls hl => ?_)
    obtain ⟨k2, hk2, hkc⟩ : ∃ k2, nI n + Int32.ofInt (-1) = k2 ∧ Kc n k2 := ⟨_, rfl, kc_s n⟩
    refine lv_iinc (v := k2) (lv' := [(11, .int k2), (9, .long ((v * (lN (pG g))) + (rp (subC (tG g) i) n))), (8, .int (nI (numN i))), (7, .int (nI i)), (6, .int (nI (smG g i))), (5, .int (nI (sizN (tG g)))), (4, .int (nI (lenG g))), (3, .int (nI (pG g))), (2, .int (nI (numN (tG g)))), (1, .ref (ad 0)), (0, .ref b)]) hx hb zd_La_law_203 hl (k := 1) rfl hk2 (by decide) rfl (fun ls hl => ?_)
    refine lv_goto (tgt := 181) hx hb zd_La_law_206 (by decide) ?_
    exact ih k2 _ _ _ _ _ (by omega) hkc hv hJ hW hS hl
set_option maxHeartbeats 4000000 in
theorem ls_d (C : LAx p s m args meth c R D AC ad tn A b L xs cells slots) {g i : Nat} {k : Int32} {μ : Mm} {H : Heap} {locs : List Loc} {ls : Array Slot} (hJ : J g μ) (hW : Wd kA D AC ad μ H) (hS : va_S A s.heap H locs) (hl : lv_has ls 13 [(11, .int k), (9, .long (lN (c1G g i))), (8, .int (nI (numN i))), (7, .int (nI i)), (6, .int (nI (smG g i))), (5, .int (nI (sizN (tG g)))), (4, .int (nI (lenG g))), (3, .int (nI (pG g))), (2, .int (nI (numN (tG g)))), (1, .ref (ad 0)), (0, .ref b)])
    (K : ∀ (μ : Mm) (H : Heap) (locs : List Loc) (ls : Array Slot), J g μ → Wd kA D AC ad μ H → va_S A s.heap H locs → lv_has ls 13 [(7, .int (nI (i + 1))), (6, .int (nI (smG g (i + 1)))), (5, .int (nI (sizN (tG g)))), (4, .int (nI (lenG g))), (3, .int (nI (pG g))), (2, .int (nI (numN (tG g)))), (1, .ref (ad 0)), (0, .ref b)] → W p l e R s m args below meth c H locs cells slots Q (F0 m 152 ls [])) : W p l e R s m args below meth c H locs cells slots Q (F0 m 243 ls []) := by
  obtain ⟨⟨X, hK, hN⟩, ⟨hA, hi⟩, ⟨hX, hbl, hbA⟩, hLL, hF9, hL9, hcs⟩ := id C
  have hx := X.1
  have hb := X.2.1
  have hR1 : 7 ≤ R.frames := by omega
  have hR2 : 280 ≤ R.locals := by omega
  have hR3 : 2 ≤ R.frames := by omega
  have hR4 : 46 ≤ R.locals := by omega
  refine lv_iload hx hb zd_La_law_243 (lv_at hl 4 rfl) ?_
  refine lv_lload hx hb zd_La_law_245 (lv_at hl 1 rfl) ?_
  refine lv_l2i (v := nI (c1G g i)) hx hb zd_La_law_247 (lN_i _) ?_
  refine lv_iadd hx hb zd_La_law_248 ?_
  rw [show (nI (smG g i)) + (nI (c1G g i)) = nI (smG g (i + 1)) from nI_add _ _]
  refine lv_istore (lv' := [(6, .int (nI (smG g (i + 1)))), (11, .int k), (9, .long (lN (c1G g i))), (8, .int (nI (numN i))), (7, .int (nI i)), (5, .int (nI (sizN (tG g)))), (4, .int (nI (lenG g))), (3, .int (nI (pG g))), (2, .int (nI (numN (tG g)))), (1, .ref (ad 0)), (0, .ref b)]) hx hb zd_La_law_249 hl (by decide) rfl (fun ls hl => ?_)
  refine lv_iinc (v := nI (i + 1)) (lv' := [(7, .int (nI (i + 1))), (6, .int (nI (smG g (i + 1)))), (11, .int k), (9, .long (lN (c1G g i))), (8, .int (nI (numN i))), (5, .int (nI (sizN (tG g)))), (4, .int (nI (lenG g))), (3, .int (nI (pG g))), (2, .int (nI (numN (tG g)))), (1, .ref (ad 0)), (0, .ref b)]) hx hb zd_La_law_251 hl (k := 4) rfl (nI_add i 1) (by decide) rfl (fun ls hl => ?_)
  refine lv_goto (tgt := 152) hx hb zd_La_law_254 (by decide) ?_
  have hl := lv_sub hl [0, 1, 5, 6, 7, 8, 9, 10] rfl
  exact K _ _ _ _ hJ hW hS hl
set_option maxHeartbeats 4000000 in
theorem ls_e (C : LAx p s m args meth c R D AC ad tn A b L xs cells slots) {g i : Nat} {k : Int32} (hi19 : i < 19) {μ : Mm} {H : Heap} {locs : List Loc} {ls : Array Slot} (hJ : J g μ) (hW : Wd kA D AC ad μ H) (hS : va_S A s.heap H locs) (hl : lv_has ls 13 [(11, .int k), (9, .long (lN (c1G g i))), (8, .int (nI (numN i))), (7, .int (nI i)), (6, .int (nI (smG g i))), (5, .int (nI (sizN (tG g)))), (4, .int (nI (lenG g))), (3, .int (nI (pG g))), (2, .int (nI (numN (tG g)))), (1, .ref (ad 0)), (0, .ref b)])
    (K : ∀ (μ : Mm) (H : Heap) (locs : List Loc) (ls : Array Slot), J g μ → Wd kA D AC ad μ H → va_S A s.heap H locs → lv_has ls 13 [(7, .int (nI (i + 1))), (6, .int (nI (smG g (i + 1)))), (5, .int (nI (sizN (tG g)))), (4, .int (nI (lenG g))), (3, .int (nI (pG g))), (2, .int (nI (numN (tG g)))), (1, .ref (ad 0)), (0, .ref b)] → W p l e R s m args below meth c H locs cells slots Q (F0 m 152 ls [])) : W p l e R s m args below meth c H locs cells slots Q (F0 m 209 ls []) := by
  obtain ⟨⟨X, hK, hN⟩, ⟨hA, hi⟩, ⟨hX, hbl, hbA⟩, hLL, hF9, hL9, hcs⟩ := id C
  have hx := X.1
  have hb := X.2.1
  have hR1 : 7 ≤ R.frames := by omega
  have hR2 : 280 ≤ R.locals := by omega
  have hR3 : 2 ≤ R.frames := by omega
  have hR4 : 46 ≤ R.locals := by omega
  have hg1 := g_1 g hJ.1
  obtain ⟨⟨-, f2⟩, f3⟩ := f_sub g hJ.1 i hi19
  refine lv_aload_n hx hb zd_La_law_209 rfl (lv_at hl 9 rfl) ?_
  refine lv_iload hx hb zd_La_law_210 (lv_at hl 2 rfl) ?_
  refine lv_iconst (v := (-1 : Int32)) hx hb zd_La_law_212 (by decide) ?_
  obtain ⟨μ1, e1, hJ⟩ := a_listed1 hi19 hJ
  refine cR (c0 := 80) (k := 0) (as := [.int (nI (numN i)), .int ((-1 : Int32))]) (B := 6) (ci := 0) (rest := []) (st1 := [.int (nI (c1G g i))]) X hK hN hA hi hW hS (by decide) rfl (Nat.le_of_ble_eq_true rfl) e1 rfl (List.mem_range.mpr (by decide)) rfl zw452 rfl (Nat.le_of_ble_eq_true rfl) hR1 hR2 hcs hl.1 rfl (Nat.le_of_ble_eq_true rfl) zd_La_law_213 rfl (fun H locs hW hS => ?_)
  refine lv_i2l (v := lN (c1G g i)) hx hb zd_La_law_216 (nI_l (by omega)) ?_
  refine lv_lload hx hb zd_La_law_217 (lv_at hl 1 rfl) ?_
  refine W.lcmp hx hb zd_La_law_219 ?_
  refine lv_if_ne (tgt := 241) hx hb zd_La_law_220 (by decide) (fun c_ => absurd c_ (fun z => z (lgc_self _))) (fun _ => ?_)
  refine lv_lload hx hb zd_La_law_223 (lv_at hl 1 rfl) ?_
  refine lv_lconst (v := lN 0) hx hb zd_La_law_225 (by decide) ?_
  refine W.lcmp hx hb zd_La_law_226 ?_
  refine lv_if_le (tgt := 243) hx hb zd_La_law_227 (by decide) (fun _ => ls_d C hJ hW hS hl K) (fun c_ => ?_)
  have hlie : liesN i (tG g) = true := f3.elim (fun z => absurd (by rw [z]; decide) c_) id
  refine lv_aload_n hx hb zd_La_law_230 rfl (lv_at hl 9 rfl) ?_
  refine lv_iload hx hb zd_La_law_231 (lv_at hl 2 rfl) ?_
  refine lv_iload_n hx hb zd_La_law_233 rfl (lv_at hl 8 rfl) ?_
  obtain ⟨μ2, e2, hJ⟩ := a_inT hi19 hg1.1.1 hlie hJ
  refine cR (c0 := 71) (k := 0) (as := [.int (nI (numN i)), .int (nI (numN (tG g)))]) (B := 6) (ci := 0) (rest := []) (st1 := [.int (nI 1)]) X hK hN hA hi hW hS (by decide) rfl (Nat.le_of_ble_eq_true rfl) e2 rfl (List.mem_range.mpr (by decide)) rfl zw245 rfl (Nat.le_of_ble_eq_true rfl) hR1 hR2 hcs hl.1 rfl (Nat.le_of_ble_eq_true rfl) zd_La_law_234 rfl (fun H locs hW hS => ?_)
  refine lv_iconst (v := nI 1) hx hb zd_La_law_237 (by decide) ?_
  exact lv_icmp_eq (tgt := 243) hx hb zd_La_law_238 (by decide) (fun _ => ls_d C hJ hW hS hl K) (fun c_ => absurd rfl c_)
set_option maxHeartbeats 4000000 in
theorem lp_1 (C : LAx p s m args meth c R D AC ad tn A b L xs cells slots) {g : Nat}
    (K : ∀ (μ : Mm) (H : Heap) (locs : List Loc) (ls : Array Slot), J g μ → Wd kA D AC ad μ H → va_S A s.heap H locs → lv_has ls 13 [(7, .int (nI 19)), (6, .int (nI (smG g 19))), (5, .int (nI (sizN (tG g)))), (4, .int (nI (lenG g))), (3, .int (nI (pG g))), (2, .int (nI (numN (tG g)))), (1, .ref (ad 0)), (0, .ref b)] → W p l e R s m args below meth c H locs cells slots Q (F0 m 257 ls [])) : ∀ (n i : Nat) (μ : Mm) (H : Heap) (locs : List Loc) (ls : Array Slot), i + n = 19 → J g μ → Wd kA D AC ad μ H → va_S A s.heap H locs → lv_has ls 13 [(7, .int (nI i)), (6, .int (nI (smG g i))), (5, .int (nI (sizN (tG g)))), (4, .int (nI (lenG g))), (3, .int (nI (pG g))), (2, .int (nI (numN (tG g)))), (1, .ref (ad 0)), (0, .ref b)] → W p l e R s m args below meth c H locs cells slots Q (F0 m 152 ls []) := by
  obtain ⟨⟨X, hK, hN⟩, ⟨hA, hi⟩, ⟨hX, hbl, hbA⟩, hLL, hF9, hL9, hcs⟩ := id C
  have hx := X.1
  have hb := X.2.1
  have hR1 : 7 ≤ R.frames := by omega
  have hR2 : 280 ≤ R.locals := by omega
  have hR3 : 2 ≤ R.frames := by omega
  have hR4 : 46 ≤ R.locals := by omega
  intro n
  induction n with
  | zero =>
    intro i μ H locs ls hn hJ hW hS hl
    obtain rfl : i = 19 := hn
    refine lv_iload hx hb zd_La_law_152 (lv_at hl 0 rfl) ?_
    refine lv_bipush (v := nI 19) hx hb zd_La_law_154 (by decide) ?_
    exact lv_icmp_ge (tgt := 257) hx hb zd_La_law_156 (by decide) (fun _ => K _ _ _ _ hJ hW hS hl) (fun c_ => absurd (nI_le (Nat.le_refl 19) (by omega)) c_)
  | succ n ih =>
    intro i μ H locs ls hn hJ hW hS hl
    have hi19 : i < 19 := by omega
    have hg1 := g_1 g hJ.1
    refine lv_iload hx hb zd_La_law_152 (lv_at hl 0 rfl) ?_
    refine lv_bipush (v := nI 19) hx hb zd_La_law_154 (by decide) ?_
    refine lv_icmp_ge (tgt := 257) hx hb zd_La_law_156 (by decide) (fun c_ => absurd c_ (nI_ge hi19 (by omega))) (fun _ => ?_)
    refine lv_aload_n hx hb zd_La_law_159 rfl (lv_at hl 6 rfl) ?_
    refine lv_iload hx hb zd_La_law_160 (lv_at hl 0 rfl) ?_
    obtain ⟨μ1, e1, hJ⟩ := a_type hi19 hJ
    refine cR (c0 := 69) (k := 0) (as := [.int (nI i)]) (B := 6) (ci := 0) (rest := []) (st1 := [.int (nI (numN i))]) X hK hN hA hi hW hS (by decide) rfl (Nat.le_of_ble_eq_true rfl) e1 rfl (List.mem_range.mpr (by decide)) rfl zw203 rfl (Nat.le_of_ble_eq_true rfl) hR1 hR2 hcs hl.1 rfl (Nat.le_of_ble_eq_true rfl) zd_La_law_162 rfl (fun H locs hW hS => ?_)
    refine lv_istore (lv' := [(8, .int (nI (numN i))), (7, .int (nI i)), (6, .int (nI (smG g i))), (5, .int (nI (sizN (tG g)))), (4, .int (nI (lenG g))), (3, .int (nI (pG g))), (2, .int (nI (numN (tG g)))), (1, .ref (ad 0)), (0, .ref b)]) hx hb zd_La_law_165 hl (by decide) rfl (fun ls hl => ?_)
    refine lv_lconst (v := lN 0) hx hb zd_La_law_167 (by decide) ?_
    refine lv_lstore (lv' := [(9, .long (lN 0)), (8, .int (nI (numN i))), (7, .int (nI i)), (6, .int (nI (smG g i))), (5, .int (nI (sizN (tG g)))), (4, .int (nI (lenG g))), (3, .int (nI (pG g))), (2, .int (nI (numN (tG g)))), (1, .ref (ad 0)), (0, .ref b)]) hx hb zd_La_law_168 hl (by decide) rfl (fun ls hl => ?_)
    refine lv_aload_n hx hb zd_La_law_170 rfl (lv_at hl 8 rfl) ?_
    refine lv_iload_n hx hb zd_La_law_171 rfl (lv_at hl 7 rfl) ?_
    refine lv_iload hx hb zd_La_law_172 (lv_at hl 1 rfl) ?_
    refine lv_iconst (v := (-1 : Int32)) hx hb zd_La_law_174 (by decide) ?_
    obtain ⟨μ2, e2, hJ⟩ := a_sub hg1.1.1 hi19 (Or.inl rfl) hJ
    refine cR (c0 := 72) (k := 0) (as := [.int (nI (numN (tG g))), .int (nI (numN i)), .int ((-1 : Int32))]) (B := 6) (ci := 0) (rest := []) (st1 := [.long (prt (rp (subC (tG g) i)) (-1 : Int32))]) X hK hN hA hi hW hS (by decide) rfl (Nat.le_of_ble_eq_true rfl) e2 rfl (List.mem_range.mpr (by decide)) rfl zw250 rfl (Nat.le_of_ble_eq_true rfl) hR1 hR2 hcs hl.1 rfl (Nat.le_of_ble_eq_true rfl) zd_La_law_175 rfl (fun H locs hW hS => ?_)
    refine lv_l2i (v := (prt (rp (subC (tG g) i)) (-1 : Int32)).toInt32) hx hb zd_La_law_178 rfl ?_
    refine lv_istore (lv' := [(11, .int ((prt (rp (subC (tG g) i)) (-1 : Int32)).toInt32)), (9, .long (lN 0)), (8, .int (nI (numN i))), (7, .int (nI i)), (6, .int (nI (smG g i))), (5, .int (nI (sizN (tG g)))), (4, .int (nI (lenG g))), (3, .int (nI (pG g))), (2, .int (nI (numN (tG g)))), (1, .ref (ad 0)), (0, .ref b)]) hx hb zd_La_law_179 hl (by decide) rfl (fun ls hl => ?_)
    refine lp_sub C hi19 (lN (c1G g i)) (fun k μ H locs ls hJ hW hS hl => ls_e C hi19 hJ hW hS hl (fun μ H locs ls hJ hW hS hl => ih (i + 1) μ H locs ls (by omega) hJ hW hS hl)) (dgF (subC (tG g) i) 31) _ (lN 0) _ _ _ _ (dg_le _ _) (kc_0 _) (f_sub g hJ.1 i hi19).1.1 hJ hW hS hl
set_option maxHeartbeats 4000000 in
theorem ls_f (C : LAx p s m args meth c R D AC ad tn A b L xs cells slots) {g : Nat} {μ : Mm} {H : Heap} {locs : List Loc} {ls : Array Slot} (hJ : J g μ) (hW : Wd kA D AC ad μ H) (hS : va_S A s.heap H locs) (hl : lv_has ls 13 [(7, .int (nI 19)), (6, .int (nI (smG g 19))), (5, .int (nI (sizN (tG g)))), (4, .int (nI (lenG g))), (3, .int (nI (pG g))), (2, .int (nI (numN (tG g)))), (1, .ref (ad 0)), (0, .ref b)])
    (K : ∀ (μ : Mm) (H : Heap) (locs : List Loc) (ls : Array Slot), J g μ → Wd kA D AC ad μ H → va_S A s.heap H locs → lv_has ls 13 [(7, .int (nI 0)), (6, .int (nI (smG g 19))), (5, .int (nI (sizN (tG g)))), (4, .int (nI (lenG g))), (3, .int (nI (pG g))), (2, .int (nI (numN (tG g)))), (1, .ref (ad 0)), (0, .ref b)] → W p l e R s m args below meth c H locs cells slots Q (F0 m 269 ls [])) : W p l e R s m args below meth c H locs cells slots Q (F0 m 257 ls []) := by
  obtain ⟨⟨X, hK, hN⟩, ⟨hA, hi⟩, ⟨hX, hbl, hbA⟩, hLL, hF9, hL9, hcs⟩ := id C
  have hx := X.1
  have hb := X.2.1
  have hR1 : 7 ≤ R.frames := by omega
  have hR2 : 280 ≤ R.locals := by omega
  have hR3 : 2 ≤ R.frames := by omega
  have hR4 : 46 ≤ R.locals := by omega
  refine lv_iload hx hb zd_La_law_257 (lv_at hl 1 rfl) ?_
  refine lv_iload hx hb zd_La_law_259 (lv_at hl 3 rfl) ?_
  refine lv_icmp_eq (tgt := 266) hx hb zd_La_law_261 (by decide) (fun _ => ?_) (fun c_ => absurd (show nI (smG g 19) = nI (lenG g) by rw [f_sum g hJ.1]) c_)
  refine lv_iconst (v := nI 0) hx hb zd_La_law_266 (by decide) ?_
  refine lv_istore (lv' := [(7, .int (nI 0)), (6, .int (nI (smG g 19))), (5, .int (nI (sizN (tG g)))), (4, .int (nI (lenG g))), (3, .int (nI (pG g))), (2, .int (nI (numN (tG g)))), (1, .ref (ad 0)), (0, .ref b)]) hx hb zd_La_law_267 hl (by decide) rfl (fun ls hl => ?_)
  exact K _ _ _ _ hJ hW hS hl
set_option maxHeartbeats 4000000 in
theorem lp_hall (C : LAx p s m args meth c R D AC ad tn A b L xs cells slots) {g : Nat} {t u k0 : Nat} (ht : t < 19) (hu : u < 19) (v0 : Int64)
    (K : ∀ (k : Int32) (μ : Mm) (H : Heap) (locs : List Loc) (ls : Array Slot), J g μ → Wd kA D AC ad μ H → va_S A s.heap H locs → lv_has ls 13 [(12, .int k), (10, .long v0), (9, .int (nI (numN u))), (8, .int (nI (numN t))), (7, .int (nI k0)), (6, .int (nI (smG g 19))), (5, .int (nI (sizN (tG g)))), (4, .int (nI (lenG g))), (3, .int (nI (pG g))), (2, .int (nI (numN (tG g)))), (1, .ref (ad 0)), (0, .ref b)] → W p l e R s m args below meth c H locs cells slots Q (F0 m 358 ls [])) : ∀ (n : Nat) (k : Int32) (v : Int64) (μ : Mm) (H : Heap) (locs : List Loc) (ls : Array Slot), n ≤ 31 → Kc n k → val (rp (hL t u (tG g))) (lN (pG g)) n v = v0 → J g μ → Wd kA D AC ad μ H → va_S A s.heap H locs → lv_has ls 13 [(12, .int k), (10, .long v), (9, .int (nI (numN u))), (8, .int (nI (numN t))), (7, .int (nI k0)), (6, .int (nI (smG g 19))), (5, .int (nI (sizN (tG g)))), (4, .int (nI (lenG g))), (3, .int (nI (pG g))), (2, .int (nI (numN (tG g)))), (1, .ref (ad 0)), (0, .ref b)] → W p l e R s m args below meth c H locs cells slots Q (F0 m 328 ls []) := by
  obtain ⟨⟨X, hK, hN⟩, ⟨hA, hi⟩, ⟨hX, hbl, hbA⟩, hLL, hF9, hL9, hcs⟩ := id C
  have hx := X.1
  have hb := X.2.1
  have hR1 : 7 ≤ R.frames := by omega
  have hR2 : 280 ≤ R.locals := by omega
  have hR3 : 2 ≤ R.frames := by omega
  have hR4 : 46 ≤ R.locals := by omega
  intro n
  induction n with
  | zero =>
    intro k v μ H locs ls hn hk hv hJ hW hS hl
    have hk0 : k < 0 := hk.elim (fun z => z.2) (fun z => absurd z.1 (Nat.lt_irrefl 0))
    have hv : v = v0 := hv
    subst hv
    refine lv_iload hx hb zd_La_law_328 (lv_at hl 0 rfl) ?_
    exact lv_if_lt (tgt := 358) hx hb zd_La_law_330 (by decide) (fun _ => K k _ _ _ _ hJ hW hS hl) (fun c_ => absurd hk0 c_)
  | succ n ih =>
    intro k v μ H locs ls hn hk hv hJ hW hS hl
    have hk0 : k = nI n := hk.elim (fun z => absurd z.1 (Nat.succ_ne_zero n)) (fun z => z.2)
    subst hk0
    have hg1 := g_1 g hJ.1
    have hpp : pG g < 2 ^ 31 := by have := hg1.1.2.1; omega
    refine lv_iload hx hb zd_La_law_328 (lv_at hl 0 rfl) ?_
    refine lv_if_lt (tgt := 358) hx hb zd_La_law_330 (by decide) (fun c_ => absurd c_ (nI_pos (by omega))) (fun _ => ?_)
    refine lv_lload hx hb zd_La_law_333 (lv_at hl 1 rfl) ?_
    refine lv_iload_n hx hb zd_La_law_335 rfl (lv_at hl 8 rfl) ?_
    refine lv_i2l (v := lN (pG g)) hx hb zd_La_law_336 (nI_l hpp) ?_
    refine lv_lmul hx hb zd_La_law_337 ?_
    refine lv_aload_n hx hb zd_La_law_338 rfl (lv_at hl 10 rfl) ?_
    refine lv_iload_n hx hb zd_La_law_339 rfl (lv_at hl 9 rfl) ?_
    refine lv_iload hx hb zd_La_law_340 (lv_at hl 3 rfl) ?_
    refine lv_iload hx hb zd_La_law_342 (lv_at hl 2 rfl) ?_
    refine lv_iload hx hb zd_La_law_344 (lv_at hl 0 rfl) ?_
    obtain ⟨μ1, e1, hJ⟩ := a_hall hg1.1.1 ht hu (Or.inr ⟨n, by omega, rfl⟩) hJ
    refine cR (c0 := 73) (k := 0) (as := [.int (nI (numN (tG g))), .int (nI (numN t)), .int (nI (numN u)), .int (nI n)]) (B := 6) (ci := 0) (rest := [.long (v * (lN (pG g)))]) (st1 := [.long (prt (rp (hL t u (tG g))) (nI n)), .long (v * (lN (pG g)))]) X hK hN hA hi hW hS (by decide) rfl (Nat.le_of_ble_eq_true rfl) e1 rfl (List.mem_range.mpr (by decide)) rfl zw290 rfl (Nat.le_of_ble_eq_true rfl) hR1 hR2 hcs hl.1 rfl (Nat.le_of_ble_eq_true rfl) zd_La_law_346 rfl (fun H locs hW hS => ?_)
    rw [show prt (rp (hL t u (tG g))) (nI n) = rp (hL t u (tG g)) n from prt_n _ (by omega)]
    refine lv_ladd hx hb zd_La_law_349 ?_
    refine lv_lstore (lv' := [(10, .long ((v * (lN (pG g))) + (rp (hL t u (tG g)) n))), (12, .int (nI n)), (9, .int (nI (numN u))), (8, .int (nI (numN t))), (7, .int (nI k0)), (6, .int (nI (smG g 19))), (5, .int (nI (sizN (tG g)))), (4, .int (nI (lenG g))), (3, .int (nI (pG g))), (2, .int (nI (numN (tG g)))), (1, .ref (ad 0)), (0, .ref b)]) hx hb zd_La_law_350 hl (by decide) rfl (fun ls hl => ?_)
    obtain ⟨k2, hk2, hkc⟩ : ∃ k2, nI n + Int32.ofInt (-1) = k2 ∧ Kc n k2 := ⟨_, rfl, kc_s n⟩
    refine lv_iinc (v := k2) (lv' := [(12, .int k2), (10, .long ((v * (lN (pG g))) + (rp (hL t u (tG g)) n))), (9, .int (nI (numN u))), (8, .int (nI (numN t))), (7, .int (nI k0)), (6, .int (nI (smG g 19))), (5, .int (nI (sizN (tG g)))), (4, .int (nI (lenG g))), (3, .int (nI (pG g))), (2, .int (nI (numN (tG g)))), (1, .ref (ad 0)), (0, .ref b)]) hx hb zd_La_law_352 hl (k := 1) rfl hk2 (by decide) rfl (fun ls hl => ?_)
    refine lv_goto (tgt := 328) hx hb zd_La_law_355 (by decide) ?_
    exact ih k2 _ _ _ _ _ (by omega) hkc hv hJ hW hS hl
set_option maxHeartbeats 4000000 in
theorem ls_g (C : LAx p s m args meth c R D AC ad tn A b L xs cells slots) {g t u k0 : Nat} {k : Int32} (ht : t < 19) (hu : u < 19) {μ : Mm} {H : Heap} {locs : List Loc} {ls : Array Slot} (hJ : J g μ) (hW : Wd kA D AC ad μ H) (hS : va_S A s.heap H locs) (hl : lv_has ls 13 [(12, .int k), (10, .long (lN (c2G g t u))), (9, .int (nI (numN u))), (8, .int (nI (numN t))), (7, .int (nI k0)), (6, .int (nI (smG g 19))), (5, .int (nI (sizN (tG g)))), (4, .int (nI (lenG g))), (3, .int (nI (pG g))), (2, .int (nI (numN (tG g)))), (1, .ref (ad 0)), (0, .ref b)])
    (K : ∀ (μ : Mm) (H : Heap) (locs : List Loc) (ls : Array Slot), J g μ → Wd kA D AC ad μ H → va_S A s.heap H locs → lv_has ls 13 [(7, .int (nI (k0 + 1))), (6, .int (nI (smG g 19))), (5, .int (nI (sizN (tG g)))), (4, .int (nI (lenG g))), (3, .int (nI (pG g))), (2, .int (nI (numN (tG g)))), (1, .ref (ad 0)), (0, .ref b)] → W p l e R s m args below meth c H locs cells slots Q (F0 m 269 ls [])) : W p l e R s m args below meth c H locs cells slots Q (F0 m 358 ls []) := by
  obtain ⟨⟨X, hK, hN⟩, ⟨hA, hi⟩, ⟨hX, hbl, hbA⟩, hLL, hF9, hL9, hcs⟩ := id C
  have hx := X.1
  have hb := X.2.1
  have hR1 : 7 ≤ R.frames := by omega
  have hR2 : 280 ≤ R.locals := by omega
  have hR3 : 2 ≤ R.frames := by omega
  have hR4 : 46 ≤ R.locals := by omega
  have hlen := len_ok g hJ.1
  have hcl := cn_le g u (some t) (lenG g) 0 0
  have hc2 : c2G g t u ≤ 374 := Nat.le_trans hcl (by omega)
  refine lv_aload_n hx hb zd_La_law_358 rfl (lv_at hl 10 rfl) ?_
  refine lv_iload hx hb zd_La_law_359 (lv_at hl 3 rfl) ?_
  refine lv_iload hx hb zd_La_law_361 (lv_at hl 2 rfl) ?_
  obtain ⟨μ1, e1, hJ⟩ := a_listed2 ht hu hJ
  refine cR (c0 := 80) (k := 0) (as := [.int (nI (numN t)), .int (nI (numN u))]) (B := 6) (ci := 0) (rest := []) (st1 := [.int (nI (c2G g t u))]) X hK hN hA hi hW hS (by decide) rfl (Nat.le_of_ble_eq_true rfl) e1 rfl (List.mem_range.mpr (by decide)) rfl zw452 rfl (Nat.le_of_ble_eq_true rfl) hR1 hR2 hcs hl.1 rfl (Nat.le_of_ble_eq_true rfl) zd_La_law_363 rfl (fun H locs hW hS => ?_)
  refine lv_i2l (v := lN (c2G g t u)) hx hb zd_La_law_366 (nI_l (by omega)) ?_
  refine lv_lload hx hb zd_La_law_367 (lv_at hl 1 rfl) ?_
  refine W.lcmp hx hb zd_La_law_369 ?_
  refine lv_if_eq (tgt := 375) hx hb zd_La_law_370 (by decide) (fun _ => ?_) (fun c_ => absurd (lgc_self _) c_)
  refine lv_iinc (v := nI (k0 + 1)) (lv' := [(7, .int (nI (k0 + 1))), (12, .int k), (10, .long (lN (c2G g t u))), (9, .int (nI (numN u))), (8, .int (nI (numN t))), (6, .int (nI (smG g 19))), (5, .int (nI (sizN (tG g)))), (4, .int (nI (lenG g))), (3, .int (nI (pG g))), (2, .int (nI (numN (tG g)))), (1, .ref (ad 0)), (0, .ref b)]) hx hb zd_La_law_375 hl (k := 4) rfl (nI_add k0 1) (by decide) rfl (fun ls hl => ?_)
  refine lv_goto (tgt := 269) hx hb zd_La_law_378 (by decide) ?_
  have hl := lv_sub hl [0, 5, 6, 7, 8, 9, 10, 11] rfl
  exact K _ _ _ _ hJ hW hS hl
set_option maxHeartbeats 4000000 in
theorem lp_2 (C : LAx p s m args meth c R D AC ad tn A b L xs cells slots) {g : Nat}
    (K : ∀ (μ : Mm) (H : Heap) (locs : List Loc) (ls : Array Slot), J g μ → Wd kA D AC ad μ H → va_S A s.heap H locs → lv_has ls 13 [(7, .int (nI 6)), (6, .int (nI (smG g 19))), (5, .int (nI (sizN (tG g)))), (4, .int (nI (lenG g))), (3, .int (nI (pG g))), (2, .int (nI (numN (tG g)))), (1, .ref (ad 0)), (0, .ref b)] → W p l e R s m args below meth c H locs cells slots Q (F0 m 381 ls [])) : ∀ (n k0 : Nat) (μ : Mm) (H : Heap) (locs : List Loc) (ls : Array Slot), k0 + n = 6 → J g μ → Wd kA D AC ad μ H → va_S A s.heap H locs → lv_has ls 13 [(7, .int (nI k0)), (6, .int (nI (smG g 19))), (5, .int (nI (sizN (tG g)))), (4, .int (nI (lenG g))), (3, .int (nI (pG g))), (2, .int (nI (numN (tG g)))), (1, .ref (ad 0)), (0, .ref b)] → W p l e R s m args below meth c H locs cells slots Q (F0 m 269 ls []) := by
  obtain ⟨⟨X, hK, hN⟩, ⟨hA, hi⟩, ⟨hX, hbl, hbA⟩, hLL, hF9, hL9, hcs⟩ := id C
  have hx := X.1
  have hb := X.2.1
  have hR1 : 7 ≤ R.frames := by omega
  have hR2 : 280 ≤ R.locals := by omega
  have hR3 : 2 ≤ R.frames := by omega
  have hR4 : 46 ≤ R.locals := by omega
  intro n
  induction n with
  | zero =>
    intro k0 μ H locs ls hn hJ hW hS hl
    obtain rfl : k0 = 6 := hn
    refine lv_iload hx hb zd_La_law_269 (lv_at hl 0 rfl) ?_
    refine lv_bipush (v := nI 6) hx hb zd_La_law_271 (by decide) ?_
    exact lv_icmp_ge (tgt := 381) hx hb zd_La_law_273 (by decide) (fun _ => K _ _ _ _ hJ hW hS hl) (fun c_ => absurd (nI_le (Nat.le_refl 6) (by omega)) c_)
  | succ n ih =>
    intro k0 μ H locs ls hn hJ hW hS hl
    have hk6 : k0 < 6 := by omega
    have hg1 := g_1 g hJ.1
    obtain ⟨t, ht, hr1⟩ := some_lt L xs (2 + 2 * k0) (n := 19) (by omega) (by omega)
    obtain ⟨u, hu, hr2⟩ := some_lt L xs (3 + 2 * k0) (n := 19) (by omega) (by omega)
    refine lv_iload hx hb zd_La_law_269 (lv_at hl 0 rfl) ?_
    refine lv_bipush (v := nI 6) hx hb zd_La_law_271 (by decide) ?_
    refine lv_icmp_ge (tgt := 381) hx hb zd_La_law_273 (by decide) (fun c_ => absurd c_ (nI_ge hk6 (by omega))) (fun _ => ?_)
    refine lv_aload_n hx hb zd_La_law_276 rfl (lv_at hl 6 rfl) ?_
    refine lv_aload_n hx hb zd_La_law_277 rfl (lv_at hl 7 rfl) ?_
    refine lv_iconst (v := nI 2) hx hb zd_La_law_278 (by decide) ?_
    refine lv_iconst (v := nI 2) hx hb zd_La_law_279 (by decide) ?_
    refine lv_iload hx hb zd_La_law_280 (lv_at hl 0 rfl) ?_
    refine lv_imul hx hb zd_La_law_282 ?_
    refine lv_iadd hx hb zd_La_law_283 ?_
    rw [show (nI 2) + ((nI 2) * (nI k0)) = nI (2 + 2 * k0) from by rw [nI_mul, nI_add]]
    refine lv_bipush (v := nI 19) hx hb zd_La_law_284 (by decide) ?_
    refine callX (v := someV L xs (2 + 2 * k0) (nI 19)) (rest := [.ref (ad 0)]) X hX hbl hbA hS (c_some l b L hLL xs H (2 + 2 * k0) (by omega) 19 (by omega) (by omega)) zw503 zw501 zw0 zw502 zh_La_some rfl hR3 hR4 hcs hl.1 rfl (Nat.le_of_ble_eq_true rfl) zd_La_law_286 (fun locs hS => ?_)
    rw [show someV L xs (2 + 2 * k0) (nI 19) = nI t from hr1]
    obtain ⟨μ1, e1, hJ⟩ := a_type ht hJ
    refine cR (c0 := 69) (k := 0) (as := [.int (nI t)]) (B := 6) (ci := 0) (rest := []) (st1 := [.int (nI (numN t))]) X hK hN hA hi hW hS (by decide) rfl (Nat.le_of_ble_eq_true rfl) e1 rfl (List.mem_range.mpr (by decide)) rfl zw203 rfl (Nat.le_of_ble_eq_true rfl) hR1 hR2 hcs hl.1 rfl (Nat.le_of_ble_eq_true rfl) zd_La_law_289 rfl (fun H locs hW hS => ?_)
    refine lv_istore (lv' := [(8, .int (nI (numN t))), (7, .int (nI k0)), (6, .int (nI (smG g 19))), (5, .int (nI (sizN (tG g)))), (4, .int (nI (lenG g))), (3, .int (nI (pG g))), (2, .int (nI (numN (tG g)))), (1, .ref (ad 0)), (0, .ref b)]) hx hb zd_La_law_292 hl (by decide) rfl (fun ls hl => ?_)
    refine lv_aload_n hx hb zd_La_law_294 rfl (lv_at hl 7 rfl) ?_
    refine lv_aload_n hx hb zd_La_law_295 rfl (lv_at hl 8 rfl) ?_
    refine lv_iconst (v := nI 3) hx hb zd_La_law_296 (by decide) ?_
    refine lv_iconst (v := nI 2) hx hb zd_La_law_297 (by decide) ?_
    refine lv_iload hx hb zd_La_law_298 (lv_at hl 1 rfl) ?_
    refine lv_imul hx hb zd_La_law_300 ?_
    refine lv_iadd hx hb zd_La_law_301 ?_
    rw [show (nI 3) + ((nI 2) * (nI k0)) = nI (3 + 2 * k0) from by rw [nI_mul, nI_add]]
    refine lv_bipush (v := nI 19) hx hb zd_La_law_302 (by decide) ?_
    refine callX (v := someV L xs (3 + 2 * k0) (nI 19)) (rest := [.ref (ad 0)]) X hX hbl hbA hS (c_some l b L hLL xs H (3 + 2 * k0) (by omega) 19 (by omega) (by omega)) zw503 zw501 zw0 zw502 zh_La_some rfl hR3 hR4 hcs hl.1 rfl (Nat.le_of_ble_eq_true rfl) zd_La_law_304 (fun locs hS => ?_)
    rw [show someV L xs (3 + 2 * k0) (nI 19) = nI u from hr2]
    obtain ⟨μ2, e2, hJ⟩ := a_type hu hJ
    refine cR (c0 := 69) (k := 0) (as := [.int (nI u)]) (B := 6) (ci := 0) (rest := []) (st1 := [.int (nI (numN u))]) X hK hN hA hi hW hS (by decide) rfl (Nat.le_of_ble_eq_true rfl) e2 rfl (List.mem_range.mpr (by decide)) rfl zw203 rfl (Nat.le_of_ble_eq_true rfl) hR1 hR2 hcs hl.1 rfl (Nat.le_of_ble_eq_true rfl) zd_La_law_307 rfl (fun H locs hW hS => ?_)
    refine lv_istore (lv' := [(9, .int (nI (numN u))), (8, .int (nI (numN t))), (7, .int (nI k0)), (6, .int (nI (smG g 19))), (5, .int (nI (sizN (tG g)))), (4, .int (nI (lenG g))), (3, .int (nI (pG g))), (2, .int (nI (numN (tG g)))), (1, .ref (ad 0)), (0, .ref b)]) hx hb zd_La_law_310 hl (by decide) rfl (fun ls hl => ?_)
    refine lv_lconst (v := lN 0) hx hb zd_La_law_312 (by decide) ?_
    refine lv_lstore (lv' := [(10, .long (lN 0)), (9, .int (nI (numN u))), (8, .int (nI (numN t))), (7, .int (nI k0)), (6, .int (nI (smG g 19))), (5, .int (nI (sizN (tG g)))), (4, .int (nI (lenG g))), (3, .int (nI (pG g))), (2, .int (nI (numN (tG g)))), (1, .ref (ad 0)), (0, .ref b)]) hx hb zd_La_law_313 hl (by decide) rfl (fun ls hl => ?_)
    refine lv_aload_n hx hb zd_La_law_315 rfl (lv_at hl 9 rfl) ?_
    refine lv_iload_n hx hb zd_La_law_316 rfl (lv_at hl 8 rfl) ?_
    refine lv_iload hx hb zd_La_law_317 (lv_at hl 2 rfl) ?_
    refine lv_iload hx hb zd_La_law_319 (lv_at hl 1 rfl) ?_
    refine lv_iconst (v := (-1 : Int32)) hx hb zd_La_law_321 (by decide) ?_
    obtain ⟨μ3, e3, hJ⟩ := a_hall hg1.1.1 ht hu (Or.inl rfl) hJ
    refine cR (c0 := 73) (k := 0) (as := [.int (nI (numN (tG g))), .int (nI (numN t)), .int (nI (numN u)), .int ((-1 : Int32))]) (B := 6) (ci := 0) (rest := []) (st1 := [.long (prt (rp (hL t u (tG g))) (-1 : Int32))]) X hK hN hA hi hW hS (by decide) rfl (Nat.le_of_ble_eq_true rfl) e3 rfl (List.mem_range.mpr (by decide)) rfl zw290 rfl (Nat.le_of_ble_eq_true rfl) hR1 hR2 hcs hl.1 rfl (Nat.le_of_ble_eq_true rfl) zd_La_law_322 rfl (fun H locs hW hS => ?_)
    refine lv_l2i (v := (prt (rp (hL t u (tG g))) (-1 : Int32)).toInt32) hx hb zd_La_law_325 rfl ?_
    refine lv_istore (lv' := [(12, .int ((prt (rp (hL t u (tG g))) (-1 : Int32)).toInt32)), (10, .long (lN 0)), (9, .int (nI (numN u))), (8, .int (nI (numN t))), (7, .int (nI k0)), (6, .int (nI (smG g 19))), (5, .int (nI (sizN (tG g)))), (4, .int (nI (lenG g))), (3, .int (nI (pG g))), (2, .int (nI (numN (tG g)))), (1, .ref (ad 0)), (0, .ref b)]) hx hb zd_La_law_326 hl (by decide) rfl (fun ls hl => ?_)
    refine lp_hall C ht hu (lN (c2G g t u)) (fun k μ H locs ls hJ hW hS hl => ls_g C ht hu hJ hW hS hl (fun μ H locs ls hJ hW hS hl => ih (k0 + 1) μ H locs ls (by omega) hJ hW hS hl)) (dgF (hL t u (tG g)) 31) _ (lN 0) _ _ _ _ (dg_le _ _) (kc_0 _) (f_hall hJ.1 ht hu) hJ hW hS hl
set_option maxHeartbeats 4000000 in
theorem ls_h (C : LAx p s m args meth c R D AC ad tn A b L xs cells slots) {g : Nat} {μ : Mm} {H : Heap} {locs : List Loc} {ls : Array Slot} (hJ : J g μ) (hW : Wd kA D AC ad μ H) (hS : va_S A s.heap H locs) (hl : lv_has ls 13 [(7, .int (nI 6)), (6, .int (nI (smG g 19))), (5, .int (nI (sizN (tG g)))), (4, .int (nI (lenG g))), (3, .int (nI (pG g))), (2, .int (nI (numN (tG g)))), (1, .ref (ad 0)), (0, .ref b)])
    (K : ∀ (μ : Mm) (H : Heap) (locs : List Loc) (ls : Array Slot), J g μ → Wd kA D AC ad μ H → va_S A s.heap H locs → lv_has ls 13 [(8, .int (nI 0)), (7, .int (nI 1)), (6, .int (nI (smG g 19))), (5, .int (nI (sizN (tG g)))), (4, .int (nI (lenG g))), (3, .int (nI (pG g))), (2, .int (nI (numN (tG g)))), (1, .ref (ad 0)), (0, .ref b)] → W p l e R s m args below meth c H locs cells slots Q (F0 m 387 ls [])) : W p l e R s m args below meth c H locs cells slots Q (F0 m 381 ls []) := by
  obtain ⟨⟨X, hK, hN⟩, ⟨hA, hi⟩, ⟨hX, hbl, hbA⟩, hLL, hF9, hL9, hcs⟩ := id C
  have hx := X.1
  have hb := X.2.1
  have hR1 : 7 ≤ R.frames := by omega
  have hR2 : 280 ≤ R.locals := by omega
  have hR3 : 2 ≤ R.frames := by omega
  have hR4 : 46 ≤ R.locals := by omega
  refine lv_iconst (v := nI 1) hx hb zd_La_law_381 (by decide) ?_
  refine lv_istore (lv' := [(7, .int (nI 1)), (6, .int (nI (smG g 19))), (5, .int (nI (sizN (tG g)))), (4, .int (nI (lenG g))), (3, .int (nI (pG g))), (2, .int (nI (numN (tG g)))), (1, .ref (ad 0)), (0, .ref b)]) hx hb zd_La_law_382 hl (by decide) rfl (fun ls hl => ?_)
  refine lv_iconst (v := nI 0) hx hb zd_La_law_384 (by decide) ?_
  refine lv_istore (lv' := [(8, .int (nI 0)), (7, .int (nI 1)), (6, .int (nI (smG g 19))), (5, .int (nI (sizN (tG g)))), (4, .int (nI (lenG g))), (3, .int (nI (pG g))), (2, .int (nI (numN (tG g)))), (1, .ref (ad 0)), (0, .ref b)]) hx hb zd_La_law_385 hl (by decide) rfl (fun ls hl => ?_)
  exact K _ _ _ _ hJ hW hS hl
set_option maxHeartbeats 4000000 in
theorem ls_i (C : LAx p s m args meth c R D AC ad tn A b L xs cells slots) {g i : Nat} {μ : Mm} {H : Heap} {locs : List Loc} {ls : Array Slot} (hJ : J g μ) (hW : Wd kA D AC ad μ H) (hS : va_S A s.heap H locs) (hl : lv_has ls 13 [(12, .int (nI (numN (coG g i)))), (11, .int (nI (numN (tyG g i)))), (7, .int (nI (pcF 32 (LG g i)))), (9, .long (lN (LG g i))), (8, .int (nI i)), (6, .int (nI (smG g 19))), (5, .int (nI (sizN (tG g)))), (4, .int (nI (lenG g))), (3, .int (nI (pG g))), (2, .int (nI (numN (tG g)))), (1, .ref (ad 0)), (0, .ref b)])
    (K : ∀ (μ : Mm) (H : Heap) (locs : List Loc) (ls : Array Slot), J g μ → Wd kA D AC ad μ H → va_S A s.heap H locs → lv_has ls 13 [(8, .int (nI (i + 1))), (7, .int (nI (pcF 32 (LG g i)))), (6, .int (nI (smG g 19))), (5, .int (nI (sizN (tG g)))), (4, .int (nI (lenG g))), (3, .int (nI (pG g))), (2, .int (nI (numN (tG g)))), (1, .ref (ad 0)), (0, .ref b)] → W p l e R s m args below meth c H locs cells slots Q (F0 m 387 ls [])) : W p l e R s m args below meth c H locs cells slots Q (F0 m 562 ls []) := by
  obtain ⟨⟨X, hK, hN⟩, ⟨hA, hi⟩, ⟨hX, hbl, hbA⟩, hLL, hF9, hL9, hcs⟩ := id C
  have hx := X.1
  have hb := X.2.1
  have hR1 : 7 ≤ R.frames := by omega
  have hR2 : 280 ≤ R.locals := by omega
  have hR3 : 2 ≤ R.frames := by omega
  have hR4 : 46 ≤ R.locals := by omega
  refine lv_iinc (v := nI (i + 1)) (lv' := [(8, .int (nI (i + 1))), (12, .int (nI (numN (coG g i)))), (11, .int (nI (numN (tyG g i)))), (7, .int (nI (pcF 32 (LG g i)))), (9, .long (lN (LG g i))), (6, .int (nI (smG g 19))), (5, .int (nI (sizN (tG g)))), (4, .int (nI (lenG g))), (3, .int (nI (pG g))), (2, .int (nI (numN (tG g)))), (1, .ref (ad 0)), (0, .ref b)]) hx hb zd_La_law_562 hl (k := 4) rfl (nI_add i 1) (by decide) rfl (fun ls hl => ?_)
  refine lv_goto (tgt := 387) hx hb zd_La_law_565 (by decide) ?_
  have hl := lv_sub hl [0, 3, 5, 6, 7, 8, 9, 10, 11] rfl
  exact K _ _ _ _ hJ hW hS hl
set_option maxHeartbeats 4000000 in
theorem ls_j (C : LAx p s m args meth c R D AC ad tn A b L xs cells slots) {g i : Nat} {μ : Mm} {H : Heap} {locs : List Loc} {ls : Array Slot} (hJ : J g μ) (hW : Wd kA D AC ad μ H) (hS : va_S A s.heap H locs) (hl : lv_has ls 13 [(7, .int (nI (pcF 32 (LG g i)))), (9, .long (lN (LG g i))), (8, .int (nI i)), (6, .int (nI (smG g 19))), (5, .int (nI (sizN (tG g)))), (4, .int (nI (lenG g))), (3, .int (nI (pG g))), (2, .int (nI (numN (tG g)))), (1, .ref (ad 0)), (0, .ref b)])
    (K : ∀ (μ : Mm) (H : Heap) (locs : List Loc) (ls : Array Slot), J g μ → Wd kA D AC ad μ H → va_S A s.heap H locs → lv_has ls 13 [(8, .int (nI (i + 1))), (7, .int (nI (pcF 32 (LG g i)))), (6, .int (nI (smG g 19))), (5, .int (nI (sizN (tG g)))), (4, .int (nI (lenG g))), (3, .int (nI (pG g))), (2, .int (nI (numN (tG g)))), (1, .ref (ad 0)), (0, .ref b)] → W p l e R s m args below meth c H locs cells slots Q (F0 m 387 ls [])) : W p l e R s m args below meth c H locs cells slots Q (F0 m 562 ls []) := by
  obtain ⟨⟨X, hK, hN⟩, ⟨hA, hi⟩, ⟨hX, hbl, hbA⟩, hLL, hF9, hL9, hcs⟩ := id C
  have hx := X.1
  have hb := X.2.1
  have hR1 : 7 ≤ R.frames := by omega
  have hR2 : 280 ≤ R.locals := by omega
  have hR3 : 2 ≤ R.frames := by omega
  have hR4 : 46 ≤ R.locals := by omega
  refine lv_iinc (v := nI (i + 1)) (lv' := [(8, .int (nI (i + 1))), (7, .int (nI (pcF 32 (LG g i)))), (9, .long (lN (LG g i))), (6, .int (nI (smG g 19))), (5, .int (nI (sizN (tG g)))), (4, .int (nI (lenG g))), (3, .int (nI (pG g))), (2, .int (nI (numN (tG g)))), (1, .ref (ad 0)), (0, .ref b)]) hx hb zd_La_law_562 hl (k := 2) rfl (nI_add i 1) (by decide) rfl (fun ls hl => ?_)
  refine lv_goto (tgt := 387) hx hb zd_La_law_565 (by decide) ?_
  have hl := lv_sub hl [0, 1, 3, 4, 5, 6, 7, 8, 9] rfl
  exact K _ _ _ _ hJ hW hS hl
set_option maxHeartbeats 4000000 in
theorem ls_k (C : LAx p s m args meth c R D AC ad tn A b L xs cells slots) {g i : Nat} (hil : i < lenG g) {μ : Mm} {H : Heap} {locs : List Loc} {ls : Array Slot} (hJ : J g μ) (hW : Wd kA D AC ad μ H) (hS : va_S A s.heap H locs) (hl : lv_has ls 13 [(7, .int (nI (pcF 32 (LG g i)))), (9, .long (lN (LG g i))), (8, .int (nI i)), (6, .int (nI (smG g 19))), (5, .int (nI (sizN (tG g)))), (4, .int (nI (lenG g))), (3, .int (nI (pG g))), (2, .int (nI (numN (tG g)))), (1, .ref (ad 0)), (0, .ref b)])
    (K : ∀ (μ : Mm) (H : Heap) (locs : List Loc) (ls : Array Slot), J g μ → Wd kA D AC ad μ H → va_S A s.heap H locs → lv_has ls 13 [(8, .int (nI (i + 1))), (7, .int (nI (pcF 32 (LG g i)))), (6, .int (nI (smG g 19))), (5, .int (nI (sizN (tG g)))), (4, .int (nI (lenG g))), (3, .int (nI (pG g))), (2, .int (nI (numN (tG g)))), (1, .ref (ad 0)), (0, .ref b)] → W p l e R s m args below meth c H locs cells slots Q (F0 m 387 ls [])) : W p l e R s m args below meth c H locs cells slots Q (F0 m 476 ls []) := by
  obtain ⟨⟨X, hK, hN⟩, ⟨hA, hi⟩, ⟨hX, hbl, hbA⟩, hLL, hF9, hL9, hcs⟩ := id C
  have hx := X.1
  have hb := X.2.1
  have hR1 : 7 ≤ R.frames := by omega
  have hR2 : 280 ≤ R.locals := by omega
  have hR3 : 2 ≤ R.frames := by omega
  have hR4 : 46 ≤ R.locals := by omega
  have hg1 := g_1 g hJ.1
  obtain ⟨⟨f1, f2⟩, f3⟩ := f_lie g hJ.1 i hil
  obtain ⟨⟨t1, -⟩, ⟨t2, -⟩⟩ := tb_ok g hJ.1 i hil
  refine lv_aload_n hx hb zd_La_law_476 rfl (lv_at hl 8 rfl) ?_
  refine lv_lload hx hb zd_La_law_477 (lv_at hl 1 rfl) ?_
  refine lv_iconst (v := nI 0) hx hb zd_La_law_479 (by decide) ?_
  obtain ⟨μ1, e1, hJ⟩ := a_told0 hil hJ
  refine cR (c0 := 78) (k := 0) (as := [.long (lN (LG g i)), .int (nI 0)]) (B := 6) (ci := 0) (rest := []) (st1 := [.int (nI (numN (tyG g i)))]) X hK hN hA hi hW hS (by decide) rfl (Nat.le_of_ble_eq_true rfl) e1 rfl (List.mem_range.mpr (by decide)) rfl zw380 rfl (Nat.le_of_ble_eq_true rfl) hR1 hR2 hcs hl.1 rfl (Nat.le_of_ble_eq_true rfl) zd_La_law_480 rfl (fun H locs hW hS => ?_)
  refine lv_istore (lv' := [(11, .int (nI (numN (tyG g i)))), (7, .int (nI (pcF 32 (LG g i)))), (9, .long (lN (LG g i))), (8, .int (nI i)), (6, .int (nI (smG g 19))), (5, .int (nI (sizN (tG g)))), (4, .int (nI (lenG g))), (3, .int (nI (pG g))), (2, .int (nI (numN (tG g)))), (1, .ref (ad 0)), (0, .ref b)]) hx hb zd_La_law_483 hl (by decide) rfl (fun ls hl => ?_)
  refine lv_aload_n hx hb zd_La_law_485 rfl (lv_at hl 9 rfl) ?_
  refine lv_lload hx hb zd_La_law_486 (lv_at hl 2 rfl) ?_
  refine lv_iconst (v := nI 1) hx hb zd_La_law_488 (by decide) ?_
  obtain ⟨μ2, e2, hJ⟩ := a_told1 hil hJ
  refine cR (c0 := 78) (k := 0) (as := [.long (lN (LG g i)), .int (nI 1)]) (B := 6) (ci := 0) (rest := []) (st1 := [.int (nI (numN (coG g i)))]) X hK hN hA hi hW hS (by decide) rfl (Nat.le_of_ble_eq_true rfl) e2 rfl (List.mem_range.mpr (by decide)) rfl zw380 rfl (Nat.le_of_ble_eq_true rfl) hR1 hR2 hcs hl.1 rfl (Nat.le_of_ble_eq_true rfl) zd_La_law_489 rfl (fun H locs hW hS => ?_)
  refine lv_istore (lv' := [(12, .int (nI (numN (coG g i)))), (11, .int (nI (numN (tyG g i)))), (7, .int (nI (pcF 32 (LG g i)))), (9, .long (lN (LG g i))), (8, .int (nI i)), (6, .int (nI (smG g 19))), (5, .int (nI (sizN (tG g)))), (4, .int (nI (lenG g))), (3, .int (nI (pG g))), (2, .int (nI (numN (tG g)))), (1, .ref (ad 0)), (0, .ref b)]) hx hb zd_La_law_492 hl (by decide) rfl (fun ls hl => ?_)
  refine lv_aload_n hx hb zd_La_law_494 rfl (lv_at hl 10 rfl) ?_
  refine lv_lload hx hb zd_La_law_495 (lv_at hl 3 rfl) ?_
  refine lv_iconst (v := nI 2) hx hb zd_La_law_497 (by decide) ?_
  obtain ⟨μ3, e3, hJ⟩ := a_told2 hil hJ
  refine cR (c0 := 78) (k := 0) (as := [.long (lN (LG g i)), .int (nI 2)]) (B := 6) (ci := 0) (rest := []) (st1 := [.int (nI (pcF 32 (LG g i)))]) X hK hN hA hi hW hS (by decide) rfl (Nat.le_of_ble_eq_true rfl) e3 rfl (List.mem_range.mpr (by decide)) rfl zw380 rfl (Nat.le_of_ble_eq_true rfl) hR1 hR2 hcs hl.1 rfl (Nat.le_of_ble_eq_true rfl) zd_La_law_498 rfl (fun H locs hW hS => ?_)
  refine lv_iload hx hb zd_La_law_501 (lv_at hl 2 rfl) ?_
  refine lv_icmp_ne (tgt := 560) hx hb zd_La_law_503 (by decide) (fun c_ => absurd c_ (fun z => z rfl)) (fun _ => ?_)
  refine lv_aload_n hx hb zd_La_law_506 rfl (lv_at hl 10 rfl) ?_
  refine lv_lload hx hb zd_La_law_507 (lv_at hl 3 rfl) ?_
  obtain ⟨μ4, e4, hJ⟩ := a_span hil hJ
  refine cR (c0 := 77) (k := 0) (as := [.long (lN (LG g i))]) (B := 6) (ci := 0) (rest := []) (st1 := [.long (lN (LG g i))]) X hK hN hA hi hW hS (by decide) rfl (Nat.le_of_ble_eq_true rfl) e4 rfl (List.mem_range.mpr (by decide)) rfl zw348 rfl (Nat.le_of_ble_eq_true rfl) hR1 hR2 hcs hl.1 rfl (Nat.le_of_ble_eq_true rfl) zd_La_law_509 rfl (fun H locs hW hS => ?_)
  refine lv_lload hx hb zd_La_law_512 (lv_at hl 3 rfl) ?_
  refine W.lcmp hx hb zd_La_law_514 ?_
  refine lv_if_ne (tgt := 560) hx hb zd_La_law_515 (by decide) (fun c_ => absurd c_ (fun z => z (lgc_self _))) (fun _ => ?_)
  refine lv_aload_n hx hb zd_La_law_518 rfl (lv_at hl 10 rfl) ?_
  refine lv_iload hx hb zd_La_law_519 (lv_at hl 1 rfl) ?_
  refine lv_iload_n hx hb zd_La_law_521 rfl (lv_at hl 9 rfl) ?_
  obtain ⟨μ5, e5, hJ⟩ := a_inT t1 hg1.1.1 f1 hJ
  refine cR (c0 := 71) (k := 0) (as := [.int (nI (numN (tyG g i))), .int (nI (numN (tG g)))]) (B := 6) (ci := 0) (rest := []) (st1 := [.int (nI 1)]) X hK hN hA hi hW hS (by decide) rfl (Nat.le_of_ble_eq_true rfl) e5 rfl (List.mem_range.mpr (by decide)) rfl zw245 rfl (Nat.le_of_ble_eq_true rfl) hR1 hR2 hcs hl.1 rfl (Nat.le_of_ble_eq_true rfl) zd_La_law_522 rfl (fun H locs hW hS => ?_)
  refine lv_iconst (v := nI 1) hx hb zd_La_law_525 (by decide) ?_
  refine lv_icmp_ne (tgt := 560) hx hb zd_La_law_526 (by decide) (fun c_ => absurd c_ (fun z => z rfl)) (fun _ => ?_)
  refine lv_aload_n hx hb zd_La_law_529 rfl (lv_at hl 10 rfl) ?_
  refine lv_iload hx hb zd_La_law_530 (lv_at hl 0 rfl) ?_
  refine lv_iload_n hx hb zd_La_law_532 rfl (lv_at hl 9 rfl) ?_
  obtain ⟨μ6, e6, hJ⟩ := a_inT t2 hg1.1.1 f2 hJ
  refine cR (c0 := 71) (k := 0) (as := [.int (nI (numN (coG g i))), .int (nI (numN (tG g)))]) (B := 6) (ci := 0) (rest := []) (st1 := [.int (nI 1)]) X hK hN hA hi hW hS (by decide) rfl (Nat.le_of_ble_eq_true rfl) e6 rfl (List.mem_range.mpr (by decide)) rfl zw245 rfl (Nat.le_of_ble_eq_true rfl) hR1 hR2 hcs hl.1 rfl (Nat.le_of_ble_eq_true rfl) zd_La_law_533 rfl (fun H locs hW hS => ?_)
  refine lv_iconst (v := nI 1) hx hb zd_La_law_536 (by decide) ?_
  refine lv_icmp_ne (tgt := 560) hx hb zd_La_law_537 (by decide) (fun c_ => absurd c_ (fun z => z rfl)) (fun _ => ?_)
  refine lv_aload_n hx hb zd_La_law_540 rfl (lv_at hl 10 rfl) ?_
  refine lv_iload hx hb zd_La_law_541 (lv_at hl 1 rfl) ?_
  refine lv_iconst (v := nI 1) hx hb zd_La_law_543 (by decide) ?_
  obtain ⟨μ7, e7, hJ⟩ := a_of1 t1 hJ
  refine cR (c0 := 70) (k := 0) (as := [.int (nI (numN (tyG g i))), .int (nI 1)]) (B := 6) (ci := 0) (rest := []) (st1 := [.int (nI (sizN (tyG g i)))]) X hK hN hA hi hW hS (by decide) rfl (Nat.le_of_ble_eq_true rfl) e7 rfl (List.mem_range.mpr (by decide)) rfl zw212 rfl (Nat.le_of_ble_eq_true rfl) hR1 hR2 hcs hl.1 rfl (Nat.le_of_ble_eq_true rfl) zd_La_law_544 rfl (fun H locs hW hS => ?_)
  refine lv_aload_n hx hb zd_La_law_547 rfl (lv_at hl 10 rfl) ?_
  refine lv_iload hx hb zd_La_law_548 (lv_at hl 0 rfl) ?_
  refine lv_iconst (v := nI 1) hx hb zd_La_law_550 (by decide) ?_
  obtain ⟨μ8, e8, hJ⟩ := a_of1 t2 hJ
  refine cR (c0 := 70) (k := 0) (as := [.int (nI (numN (coG g i))), .int (nI 1)]) (B := 6) (ci := 0) (rest := [.int (nI (sizN (tyG g i)))]) (st1 := [.int (nI (sizN (coG g i))), .int (nI (sizN (tyG g i)))]) X hK hN hA hi hW hS (by decide) rfl (Nat.le_of_ble_eq_true rfl) e8 rfl (List.mem_range.mpr (by decide)) rfl zw212 rfl (Nat.le_of_ble_eq_true rfl) hR1 hR2 hcs hl.1 rfl (Nat.le_of_ble_eq_true rfl) zd_La_law_551 rfl (fun H locs hW hS => ?_)
  refine lv_iadd hx hb zd_La_law_554 ?_
  rw [show (nI (sizN (tyG g i))) + (nI (sizN (coG g i))) = nI (sizN (tG g)) from by rw [nI_add, f3]]
  refine lv_iload hx hb zd_La_law_555 (lv_at hl 6 rfl) ?_
  refine lv_icmp_eq (tgt := 562) hx hb zd_La_law_557 (by decide) (fun _ => ?_) (fun c_ => absurd (rfl : nI (sizN (tG g)) = nI (sizN (tG g))) c_)
  exact ls_i C hJ hW hS hl K
set_option maxHeartbeats 4000000 in
theorem ls_l (C : LAx p s m args meth c R D AC ad tn A b L xs cells slots) {g i : Nat} {bf0 : Int32} (hil : i < lenG g) {μ : Mm} {H : Heap} {locs : List Loc} {ls : Array Slot} (hJ : J g μ) (hW : Wd kA D AC ad μ H) (hS : va_S A s.heap H locs) (hl : lv_has ls 13 [(9, .long (lN (LG g i))), (8, .int (nI i)), (7, .int bf0), (6, .int (nI (smG g 19))), (5, .int (nI (sizN (tG g)))), (4, .int (nI (lenG g))), (3, .int (nI (pG g))), (2, .int (nI (numN (tG g)))), (1, .ref (ad 0)), (0, .ref b)])
    (K : ∀ (μ : Mm) (H : Heap) (locs : List Loc) (ls : Array Slot), J g μ → Wd kA D AC ad μ H → va_S A s.heap H locs → lv_has ls 13 [(8, .int (nI (i + 1))), (7, .int (nI (pcF 32 (LG g i)))), (6, .int (nI (smG g 19))), (5, .int (nI (sizN (tG g)))), (4, .int (nI (lenG g))), (3, .int (nI (pG g))), (2, .int (nI (numN (tG g)))), (1, .ref (ad 0)), (0, .ref b)] → W p l e R s m args below meth c H locs cells slots Q (F0 m 387 ls [])) : W p l e R s m args below meth c H locs cells slots Q (F0 m 443 ls []) := by
  obtain ⟨⟨X, hK, hN⟩, ⟨hA, hi⟩, ⟨hX, hbl, hbA⟩, hLL, hF9, hL9, hcs⟩ := id C
  have hx := X.1
  have hb := X.2.1
  have hR1 : 7 ≤ R.frames := by omega
  have hR2 : 280 ≤ R.locals := by omega
  have hR3 : 2 ≤ R.frames := by omega
  have hR4 : 46 ≤ R.locals := by omega
  have hlen := len_ok g hJ.1
  refine lv_lload hx hb zd_La_law_443 (lv_at hl 0 rfl) ?_
  obtain ⟨μ1, e1, hJ⟩ := a_bits hil hJ
  refine cRS (c0 := 87) (as := [.long (lN (LG g i))]) (B := 6) (rest := []) (st1 := [.int (nI (pcF 32 (LG g i)))]) X hK hN hA hi hW hS (by decide) rfl (Nat.le_of_ble_eq_true rfl) e1 zw556 rfl (Nat.le_of_ble_eq_true rfl) hR1 hR2 hcs hl.1 rfl (Nat.le_of_ble_eq_true rfl) zd_La_law_445 rfl (fun H locs hW hS => ?_)
  refine lv_istore (lv' := [(7, .int (nI (pcF 32 (LG g i)))), (9, .long (lN (LG g i))), (8, .int (nI i)), (6, .int (nI (smG g 19))), (5, .int (nI (sizN (tG g)))), (4, .int (nI (lenG g))), (3, .int (nI (pG g))), (2, .int (nI (numN (tG g)))), (1, .ref (ad 0)), (0, .ref b)]) hx hb zd_La_law_448 hl (by decide) rfl (fun ls hl => ?_)
  refine lv_iload hx hb zd_La_law_450 (lv_at hl 5 rfl) ?_
  refine lv_bipush (v := nI 90) hx hb zd_La_law_452 (by decide) ?_
  refine lv_icmp_le (tgt := 476) hx hb zd_La_law_454 (by decide) (fun _ => ls_k C hil hJ hW hS hl K) (fun _ => ?_)
  refine lv_aload_n hx hb zd_La_law_457 rfl (lv_at hl 9 rfl) ?_
  refine lv_bipush (v := nI 20) hx hb zd_La_law_458 (by decide) ?_
  refine lv_iload hx hb zd_La_law_460 (lv_at hl 2 rfl) ?_
  refine lv_bipush (v := nI 40) hx hb zd_La_law_462 (by decide) ?_
  refine lv_irem hx hb zd_La_law_464 (by decide) ?_
  rw [show nI i - nI i / nI 40 * nI 40 = nI (i % 40) from nI_rem (by omega) (by omega)]
  refine lv_iadd hx hb zd_La_law_465 ?_
  rw [show (nI 20) + (nI (i % 40)) = nI (20 + i % 40) from nI_add _ _]
  refine lv_iconst (v := nI 4) hx hb zd_La_law_466 (by decide) ?_
  refine callX (v := someV L xs (20 + i % 40) (nI 4)) (rest := []) X hX hbl hbA hS (c_some l b L hLL xs H (20 + i % 40) (by omega) 4 (by omega) (by omega)) zw503 zw501 zw0 zw502 zh_La_some rfl hR3 hR4 hcs hl.1 rfl (Nat.le_of_ble_eq_true rfl) zd_La_law_467 (fun locs hS => ?_)
  refine lv_if_le (tgt := 476) hx hb zd_La_law_470 (by decide) (fun _ => ls_k C hil hJ hW hS hl K) (fun _ => ?_)
  refine lv_goto (tgt := 562) hx hb zd_La_law_473 (by decide) ?_
  exact ls_j C hJ hW hS hl K
set_option maxHeartbeats 4000000 in
theorem lp_3 (C : LAx p s m args meth c R D AC ad tn A b L xs cells slots) {g : Nat}
    (K : ∀ (H : Heap) (locs : List Loc) (ls : Array Slot), va_S A s.heap H locs → W p l e R s m args below meth c H locs cells slots Q (F0 m 568 ls [])) : ∀ (n i : Nat) (bf0 : Int32) (μ : Mm) (H : Heap) (locs : List Loc) (ls : Array Slot), i + n = lenG g → (i = 0 ∨ bf0 = nI (pcF 32 (LG g (i - 1)))) → J g μ → Wd kA D AC ad μ H → va_S A s.heap H locs → lv_has ls 13 [(8, .int (nI i)), (7, .int bf0), (6, .int (nI (smG g 19))), (5, .int (nI (sizN (tG g)))), (4, .int (nI (lenG g))), (3, .int (nI (pG g))), (2, .int (nI (numN (tG g)))), (1, .ref (ad 0)), (0, .ref b)] → W p l e R s m args below meth c H locs cells slots Q (F0 m 387 ls []) := by
  obtain ⟨⟨X, hK, hN⟩, ⟨hA, hi⟩, ⟨hX, hbl, hbA⟩, hLL, hF9, hL9, hcs⟩ := id C
  have hx := X.1
  have hb := X.2.1
  have hR1 : 7 ≤ R.frames := by omega
  have hR2 : 280 ≤ R.locals := by omega
  have hR3 : 2 ≤ R.frames := by omega
  have hR4 : 46 ≤ R.locals := by omega
  intro n
  induction n with
  | zero =>
    intro i bf0 μ H locs ls hn hbf hJ hW hS hl
    have hlen := len_ok g hJ.1
    obtain rfl : i = lenG g := hn
    refine lv_iload hx hb zd_La_law_387 (lv_at hl 0 rfl) ?_
    refine lv_iload hx hb zd_La_law_389 (lv_at hl 4 rfl) ?_
    exact lv_icmp_ge (tgt := 568) hx hb zd_La_law_391 (by decide) (fun _ => K H locs ls hS) (fun c_ => absurd (nI_le (Nat.le_refl _) (by omega)) c_)
  | succ n ih =>
    intro i bf0 μ H locs ls hn hbf hJ hW hS hl
    have hlen := len_ok g hJ.1
    have hil : i < lenG g := by omega
    have go : ∀ (bf1 : Int32) (μ : Mm) (H : Heap) (locs : List Loc) (ls : Array Slot), J g μ → Wd kA D AC ad μ H → va_S A s.heap H locs → lv_has ls 13 [(9, .long (lN (LG g i))), (8, .int (nI i)), (7, .int bf1), (6, .int (nI (smG g 19))), (5, .int (nI (sizN (tG g)))), (4, .int (nI (lenG g))), (3, .int (nI (pG g))), (2, .int (nI (numN (tG g)))), (1, .ref (ad 0)), (0, .ref b)] → W p l e R s m args below meth c H locs cells slots Q (F0 m 443 ls []) := fun bf1 μ H locs ls hJ hW hS hl => ls_l C hil hJ hW hS hl (fun μ H locs ls hJ hW hS hl => ih (i + 1) _ μ H locs ls (by omega) (Or.inr rfl) hJ hW hS hl)
    refine lv_iload hx hb zd_La_law_387 (lv_at hl 0 rfl) ?_
    refine lv_iload hx hb zd_La_law_389 (lv_at hl 4 rfl) ?_
    refine lv_icmp_ge (tgt := 568) hx hb zd_La_law_391 (by decide) (fun c_ => absurd c_ (nI_ge hil (by omega))) (fun _ => ?_)
    refine lv_aload_n hx hb zd_La_law_394 rfl (lv_at hl 7 rfl) ?_
    refine lv_iload hx hb zd_La_law_395 (lv_at hl 0 rfl) ?_
    obtain ⟨μ1, e1, hJ⟩ := a_list hil hJ
    refine cR (c0 := 79) (k := 0) (as := [.int (nI i)]) (B := 6) (ci := 0) (rest := []) (st1 := [.long (lN (LG g i))]) X hK hN hA hi hW hS (by decide) rfl (Nat.le_of_ble_eq_true rfl) e1 rfl (List.mem_range.mpr (by decide)) rfl zw418 rfl (Nat.le_of_ble_eq_true rfl) hR1 hR2 hcs hl.1 rfl (Nat.le_of_ble_eq_true rfl) zd_La_law_397 rfl (fun H locs hW hS => ?_)
    refine lv_lstore (lv' := [(9, .long (lN (LG g i))), (8, .int (nI i)), (7, .int bf0), (6, .int (nI (smG g 19))), (5, .int (nI (sizN (tG g)))), (4, .int (nI (lenG g))), (3, .int (nI (pG g))), (2, .int (nI (numN (tG g)))), (1, .ref (ad 0)), (0, .ref b)]) hx hb zd_La_law_400 hl (by decide) rfl (fun ls hl => ?_)
    refine lv_iload hx hb zd_La_law_402 (lv_at hl 1 rfl) ?_
    refine lv_if_le (tgt := 443) hx hb zd_La_law_404 (by decide) (fun _ => go _ _ _ _ _ hJ hW hS hl) (fun c_ => ?_)
    obtain ⟨j, rfl⟩ : ∃ j, i = j + 1 := ⟨i - 1, by have : i ≠ 0 := fun z => c_ (by rw [z]; decide); omega⟩
    obtain rfl : bf0 = nI (pcF 32 (LG g j)) := hbf.elim (fun z => absurd z (Nat.succ_ne_zero j)) id
    have hor := f_ord hJ.1 hil
    have p1 := pcF_le 32 (LG g j)
    have p2 := pcF_le 32 (LG g (j + 1))
    refine lv_lload hx hb zd_La_law_407 (lv_at hl 0 rfl) ?_
    obtain ⟨μ2, e2, hJ⟩ := a_bits hil hJ
    refine cRS (c0 := 87) (as := [.long (lN (LG g (j + 1)))]) (B := 6) (rest := []) (st1 := [.int (nI (pcF 32 (LG g (j + 1))))]) X hK hN hA hi hW hS (by decide) rfl (Nat.le_of_ble_eq_true rfl) e2 zw556 rfl (Nat.le_of_ble_eq_true rfl) hR1 hR2 hcs hl.1 rfl (Nat.le_of_ble_eq_true rfl) zd_La_law_409 rfl (fun H locs hW hS => ?_)
    refine lv_iload hx hb zd_La_law_412 (lv_at hl 2 rfl) ?_
    refine lv_icmp_lt (tgt := 441) hx hb zd_La_law_414 (by decide) (fun c_ => absurd c_ (nI_nlt (by omega) (by omega))) (fun _ => ?_)
    refine lv_lload hx hb zd_La_law_417 (lv_at hl 0 rfl) ?_
    obtain ⟨μ3, e3, hJ⟩ := a_bits hil hJ
    refine cRS (c0 := 87) (as := [.long (lN (LG g (j + 1)))]) (B := 6) (rest := []) (st1 := [.int (nI (pcF 32 (LG g (j + 1))))]) X hK hN hA hi hW hS (by decide) rfl (Nat.le_of_ble_eq_true rfl) e3 zw556 rfl (Nat.le_of_ble_eq_true rfl) hR1 hR2 hcs hl.1 rfl (Nat.le_of_ble_eq_true rfl) zd_La_law_419 rfl (fun H locs hW hS => ?_)
    refine lv_iload hx hb zd_La_law_422 (lv_at hl 2 rfl) ?_
    refine lv_icmp_ne (tgt := 443) hx hb zd_La_law_424 (by decide) (fun _ => go _ _ _ _ _ hJ hW hS hl) (fun c_ => ?_)
    have hlt : LG g j < LG g (j + 1) := hor.elim (fun z => absurd ((nI_eq (by omega) (by omega)).mp c_) (by omega)) (fun z => z.2)
    refine lv_lload hx hb zd_La_law_427 (lv_at hl 0 rfl) ?_
    refine lv_aload_n hx hb zd_La_law_429 rfl (lv_at hl 8 rfl) ?_
    refine lv_iload hx hb zd_La_law_430 (lv_at hl 1 rfl) ?_
    refine lv_iconst (v := nI 1) hx hb zd_La_law_432 (by decide) ?_
    refine lv_isub hx hb zd_La_law_433 ?_
    rw [show (nI (j + 1)) - (nI 1) = nI j from nI_pred j]
    obtain ⟨μ4, e4, hJ⟩ := a_list (i := j) (by omega) hJ
    refine cR (c0 := 79) (k := 0) (as := [.int (nI j)]) (B := 6) (ci := 0) (rest := [.long (lN (LG g (j + 1)))]) (st1 := [.long (lN (LG g j)), .long (lN (LG g (j + 1)))]) X hK hN hA hi hW hS (by decide) rfl (Nat.le_of_ble_eq_true rfl) e4 rfl (List.mem_range.mpr (by decide)) rfl zw418 rfl (Nat.le_of_ble_eq_true rfl) hR1 hR2 hcs hl.1 rfl (Nat.le_of_ble_eq_true rfl) zd_La_law_434 rfl (fun H locs hW hS => ?_)
    refine W.lcmp hx hb zd_La_law_437 ?_
    have l1 := lg_lt hJ.1 (i := j) (by omega)
    have l2 := lg_lt hJ.1 hil
    exact lv_if_gt (tgt := 443) hx hb zd_La_law_438 (by decide) (fun _ => go _ _ _ _ _ hJ hW hS hl) (fun c_ => absurd (lgc_pos hlt l2) c_)
end LAW
