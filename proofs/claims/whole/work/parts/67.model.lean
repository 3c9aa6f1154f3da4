/-! the model: its making -/
/-- a call of a method of the block, by its number -/
theorem cR {p : Program} {l : Launch} {e : Env} {R : Room} {s : State} {m : MethodId} {args : Array Value} {below : List Frame} {meth : Method} {c : Code} {H : Heap} {locs : List Loc} {cells slots : Nat} {Q : State → Prop}
    {own : String} {cc : ByteArray} {nL : Nat} {ret : Option FieldType} {pc : Nat} {ls : Array Slot} {rest st0 st1 : List Value} {D : va_G} {AC : Nat → ClassId} {ad : Nat → Nat} {tn : Nat} {μ μ' : Mm} {A : Nat → Prop} {r : Option Value} {as : List Value}
    {index k c0 ci B : Nat} {T : u_T} {M : Nat} (X : Cx p s m args meth c own cc nL ret) (hK : va_K D cl (tyL AC) s) (hN : Nst A tn s s.heap) (hA : ∀ q, Ar kA ad q → A q) (hi : adI kA ad) (hW : Wd kA D AC ad μ H) (hS : va_S A s.heap H locs)
    (hc : c0 < NM) (hps : pS c0 = false) (hcm : csum (.ref k :: as) ≤ pM c0) (he : semC (ent c0 (.ref k :: as) μ) = some (r, μ')) (hs : shK k = 10 + ci) (hk : k ∈ kA) (hcl : cl[ci]? = some ((pY c0).cls, T, M)) (hl : Cond.methodLink own index (pY c0) ∈ LW) (hn : as.length = pNp c0) (hB : pK c0 (.ref k :: as) ≤ B) (hR : B + 1 ≤ R.frames) (hm : 64 + 64 * B ≤ R.locals) (hcs : cells + 0 ≤ R.cells ∧ slots + 0 ≤ R.slots) (hls : ls.size = nL) (hst : st0 = (as.map (rv ad tn)).reverse ++ .ref (ad k) :: rest) (hcat : (rest.map fun v => v.category).sum ≤ 8) (hdg : decode cc pc = .ok (.invokevirtual index, 3)) (h1 : (r.map (rv ad tn)).toList ++ rest = st1)
    (kk : ∀ (H1 : Heap) (locs1 : List Loc), Wd kA D AC ad μ' H1 → va_S A s.heap H1 locs1 → W p l e R s m args below meth c H1 locs1 cells slots Q (F0 m (pc + 3) ls st1)) : W p l e R s m args below meth c H locs cells slots Q (F0 m pc ls st0) := by
  subst h1
  obtain ⟨g1, g2, g3, -, g5, g6, g7, g8⟩ := mw_all hc
  have g9 := g5 hps
  exact cMVR X hK hN hA hi hW hS (met_C hc hcm he) hs hk hcl g1 hl g2 g9.1 g9.2 g7 hn (by omega) (by omega) hcs hls hst hcat hdg kk
theorem zw849 : Jvm.Cond.methodLink "TypesInsideModel" 3 ⟨"java/lang/Object", "<init>", "()V"⟩ ∈ LW := lc4 129 rfl rfl
theorem zw858 : Jvm.Cond.fieldLink "TypesInsideModel" 11 "TypesInsideModel" "told" "[I" ∈ LW := lc4 138 rfl rfl
theorem zw859 : Jvm.Cond.fieldLink "TypesInsideModel" 15 "TypesInsideModel" "sizes" "[I" ∈ LW := lc4 139 rfl rfl
theorem zw860 : Jvm.Cond.fieldLink "TypesInsideModel" 18 "TypesInsideModel" "columns" "[I" ∈ LW := lc4 140 rfl rfl
theorem zw862 : Jvm.Cond.fieldLink "TypesInsideModel" 21 "TypesInsideModel" "made" "[J" ∈ LW := lc4 142 rfl rfl
theorem zw863 : Jvm.Cond.fieldLink "TypesInsideModel" 25 "TypesInsideModel" "spare" "[J" ∈ LW := lc4 143 rfl rfl
theorem zw864 : Jvm.Cond.fieldLink "TypesInsideModel" 28 "TypesInsideModel" "binomials" "[J" ∈ LW := lc4 144 rfl rfl
theorem zw865 : Jvm.Cond.fieldLink "TypesInsideModel" 31 "TypesInsideModel" "products" "[J" ∈ LW := lc4 145 rfl rfl
theorem zw866 : Jvm.Cond.fieldLink "TypesInsideModel" 34 "TypesInsideModel" "now" "[J" ∈ LW := lc4 146 rfl rfl
theorem zw867 : Jvm.Cond.fieldLink "TypesInsideModel" 37 "TypesInsideModel" "then" "[J" ∈ LW := lc4 147 rfl rfl
theorem zw868 : Jvm.Cond.fieldLink "TypesInsideModel" 40 "TypesInsideModel" "alone" "[J" ∈ LW := lc4 148 rfl rfl
theorem zw869 : Jvm.Cond.fieldLink "TypesInsideModel" 43 "TypesInsideModel" "multiplied" "I" ∈ LW := lc4 149 rfl rfl
theorem zw870 : Jvm.Cond.fieldLink "TypesInsideModel" 47 "TypesInsideModel" "sum" "[J" ∈ LW := lc4 150 rfl rfl
theorem zw871 : Jvm.Cond.fieldLink "TypesInsideModel" 50 "TypesInsideModel" "chained" "[J" ∈ LW := lc4 151 rfl rfl
theorem zw873 : Jvm.Cond.fieldLink "TypesInsideModel" 53 "TypesInsideModel" "prime" "I" ∈ LW := lc4 153 rfl rfl
theorem zw874 : Jvm.Cond.fieldLink "TypesInsideModel" 56 "TypesInsideModel" "elements" "I" ∈ LW := lc4 154 rfl rfl
theorem zw875 : Jvm.Cond.fieldLink "TypesInsideModel" 59 "TypesInsideModel" "rounds" "[I" ∈ LW := lc4 155 rfl rfl
theorem zw877 : Jvm.Cond.fieldLink "TypesInsideModel" 62 "TypesInsideModel" "typeHeights" "[I" ∈ LW := lc4 157 rfl rfl
theorem zw878 : Jvm.Cond.fieldLink "TypesInsideModel" 65 "TypesInsideModel" "list" "[J" ∈ LW := lc4 158 rfl rfl
theorem zw880 : Jvm.Cond.fieldLink "TypesInsideModel" 68 "TypesInsideModel" "tape" "[I" ∈ LW := lc4 160 rfl rfl
theorem zw887 : Jvm.Cond.fieldLink "TypesInsideModel" 71 "TypesInsideModel" "sums" "[J" ∈ LW := lc4 167 rfl rfl
theorem zw888 : Jvm.Cond.fieldLink "TypesInsideModel" 74 "TypesInsideModel" "factors" "[J" ∈ LW := lc4 168 rfl rfl
theorem zw889 : Jvm.Cond.fieldLink "TypesInsideModel" 77 "TypesInsideModel" "one" "[J" ∈ LW := lc4 169 rfl rfl
theorem zw890 : Jvm.Cond.fieldLink "TypesInsideModel" 80 "TypesInsideModel" "both" "[J" ∈ LW := lc4 170 rfl rfl
theorem zw891 : Jvm.Cond.fieldLink "TypesInsideModel" 83 "TypesInsideModel" "result" "[J" ∈ LW := lc4 171 rfl rfl
theorem zw892 : Jvm.Cond.fieldLink "TypesInsideModel" 86 "TypesInsideModel" "sorts" "[I" ∈ LW := lc4 172 rfl rfl
theorem zw893 : Jvm.Cond.fieldLink "TypesInsideModel" 89 "TypesInsideModel" "widths" "[I" ∈ LW := lc4 173 rfl rfl
theorem zw894 : Jvm.Cond.fieldLink "TypesInsideModel" 92 "TypesInsideModel" "places" "[I" ∈ LW := lc4 174 rfl rfl
theorem zw895 : Jvm.Cond.fieldLink "TypesInsideModel" 95 "TypesInsideModel" "before" "[I" ∈ LW := lc4 175 rfl rfl
theorem zw896 : Jvm.Cond.fieldLink "TypesInsideModel" 98 "TypesInsideModel" "keptType" "I" ∈ LW := lc4 176 rfl rfl
theorem zw898 : Jvm.Cond.fieldLink "TypesInsideModel" 101 "TypesInsideModel" "keptResult" "[J" ∈ LW := lc4 178 rfl rfl
theorem zw899 : Jvm.Cond.fieldLink "TypesInsideModel" 104 "TypesInsideModel" "keptSorts" "[I" ∈ LW := lc4 179 rfl rfl
theorem zw900 : Jvm.Cond.fieldLink "TypesInsideModel" 107 "TypesInsideModel" "keptWidths" "[I" ∈ LW := lc4 180 rfl rfl
theorem zw901 : Jvm.Cond.fieldLink "TypesInsideModel" 110 "TypesInsideModel" "keptPlaces" "[I" ∈ LW := lc4 181 rfl rfl
theorem zw850 : Jvm.Cond.methodLink "TypesInsideModel" 113 ⟨"TypesInsideModel", "grows", "(IIII)V"⟩ ∈ LW := lc4 130 rfl rfl
theorem zw854 : Jvm.Cond.methodLink "TypesInsideModel" 117 ⟨"TypesInsideModel", "rests", "()V"⟩ ∈ LW := lc4 134 rfl rfl
theorem zd_Mo_init_0 : decode prog_11_method_2_code 0 = .ok (.aload_n 0, 1) := by decide +kernel
theorem zd_Mo_init_1 : decode prog_11_method_2_code 1 = .ok (.invokespecial 3, 3) := by decide +kernel
theorem zd_Mo_init_4 : decode prog_11_method_2_code 4 = .ok (.aload_n 0, 1) := by decide +kernel
theorem zd_Mo_init_5 : decode prog_11_method_2_code 5 = .ok (.bipush 19, 2) := by decide +kernel
theorem zd_Mo_init_7 : decode prog_11_method_2_code 7 = .ok (.newarray .int, 2) := by decide +kernel
theorem zd_Mo_init_9 : decode prog_11_method_2_code 9 = .ok (.putfield 11, 3) := by decide +kernel
theorem zd_Mo_init_12 : decode prog_11_method_2_code 12 = .ok (.aload_n 0, 1) := by decide +kernel
theorem zd_Mo_init_13 : decode prog_11_method_2_code 13 = .ok (.bipush 19, 2) := by decide +kernel
theorem zd_Mo_init_15 : decode prog_11_method_2_code 15 = .ok (.newarray .int, 2) := by decide +kernel
theorem zd_Mo_init_17 : decode prog_11_method_2_code 17 = .ok (.putfield 15, 3) := by decide +kernel
theorem zd_Mo_init_20 : decode prog_11_method_2_code 20 = .ok (.aload_n 0, 1) := by decide +kernel
theorem zd_Mo_init_21 : decode prog_11_method_2_code 21 = .ok (.sipush 133, 3) := by decide +kernel
theorem zd_Mo_init_24 : decode prog_11_method_2_code 24 = .ok (.newarray .int, 2) := by decide +kernel
theorem zd_Mo_init_26 : decode prog_11_method_2_code 26 = .ok (.putfield 18, 3) := by decide +kernel
theorem zd_Mo_init_29 : decode prog_11_method_2_code 29 = .ok (.aload_n 0, 1) := by decide +kernel
theorem zd_Mo_init_30 : decode prog_11_method_2_code 30 = .ok (.bipush 31, 2) := by decide +kernel
theorem zd_Mo_init_32 : decode prog_11_method_2_code 32 = .ok (.newarray .long, 2) := by decide +kernel
theorem zd_Mo_init_34 : decode prog_11_method_2_code 34 = .ok (.putfield 21, 3) := by decide +kernel
theorem zd_Mo_init_37 : decode prog_11_method_2_code 37 = .ok (.aload_n 0, 1) := by decide +kernel
theorem zd_Mo_init_38 : decode prog_11_method_2_code 38 = .ok (.bipush 31, 2) := by decide +kernel
theorem zd_Mo_init_40 : decode prog_11_method_2_code 40 = .ok (.newarray .long, 2) := by decide +kernel
theorem zd_Mo_init_42 : decode prog_11_method_2_code 42 = .ok (.putfield 25, 3) := by decide +kernel
theorem zd_Mo_init_45 : decode prog_11_method_2_code 45 = .ok (.aload_n 0, 1) := by decide +kernel
theorem zd_Mo_init_46 : decode prog_11_method_2_code 46 = .ok (.sipush 1116, 3) := by decide +kernel
theorem zd_Mo_init_49 : decode prog_11_method_2_code 49 = .ok (.newarray .long, 2) := by decide +kernel
theorem zd_Mo_init_51 : decode prog_11_method_2_code 51 = .ok (.putfield 28, 3) := by decide +kernel
theorem zd_Mo_init_54 : decode prog_11_method_2_code 54 = .ok (.aload_n 0, 1) := by decide +kernel
theorem zd_Mo_init_55 : decode prog_11_method_2_code 55 = .ok (.sipush 11191, 3) := by decide +kernel
theorem zd_Mo_init_58 : decode prog_11_method_2_code 58 = .ok (.newarray .long, 2) := by decide +kernel
theorem zd_Mo_init_60 : decode prog_11_method_2_code 60 = .ok (.putfield 31, 3) := by decide +kernel
theorem zd_Mo_init_63 : decode prog_11_method_2_code 63 = .ok (.aload_n 0, 1) := by decide +kernel
theorem zd_Mo_init_64 : decode prog_11_method_2_code 64 = .ok (.sipush 589, 3) := by decide +kernel
theorem zd_Mo_init_67 : decode prog_11_method_2_code 67 = .ok (.newarray .long, 2) := by decide +kernel
theorem zd_Mo_init_69 : decode prog_11_method_2_code 69 = .ok (.putfield 34, 3) := by decide +kernel
theorem zd_Mo_init_72 : decode prog_11_method_2_code 72 = .ok (.aload_n 0, 1) := by decide +kernel
theorem zd_Mo_init_73 : decode prog_11_method_2_code 73 = .ok (.sipush 589, 3) := by decide +kernel
theorem zd_Mo_init_76 : decode prog_11_method_2_code 76 = .ok (.newarray .long, 2) := by decide +kernel
theorem zd_Mo_init_78 : decode prog_11_method_2_code 78 = .ok (.putfield 37, 3) := by decide +kernel
theorem zd_Mo_init_81 : decode prog_11_method_2_code 81 = .ok (.aload_n 0, 1) := by decide +kernel
theorem zd_Mo_init_82 : decode prog_11_method_2_code 82 = .ok (.sipush 589, 3) := by decide +kernel
theorem zd_Mo_init_85 : decode prog_11_method_2_code 85 = .ok (.newarray .long, 2) := by decide +kernel
theorem zd_Mo_init_87 : decode prog_11_method_2_code 87 = .ok (.putfield 40, 3) := by decide +kernel
theorem zd_Mo_init_90 : decode prog_11_method_2_code 90 = .ok (.aload_n 0, 1) := by decide +kernel
theorem zd_Mo_init_91 : decode prog_11_method_2_code 91 = .ok (.iconst (-1), 1) := by decide +kernel
theorem zd_Mo_init_92 : decode prog_11_method_2_code 92 = .ok (.putfield 43, 3) := by decide +kernel
theorem zd_Mo_init_95 : decode prog_11_method_2_code 95 = .ok (.aload_n 0, 1) := by decide +kernel
theorem zd_Mo_init_96 : decode prog_11_method_2_code 96 = .ok (.bipush 31, 2) := by decide +kernel
theorem zd_Mo_init_98 : decode prog_11_method_2_code 98 = .ok (.newarray .long, 2) := by decide +kernel
theorem zd_Mo_init_100 : decode prog_11_method_2_code 100 = .ok (.putfield 47, 3) := by decide +kernel
theorem zd_Mo_init_103 : decode prog_11_method_2_code 103 = .ok (.aload_n 0, 1) := by decide +kernel
theorem zd_Mo_init_104 : decode prog_11_method_2_code 104 = .ok (.sipush 589, 3) := by decide +kernel
theorem zd_Mo_init_107 : decode prog_11_method_2_code 107 = .ok (.newarray .long, 2) := by decide +kernel
theorem zd_Mo_init_109 : decode prog_11_method_2_code 109 = .ok (.putfield 50, 3) := by decide +kernel
theorem zd_Mo_init_112 : decode prog_11_method_2_code 112 = .ok (.aload_n 0, 1) := by decide +kernel
theorem zd_Mo_init_113 : decode prog_11_method_2_code 113 = .ok (.iconst 2, 1) := by decide +kernel
theorem zd_Mo_init_114 : decode prog_11_method_2_code 114 = .ok (.putfield 53, 3) := by decide +kernel
theorem zd_Mo_init_117 : decode prog_11_method_2_code 117 = .ok (.aload_n 0, 1) := by decide +kernel
theorem zd_Mo_init_118 : decode prog_11_method_2_code 118 = .ok (.iconst 1, 1) := by decide +kernel
theorem zd_Mo_init_119 : decode prog_11_method_2_code 119 = .ok (.putfield 56, 3) := by decide +kernel
theorem zd_Mo_init_122 : decode prog_11_method_2_code 122 = .ok (.aload_n 0, 1) := by decide +kernel
theorem zd_Mo_init_123 : decode prog_11_method_2_code 123 = .ok (.iconst 5, 1) := by decide +kernel
theorem zd_Mo_init_124 : decode prog_11_method_2_code 124 = .ok (.newarray .int, 2) := by decide +kernel
theorem zd_Mo_init_126 : decode prog_11_method_2_code 126 = .ok (.putfield 59, 3) := by decide +kernel
theorem zd_Mo_init_129 : decode prog_11_method_2_code 129 = .ok (.aload_n 0, 1) := by decide +kernel
theorem zd_Mo_init_130 : decode prog_11_method_2_code 130 = .ok (.bipush 6, 2) := by decide +kernel
theorem zd_Mo_init_132 : decode prog_11_method_2_code 132 = .ok (.newarray .int, 2) := by decide +kernel
theorem zd_Mo_init_134 : decode prog_11_method_2_code 134 = .ok (.putfield 62, 3) := by decide +kernel
theorem zd_Mo_init_137 : decode prog_11_method_2_code 137 = .ok (.aload_n 0, 1) := by decide +kernel
theorem zd_Mo_init_138 : decode prog_11_method_2_code 138 = .ok (.sipush 400, 3) := by decide +kernel
theorem zd_Mo_init_141 : decode prog_11_method_2_code 141 = .ok (.newarray .long, 2) := by decide +kernel
theorem zd_Mo_init_143 : decode prog_11_method_2_code 143 = .ok (.putfield 65, 3) := by decide +kernel
theorem zd_Mo_init_146 : decode prog_11_method_2_code 146 = .ok (.aload_n 0, 1) := by decide +kernel
theorem zd_Mo_init_147 : decode prog_11_method_2_code 147 = .ok (.bipush 40, 2) := by decide +kernel
theorem zd_Mo_init_149 : decode prog_11_method_2_code 149 = .ok (.newarray .int, 2) := by decide +kernel
theorem zd_Mo_init_151 : decode prog_11_method_2_code 151 = .ok (.putfield 68, 3) := by decide +kernel
theorem zd_Mo_init_154 : decode prog_11_method_2_code 154 = .ok (.aload_n 0, 1) := by decide +kernel
theorem zd_Mo_init_155 : decode prog_11_method_2_code 155 = .ok (.sipush 1767, 3) := by decide +kernel
theorem zd_Mo_init_158 : decode prog_11_method_2_code 158 = .ok (.newarray .long, 2) := by decide +kernel
theorem zd_Mo_init_160 : decode prog_11_method_2_code 160 = .ok (.putfield 71, 3) := by decide +kernel
theorem zd_Mo_init_163 : decode prog_11_method_2_code 163 = .ok (.aload_n 0, 1) := by decide +kernel
theorem zd_Mo_init_164 : decode prog_11_method_2_code 164 = .ok (.sipush 1767, 3) := by decide +kernel
theorem zd_Mo_init_167 : decode prog_11_method_2_code 167 = .ok (.newarray .long, 2) := by decide +kernel
theorem zd_Mo_init_169 : decode prog_11_method_2_code 169 = .ok (.putfield 74, 3) := by decide +kernel
theorem zd_Mo_init_172 : decode prog_11_method_2_code 172 = .ok (.aload_n 0, 1) := by decide +kernel
theorem zd_Mo_init_173 : decode prog_11_method_2_code 173 = .ok (.sipush 589, 3) := by decide +kernel
theorem zd_Mo_init_176 : decode prog_11_method_2_code 176 = .ok (.newarray .long, 2) := by decide +kernel
theorem zd_Mo_init_178 : decode prog_11_method_2_code 178 = .ok (.putfield 77, 3) := by decide +kernel
theorem zd_Mo_init_181 : decode prog_11_method_2_code 181 = .ok (.aload_n 0, 1) := by decide +kernel
theorem zd_Mo_init_182 : decode prog_11_method_2_code 182 = .ok (.sipush 589, 3) := by decide +kernel
theorem zd_Mo_init_185 : decode prog_11_method_2_code 185 = .ok (.newarray .long, 2) := by decide +kernel
theorem zd_Mo_init_187 : decode prog_11_method_2_code 187 = .ok (.putfield 80, 3) := by decide +kernel
theorem zd_Mo_init_190 : decode prog_11_method_2_code 190 = .ok (.aload_n 0, 1) := by decide +kernel
theorem zd_Mo_init_191 : decode prog_11_method_2_code 191 = .ok (.sipush 589, 3) := by decide +kernel
theorem zd_Mo_init_194 : decode prog_11_method_2_code 194 = .ok (.newarray .long, 2) := by decide +kernel
theorem zd_Mo_init_196 : decode prog_11_method_2_code 196 = .ok (.putfield 83, 3) := by decide +kernel
theorem zd_Mo_init_199 : decode prog_11_method_2_code 199 = .ok (.aload_n 0, 1) := by decide +kernel
theorem zd_Mo_init_200 : decode prog_11_method_2_code 200 = .ok (.iconst 4, 1) := by decide +kernel
theorem zd_Mo_init_201 : decode prog_11_method_2_code 201 = .ok (.newarray .int, 2) := by decide +kernel
theorem zd_Mo_init_203 : decode prog_11_method_2_code 203 = .ok (.putfield 86, 3) := by decide +kernel
theorem zd_Mo_init_206 : decode prog_11_method_2_code 206 = .ok (.aload_n 0, 1) := by decide +kernel
theorem zd_Mo_init_207 : decode prog_11_method_2_code 207 = .ok (.iconst 4, 1) := by decide +kernel
theorem zd_Mo_init_208 : decode prog_11_method_2_code 208 = .ok (.newarray .int, 2) := by decide +kernel
theorem zd_Mo_init_210 : decode prog_11_method_2_code 210 = .ok (.putfield 89, 3) := by decide +kernel
theorem zd_Mo_init_213 : decode prog_11_method_2_code 213 = .ok (.aload_n 0, 1) := by decide +kernel
theorem zd_Mo_init_214 : decode prog_11_method_2_code 214 = .ok (.bipush 80, 2) := by decide +kernel
theorem zd_Mo_init_216 : decode prog_11_method_2_code 216 = .ok (.newarray .int, 2) := by decide +kernel
theorem zd_Mo_init_218 : decode prog_11_method_2_code 218 = .ok (.putfield 92, 3) := by decide +kernel
theorem zd_Mo_init_221 : decode prog_11_method_2_code 221 = .ok (.aload_n 0, 1) := by decide +kernel
theorem zd_Mo_init_222 : decode prog_11_method_2_code 222 = .ok (.bipush 20, 2) := by decide +kernel
theorem zd_Mo_init_224 : decode prog_11_method_2_code 224 = .ok (.newarray .int, 2) := by decide +kernel
theorem zd_Mo_init_226 : decode prog_11_method_2_code 226 = .ok (.putfield 95, 3) := by decide +kernel
theorem zd_Mo_init_229 : decode prog_11_method_2_code 229 = .ok (.aload_n 0, 1) := by decide +kernel
theorem zd_Mo_init_230 : decode prog_11_method_2_code 230 = .ok (.iconst (-1), 1) := by decide +kernel
theorem zd_Mo_init_231 : decode prog_11_method_2_code 231 = .ok (.putfield 98, 3) := by decide +kernel
theorem zd_Mo_init_234 : decode prog_11_method_2_code 234 = .ok (.aload_n 0, 1) := by decide +kernel
theorem zd_Mo_init_235 : decode prog_11_method_2_code 235 = .ok (.sipush 589, 3) := by decide +kernel
theorem zd_Mo_init_238 : decode prog_11_method_2_code 238 = .ok (.newarray .long, 2) := by decide +kernel
theorem zd_Mo_init_240 : decode prog_11_method_2_code 240 = .ok (.putfield 101, 3) := by decide +kernel
theorem zd_Mo_init_243 : decode prog_11_method_2_code 243 = .ok (.aload_n 0, 1) := by decide +kernel
theorem zd_Mo_init_244 : decode prog_11_method_2_code 244 = .ok (.iconst 4, 1) := by decide +kernel
theorem zd_Mo_init_245 : decode prog_11_method_2_code 245 = .ok (.newarray .int, 2) := by decide +kernel
theorem zd_Mo_init_247 : decode prog_11_method_2_code 247 = .ok (.putfield 104, 3) := by decide +kernel
theorem zd_Mo_init_250 : decode prog_11_method_2_code 250 = .ok (.aload_n 0, 1) := by decide +kernel
theorem zd_Mo_init_251 : decode prog_11_method_2_code 251 = .ok (.iconst 4, 1) := by decide +kernel
theorem zd_Mo_init_252 : decode prog_11_method_2_code 252 = .ok (.newarray .int, 2) := by decide +kernel
theorem zd_Mo_init_254 : decode prog_11_method_2_code 254 = .ok (.putfield 107, 3) := by decide +kernel
theorem zd_Mo_init_257 : decode prog_11_method_2_code 257 = .ok (.aload_n 0, 1) := by decide +kernel
theorem zd_Mo_init_258 : decode prog_11_method_2_code 258 = .ok (.bipush 80, 2) := by decide +kernel
theorem zd_Mo_init_260 : decode prog_11_method_2_code 260 = .ok (.newarray .int, 2) := by decide +kernel
theorem zd_Mo_init_262 : decode prog_11_method_2_code 262 = .ok (.putfield 110, 3) := by decide +kernel
theorem zd_Mo_init_265 : decode prog_11_method_2_code 265 = .ok (.iconst 0, 1) := by decide +kernel
theorem zd_Mo_init_266 : decode prog_11_method_2_code 266 = .ok (.istore_n 1, 1) := by decide +kernel
theorem zd_Mo_init_267 : decode prog_11_method_2_code 267 = .ok (.iload_n 1, 1) := by decide +kernel
theorem zd_Mo_init_268 : decode prog_11_method_2_code 268 = .ok (.iconst 5, 1) := by decide +kernel
theorem zd_Mo_init_269 : decode prog_11_method_2_code 269 = .ok (.if_icmp .gt 17, 3) := by decide +kernel
theorem zd_Mo_init_272 : decode prog_11_method_2_code 272 = .ok (.aload_n 0, 1) := by decide +kernel
theorem zd_Mo_init_273 : decode prog_11_method_2_code 273 = .ok (.iload_n 1, 1) := by decide +kernel
theorem zd_Mo_init_274 : decode prog_11_method_2_code 274 = .ok (.iload_n 1, 1) := by decide +kernel
theorem zd_Mo_init_275 : decode prog_11_method_2_code 275 = .ok (.iconst 0, 1) := by decide +kernel
theorem zd_Mo_init_276 : decode prog_11_method_2_code 276 = .ok (.iconst 0, 1) := by decide +kernel
theorem zd_Mo_init_277 : decode prog_11_method_2_code 277 = .ok (.invokevirtual 113, 3) := by decide +kernel
theorem zd_Mo_init_280 : decode prog_11_method_2_code 280 = .ok (.iinc 1 1, 3) := by decide +kernel
theorem zd_Mo_init_283 : decode prog_11_method_2_code 283 = .ok (.goto (-16), 3) := by decide +kernel
theorem zd_Mo_init_286 : decode prog_11_method_2_code 286 = .ok (.aload_n 0, 1) := by decide +kernel
theorem zd_Mo_init_287 : decode prog_11_method_2_code 287 = .ok (.invokevirtual 117, 3) := by decide +kernel
theorem zd_Mo_init_290 : decode prog_11_method_2_code 290 = .ok (.return_, 1) := by decide +kernel
def moF : List Value := [.null, .null, .null, .int 0, .null, .null, .null, .null, .null, .null, .null, .int 0, .null, .null, .int 0, .int 0, .int 0, .null, .int 0, .null, .null, .int 0, .null, .int 0, .int 0, .int 0, .int 0, .int 0, .int 0, .null, .null, .null, .null, .null, .null, .null, .null, .null, .int 0, .int 0, .null, .null, .null, .null]
def adM (ad0 : Nat → Nat) (h0 : Nat) (q : Nat → Nat) (k : Nat) : Nat := if k < 306 then ad0 k else if k = 306 then h0 else q (k - 307)
theorem adM_l {ad0 : Nat → Nat} {h0 : Nat} {q : Nat → Nat} {k : Nat} (h : k < 306) : adM ad0 h0 q k = ad0 k := if_pos h
theorem adM_h {ad0 : Nat → Nat} {h0 : Nat} {q : Nat → Nat} : adM ad0 h0 q 306 = h0 := by
  unfold adM
  rw [if_neg (by omega), if_pos rfl]
theorem adM_m {ad0 : Nat → Nat} {h0 : Nat} {q : Nat → Nat} {k : Nat} (i : Nat) (h : k = 307 + i) : adM ad0 h0 q k = q i := by
  subst h
  unfold adM
  rw [if_neg (by omega), if_neg (by omega), Nat.add_sub_cancel_left]
def flS (c k n : Nat) (f : Nat → Int32) : List (Nat ⊕ Int32) := (List.range n).map fun j => bif isR c j then .inl (sub k j) else .inr (f j)
def flV (ad : Nat → Nat) : Nat ⊕ Int32 → Value
  | .inl k => .ref (ad k)
  | .inr v => .int v
theorem fl_S {ad : Nat → Nat} {c k n : Nat} {f : Nat → Int32} : fl ad c k n f = (flS c k n f).map (flV ad) := by
  unfold fl flS
  rw [List.map_map]
  refine List.map_congr_left (fun j _ => ?_)
  show _ = flV ad (bif isR c j then .inl (sub k j) else .inr (f j))
  cases isR c j <;> rfl
theorem moS : flS 6 306 (cN 6) (Zi 306) = ([.inl 307, .inl 308, .inl 309, .inr (0 : Int32), .inl 310, .inl 311, .inl 312, .inl 313, .inl 314, .inl 315, .inl 316, .inr (-1 : Int32), .inl 317, .inl 318, .inr (0 : Int32), .inr (2 : Int32), .inr (1 : Int32), .inl 319, .inr (0 : Int32), .inl 320, .inl 321, .inr (0 : Int32), .inl 322, .inr (0 : Int32), .inr (0 : Int32), .inr (0 : Int32), .inr (0 : Int32), .inr (0 : Int32), .inr (0 : Int32), .inl 323, .inl 324, .inl 325, .inl 326, .inl 327, .inl 328, .inl 329, .inl 330, .inl 331, .inr (-1 : Int32), .inr (0 : Int32), .inl 332, .inl 333, .inl 334, .inl 335] : List (Nat ⊕ Int32)) := by decide +kernel
theorem mo_fl {ad0 : Nat → Nat} {h0 : Nat} {q : Nat → Nat} : fl (adM ad0 h0 q) 6 306 (cN 6) (μz.1 306) = [.ref (q 0), .ref (q 1), .ref (q 2), .int 0, .ref (q 3), .ref (q 4), .ref (q 5), .ref (q 6), .ref (q 7), .ref (q 8), .ref (q 9), .int (-1 : Int32), .ref (q 10), .ref (q 11), .int 0, .int (2 : Int32), .int (1 : Int32), .ref (q 12), .int 0, .ref (q 13), .ref (q 14), .int 0, .ref (q 15), .int 0, .int 0, .int 0, .int 0, .int 0, .int 0, .ref (q 16), .ref (q 17), .ref (q 18), .ref (q 19), .ref (q 20), .ref (q 21), .ref (q 22), .ref (q 23), .ref (q 24), .int (-1 : Int32), .int 0, .ref (q 25), .ref (q 26), .ref (q 27), .ref (q 28)] := by
  show fl (adM ad0 h0 q) 6 306 (cN 6) (Zi 306) = _
  rw [fl_S, moS]
  have g0 : adM ad0 h0 q 307 = q 0 := adM_m 0 rfl
  have g1 : adM ad0 h0 q 308 = q 1 := adM_m 1 rfl
  have g2 : adM ad0 h0 q 309 = q 2 := adM_m 2 rfl
  have g3 : adM ad0 h0 q 310 = q 3 := adM_m 3 rfl
  have g4 : adM ad0 h0 q 311 = q 4 := adM_m 4 rfl
  have g5 : adM ad0 h0 q 312 = q 5 := adM_m 5 rfl
  have g6 : adM ad0 h0 q 313 = q 6 := adM_m 6 rfl
  have g7 : adM ad0 h0 q 314 = q 7 := adM_m 7 rfl
  have g8 : adM ad0 h0 q 315 = q 8 := adM_m 8 rfl
  have g9 : adM ad0 h0 q 316 = q 9 := adM_m 9 rfl
  have g10 : adM ad0 h0 q 317 = q 10 := adM_m 10 rfl
  have g11 : adM ad0 h0 q 318 = q 11 := adM_m 11 rfl
  have g12 : adM ad0 h0 q 319 = q 12 := adM_m 12 rfl
  have g13 : adM ad0 h0 q 320 = q 13 := adM_m 13 rfl
  have g14 : adM ad0 h0 q 321 = q 14 := adM_m 14 rfl
  have g15 : adM ad0 h0 q 322 = q 15 := adM_m 15 rfl
  have g16 : adM ad0 h0 q 323 = q 16 := adM_m 16 rfl
  have g17 : adM ad0 h0 q 324 = q 17 := adM_m 17 rfl
  have g18 : adM ad0 h0 q 325 = q 18 := adM_m 18 rfl
  have g19 : adM ad0 h0 q 326 = q 19 := adM_m 19 rfl
  have g20 : adM ad0 h0 q 327 = q 20 := adM_m 20 rfl
  have g21 : adM ad0 h0 q 328 = q 21 := adM_m 21 rfl
  have g22 : adM ad0 h0 q 329 = q 22 := adM_m 22 rfl
  have g23 : adM ad0 h0 q 330 = q 23 := adM_m 23 rfl
  have g24 : adM ad0 h0 q 331 = q 24 := adM_m 24 rfl
  have g25 : adM ad0 h0 q 332 = q 25 := adM_m 25 rfl
  have g26 : adM ad0 h0 q 333 = q 26 := adM_m 26 rfl
  have g27 : adM ad0 h0 q 334 = q 27 := adM_m 27 rfl
  have g28 : adM ad0 h0 q 335 = q 28 := adM_m 28 rfl
  simp only [List.map_cons, List.map_nil, flV, g0, g1, g2, g3, g4, g5, g6, g7, g8, g9, g10, g11, g12, g13, g14, g15, g16, g17, g18, g19, g20, g21, g22, g23, g24, g25, g26, g27, g28]
theorem mo_ci {AC : Nat → ClassId} {ad : Nat → Nat} {n : Nat} (k : Nat) (h : shK k = 0) (hk : 307 ≤ k) (hn : shN k = n) : cE AC ad μz k = .inl (AC 0, n, .inl (fun _ => (0 : Int32))) := by
  rw [cE_i h, hn, show μz.1 k = _ from st_z k hk]
theorem mo_cl {AC : Nat → ClassId} {ad : Nat → Nat} {n : Nat} (k : Nat) (h : shK k = 1) (hk : 307 ≤ k) (hn : shN k = n) : cE AC ad μz k = .inl (AC 1, n, .inr (.inl (fun _ => (0 : Int64)))) := by
  rw [cE_l h, hn, Zl_0 (by omega)]
theorem mo_ad : ∀ k, k < 336 → 307 ≤ k → (shK k = 0 ∨ shK k = 1) := by decide +kernel
theorem zc_0_306 : clo 0 306 = true := by decide +kernel
theorem mo_P {D : va_G} {AC : Nat → ClassId} {H : Heap} {ad0 : Nat → Nat} {h0 : Nat} {q : Nat → Nat} {fs : List Value} (hT : va_P D cl (wl (rng 0 306) AC ad0 μz) H) (hh : va_at D cl (h0, .inr (6, fs)) H) (hf : fl (adM ad0 h0 q) 6 306 (cN 6) (μz.1 306) = fs) (hq : ∀ i, i < 29 → va_at D cl (q i, cE AC ad0 μz (307 + i)) H) : va_P D cl (wl kA AC (adM ad0 h0 q) μz) H := P_of fun x hx => by
  obtain ⟨k, hk, rfl⟩ := List.mem_map.mp hx
  have hk : k < 336 := List.mem_range.mp hk
  have hT2 := wl_mv (ad := adM ad0 h0 q) zc_0_306 (fun i _ h => adM_l (by omega)) hT
  by_cases h1 : k < 306
  · exact P_in hT2 (List.mem_map.mpr ⟨k, rng_mem.mpr ⟨by omega, by omega⟩, rfl⟩)
  · by_cases h2 : k = 306
    · subst h2
      show va_at D cl (adM ad0 h0 q 306, cE AC (adM ad0 h0 q) μz 306) H
      rw [adM_h, cE_o (show shK 306 = 10 + 6 from rfl), hf]
      exact hh
    · obtain ⟨i, rfl⟩ : ∃ i, k = 307 + i := ⟨k - 307, by omega⟩
      have h := hq i (by omega)
      show va_at D cl (adM ad0 h0 q (307 + i), cE AC (adM ad0 h0 q) μz (307 + i)) H
      rw [adM_m i rfl]
      rcases mo_ad (307 + i) hk (by omega) with e | e
      · rw [cE_i e] at h ⊢
        exact h
      · rw [cE_l e] at h ⊢
        exact h
theorem kA_3 : kA = rng 0 306 ++ 306 :: rng 307 29 := by
  have h1 : rng 0 (306 + 30) = rng 0 306 ++ rng (0 + 306) 30 := (rng_app 0 306 30).symm
  have h2 : rng (0 + 306) (29 + 1) = (0 + 306) :: rng (0 + 306 + 1) 29 := rng_s (0 + 306) 29
  exact (rng_0 336).symm.trans (h1.trans (congrArg (fun x => rng 0 306 ++ x) h2))
theorem mo_D {AC : Nat → ClassId} {A : Nat → Prop} {ad0 : Nat → Nat} {h0 : Nat} {q : Nat → Nat} {e : va_E} {S : va_W} (h : va_D A ((h0, e) :: (wl (rng 0 306) AC ad0 μz ++ S))) (hS : S.map (fun x => x.1) = (List.range 29).map q) : va_D A (wl kA AC (adM ad0 h0 q) μz) := by
  refine D_fst (D_mid h) ?_
  rw [wl_fst, kA_3, List.map_append, List.map_cons, List.map_append, List.map_cons, wl_fst, hS, adM_h]
  have h1 : (rng 0 306).map ad0 = (rng 0 306).map (adM ad0 h0 q) := List.map_congr_left (fun k hk => by
    obtain ⟨-, h2⟩ := rng_mem.mp hk
    exact (adM_l (by omega)).symm)
  have h2 : (List.range 29).map q = (rng 307 29).map (adM ad0 h0 q) := by
    unfold rng
    rw [List.map_map]
    exact List.map_congr_left (fun i _ => (adM_m i rfl).symm)
  rw [h1, h2]
theorem mo_run : ∃ μ1 μ2 μ3 μ4 μ5 μ6 μ7 : Mm, m_Mo_grows (nI 0) (nI 0) (nI 0) (nI 0) μz = some (none, μ1) ∧ m_Mo_grows (nI 1) (nI 1) (nI 0) (nI 0) μ1 = some (none, μ2) ∧ m_Mo_grows (nI 2) (nI 2) (nI 0) (nI 0) μ2 = some (none, μ3) ∧ m_Mo_grows (nI 3) (nI 3) (nI 0) (nI 0) μ3 = some (none, μ4) ∧ m_Mo_grows (nI 4) (nI 4) (nI 0) (nI 0) μ4 = some (none, μ5) ∧ m_Mo_grows (nI 5) (nI 5) (nI 0) (nI 0) μ5 = some (none, μ6) ∧ m_Mo_rests μ6 = some (none, μ7) ∧ Inv μ7 := by
  obtain ⟨μ1, e1, F1, j1, G1⟩ := s_grow (show 0 < 6 by omega) GT_z
  obtain ⟨μ2, e2, F2, j2, G2⟩ := s_grow (show 1 < 6 by omega) G1
  obtain ⟨μ3, e3, F3, j3, G3⟩ := s_grow (show 2 < 6 by omega) G2
  obtain ⟨μ4, e4, F4, j4, G4⟩ := s_grow (show 3 < 6 by omega) G3
  obtain ⟨μ5, e5, F5, j5, G5⟩ := s_grow (show 4 < 6 by omega) G4
  obtain ⟨μ6, e6, F6, j6, G6⟩ := s_grow (show 5 < 6 by omega) G5
  have FA : Fr fGw μz μ6 := ((((F1.t2 F2).t2 F3).t2 F4).t2 F5).t2 F6
  have z312 : ∀ j, j < 1116 → μ6.2 312 j = lN 0 := fun j _ => (congrFun ((FA 312 (by omega)).2.trans (Zl_0 (by omega))) j).trans rfl
  obtain ⟨μ7, e7, F7, R7⟩ := s_rests z312
  have FB : Fr fSt μz μ7 := (FA.tr F7).w (fun k h => h)
  have hj : ∀ j, j ≠ 3 → μ7.1 306 j = μz.1 306 j := fun j h => by
    rw [(F7 306 (by omega)).1, j6 j h, j5 j h, j4 j h, j3 j h, j2 j h, j1 j h]
  exact ⟨μ1, μ2, μ3, μ4, μ5, μ6, μ7, e1, e2, e3, e4, e5, e6, e7, inv_start FB hj (G6.mt.fr F7 (by omega) (by omega) (by omega)) R7⟩
set_option maxHeartbeats 4000000 in
theorem mo_calls (l : Launch) {p : Program} {e : Env} {s : State} {m : MethodId} {below : List Frame} {meth : Method} {c : Code} {H : Heap} {locs : List Loc} {D : va_G} {AC : Nat → ClassId} {ad ad0 : Nat → Nat} {h0 tn : Nat} {A : Nat → Prop} {ls : Array Slot} (X : Cx p s m ([.ref h0] : List Value).toArray meth c "TypesInsideModel" prog_11_method_2_code 2 none) (hK : va_K D cl (tyL AC) s) (hN : Nst A tn s s.heap) (hAr : ∀ q, Ar kA ad q → A q) (hi : adI kA ad) (hW : Wd kA D AC ad μz H) (hDA : va_D A (wl kA AC ad μz)) (hS : va_S A s.heap H locs) (h6 : ad 306 = h0) (had : ∀ k, k < 306 → ad k = ad0 k) (hl : lv_has ls 2 [(0, .ref h0)]) :
    W p l e ({ frames := 64, cells := 29, slots := 21464, locals := 4096 } : Room) s m ([.ref h0] : List Value).toArray below meth c H locs 29 21464 (MQ below (va_Qv (fun ad : Nat → Nat => ad 306 = h0 ∧ ∀ k, k < 306 → ad k = ad0 k) (fun ad t => ∃ μ : Mm, Inv μ ∧ va_P D cl (wl kA AC ad μ) t.heap ∧ va_D A (wl kA AC ad μ)) A) ([.ref h0] : List Value).toArray s 29 21464 A) (F0 m 265 ls []) := by
  obtain ⟨μ1, μ2, μ3, μ4, μ5, μ6, μ7, e1, e2, e3, e4, e5, e6, e7, hI⟩ := mo_run
  subst h6
  have hx := X.1
  have hb := X.2.1
  refine lv_iconst (v := nI 0) hx hb zd_Mo_init_265 (by decide) ?_
  refine lv_istore_n (lv' := [(1, .int (nI 0)), (0, .ref (ad 306))]) hx hb zd_Mo_init_266 rfl hl (by decide) rfl (fun ls hl => ?_)
  refine lv_iload_n hx hb zd_Mo_init_267 rfl (lv_at hl 0 rfl) ?_
  refine lv_iconst (v := nI 5) hx hb zd_Mo_init_268 (by decide) ?_
  refine lv_icmp_gt (tgt := 286) hx hb zd_Mo_init_269 (by decide) (fun c_ => absurd c_ (by decide)) (fun _ => ?_)
  refine lv_aload_n hx hb zd_Mo_init_272 rfl (lv_at hl 1 rfl) ?_
  refine lv_iload_n hx hb zd_Mo_init_273 rfl (lv_at hl 0 rfl) ?_
  refine lv_iload_n hx hb zd_Mo_init_274 rfl (lv_at hl 0 rfl) ?_
  refine lv_iconst (v := nI 0) hx hb zd_Mo_init_275 (by decide) ?_
  refine lv_iconst (v := nI 0) hx hb zd_Mo_init_276 (by decide) ?_
  refine cR (c0 := 150) (k := 306) (as := [.int (nI 0), .int (nI 0), .int (nI 0), .int (nI 0)]) (B := 60) (rest := []) (st1 := []) X hK hN hAr hi hW hS (by decide) rfl (by decide) e1 (ci := 6) rfl (List.mem_range.mpr (by decide)) rfl zw850 rfl (Nat.le_of_ble_eq_true rfl) (Nat.le_of_ble_eq_true rfl) (Nat.le_of_ble_eq_true rfl) ⟨Nat.le_of_ble_eq_true rfl, Nat.le_of_ble_eq_true rfl⟩ hl.1 rfl (Nat.le_of_ble_eq_true rfl) zd_Mo_init_277 rfl (fun H locs hW hS => ?_)
  refine lv_iinc (v := nI 1) (lv' := [(1, .int (nI 1)), (0, .ref (ad 306))]) hx hb zd_Mo_init_280 hl (k := 0) rfl (by decide) (by decide) rfl (fun ls hl => ?_)
  refine lv_goto (tgt := 267) hx hb zd_Mo_init_283 (by decide) ?_
  refine lv_iload_n hx hb zd_Mo_init_267 rfl (lv_at hl 0 rfl) ?_
  refine lv_iconst (v := nI 5) hx hb zd_Mo_init_268 (by decide) ?_
  refine lv_icmp_gt (tgt := 286) hx hb zd_Mo_init_269 (by decide) (fun c_ => absurd c_ (by decide)) (fun _ => ?_)
  refine lv_aload_n hx hb zd_Mo_init_272 rfl (lv_at hl 1 rfl) ?_
  refine lv_iload_n hx hb zd_Mo_init_273 rfl (lv_at hl 0 rfl) ?_
  refine lv_iload_n hx hb zd_Mo_init_274 rfl (lv_at hl 0 rfl) ?_
  refine lv_iconst (v := nI 0) hx hb zd_Mo_init_275 (by decide) ?_
  refine lv_iconst (v := nI 0) hx hb zd_Mo_init_276 (by decide) ?_
  refine cR (c0 := 150) (k := 306) (as := [.int (nI 1), .int (nI 1), .int (nI 0), .int (nI 0)]) (B := 60) (rest := []) (st1 := []) X hK hN hAr hi hW hS (by decide) rfl (by decide) e2 (ci := 6) rfl (List.mem_range.mpr (by decide)) rfl zw850 rfl (Nat.le_of_ble_eq_true rfl) (Nat.le_of_ble_eq_true rfl) (Nat.le_of_ble_eq_true rfl) ⟨Nat.le_of_ble_eq_true rfl, Nat.le_of_ble_eq_true rfl⟩ hl.1 rfl (Nat.le_of_ble_eq_true rfl) zd_Mo_init_277 rfl (fun H locs hW hS => ?_)
  refine lv_iinc (v := nI 2) (lv' := [(1, .int (nI 2)), (0, .ref (ad 306))]) hx hb zd_Mo_init_280 hl (k := 0) rfl (by decide) (by decide) rfl (fun ls hl => ?_)
  refine lv_goto (tgt := 267) hx hb zd_Mo_init_283 (by decide) ?_
  refine lv_iload_n hx hb zd_Mo_init_267 rfl (lv_at hl 0 rfl) ?_
  refine lv_iconst (v := nI 5) hx hb zd_Mo_init_268 (by decide) ?_
  refine lv_icmp_gt (tgt := 286) hx hb zd_Mo_init_269 (by decide) (fun c_ => absurd c_ (by decide)) (fun _ => ?_)
  refine lv_aload_n hx hb zd_Mo_init_272 rfl (lv_at hl 1 rfl) ?_
  refine lv_iload_n hx hb zd_Mo_init_273 rfl (lv_at hl 0 rfl) ?_
  refine lv_iload_n hx hb zd_Mo_init_274 rfl (lv_at hl 0 rfl) ?_
  refine lv_iconst (v := nI 0) hx hb zd_Mo_init_275 (by decide) ?_
  refine lv_iconst (v := nI 0) hx hb zd_Mo_init_276 (by decide) ?_
  refine cR (c0 := 150) (k := 306) (as := [.int (nI 2), .int (nI 2), .int (nI 0), .int (nI 0)]) (B := 60) (rest := []) (st1 := []) X hK hN hAr hi hW hS (by decide) rfl (by decide) e3 (ci := 6) rfl (List.mem_range.mpr (by decide)) rfl zw850 rfl (Nat.le_of_ble_eq_true rfl) (Nat.le_of_ble_eq_true rfl) (Nat.le_of_ble_eq_true rfl) ⟨Nat.le_of_ble_eq_true rfl, Nat.le_of_ble_eq_true rfl⟩ hl.1 rfl (Nat.le_of_ble_eq_true rfl) zd_Mo_init_277 rfl (fun H locs hW hS => ?_)
  refine lv_iinc (v := nI 3) (lv' := [(1, .int (nI 3)), (0, .ref (ad 306))]) hx hb zd_Mo_init_280 hl (k := 0) rfl (by decide) (by decide) rfl (fun ls hl => ?_)
  refine lv_goto (tgt := 267) hx hb zd_Mo_init_283 (by decide) ?_
  refine lv_iload_n hx hb zd_Mo_init_267 rfl (lv_at hl 0 rfl) ?_
  refine lv_iconst (v := nI 5) hx hb zd_Mo_init_268 (by decide) ?_
  refine lv_icmp_gt (tgt := 286) hx hb zd_Mo_init_269 (by decide) (fun c_ => absurd c_ (by decide)) (fun _ => ?_)
  refine lv_aload_n hx hb zd_Mo_init_272 rfl (lv_at hl 1 rfl) ?_
  refine lv_iload_n hx hb zd_Mo_init_273 rfl (lv_at hl 0 rfl) ?_
  refine lv_iload_n hx hb zd_Mo_init_274 rfl (lv_at hl 0 rfl) ?_
  refine lv_iconst (v := nI 0) hx hb zd_Mo_init_275 (by decide) ?_
  refine lv_iconst (v := nI 0) hx hb zd_Mo_init_276 (by decide) ?_
  refine cR (c0 := 150) (k := 306) (as := [.int (nI 3), .int (nI 3), .int (nI 0), .int (nI 0)]) (B := 60) (rest := []) (st1 := []) X hK hN hAr hi hW hS (by decide) rfl (by decide) e4 (ci := 6) rfl (List.mem_range.mpr (by decide)) rfl zw850 rfl (Nat.le_of_ble_eq_true rfl) (Nat.le_of_ble_eq_true rfl) (Nat.le_of_ble_eq_true rfl) ⟨Nat.le_of_ble_eq_true rfl, Nat.le_of_ble_eq_true rfl⟩ hl.1 rfl (Nat.le_of_ble_eq_true rfl) zd_Mo_init_277 rfl (fun H locs hW hS => ?_)
  refine lv_iinc (v := nI 4) (lv' := [(1, .int (nI 4)), (0, .ref (ad 306))]) hx hb zd_Mo_init_280 hl (k := 0) rfl (by decide) (by decide) rfl (fun ls hl => ?_)
  refine lv_goto (tgt := 267) hx hb zd_Mo_init_283 (by decide) ?_
  refine lv_iload_n hx hb zd_Mo_init_267 rfl (lv_at hl 0 rfl) ?_
  refine lv_iconst (v := nI 5) hx hb zd_Mo_init_268 (by decide) ?_
  refine lv_icmp_gt (tgt := 286) hx hb zd_Mo_init_269 (by decide) (fun c_ => absurd c_ (by decide)) (fun _ => ?_)
  refine lv_aload_n hx hb zd_Mo_init_272 rfl (lv_at hl 1 rfl) ?_
  refine lv_iload_n hx hb zd_Mo_init_273 rfl (lv_at hl 0 rfl) ?_
  refine lv_iload_n hx hb zd_Mo_init_274 rfl (lv_at hl 0 rfl) ?_
  refine lv_iconst (v := nI 0) hx hb zd_Mo_init_275 (by decide) ?_
  refine lv_iconst (v := nI 0) hx hb zd_Mo_init_276 (by decide) ?_
  refine cR (c0 := 150) (k := 306) (as := [.int (nI 4), .int (nI 4), .int (nI 0), .int (nI 0)]) (B := 60) (rest := []) (st1 := []) X hK hN hAr hi hW hS (by decide) rfl (by decide) e5 (ci := 6) rfl (List.mem_range.mpr (by decide)) rfl zw850 rfl (Nat.le_of_ble_eq_true rfl) (Nat.le_of_ble_eq_true rfl) (Nat.le_of_ble_eq_true rfl) ⟨Nat.le_of_ble_eq_true rfl, Nat.le_of_ble_eq_true rfl⟩ hl.1 rfl (Nat.le_of_ble_eq_true rfl) zd_Mo_init_277 rfl (fun H locs hW hS => ?_)
  refine lv_iinc (v := nI 5) (lv' := [(1, .int (nI 5)), (0, .ref (ad 306))]) hx hb zd_Mo_init_280 hl (k := 0) rfl (by decide) (by decide) rfl (fun ls hl => ?_)
  refine lv_goto (tgt := 267) hx hb zd_Mo_init_283 (by decide) ?_
  refine lv_iload_n hx hb zd_Mo_init_267 rfl (lv_at hl 0 rfl) ?_
  refine lv_iconst (v := nI 5) hx hb zd_Mo_init_268 (by decide) ?_
  refine lv_icmp_gt (tgt := 286) hx hb zd_Mo_init_269 (by decide) (fun c_ => absurd c_ (by decide)) (fun _ => ?_)
  refine lv_aload_n hx hb zd_Mo_init_272 rfl (lv_at hl 1 rfl) ?_
  refine lv_iload_n hx hb zd_Mo_init_273 rfl (lv_at hl 0 rfl) ?_
  refine lv_iload_n hx hb zd_Mo_init_274 rfl (lv_at hl 0 rfl) ?_
  refine lv_iconst (v := nI 0) hx hb zd_Mo_init_275 (by decide) ?_
  refine lv_iconst (v := nI 0) hx hb zd_Mo_init_276 (by decide) ?_
  refine cR (c0 := 150) (k := 306) (as := [.int (nI 5), .int (nI 5), .int (nI 0), .int (nI 0)]) (B := 60) (rest := []) (st1 := []) X hK hN hAr hi hW hS (by decide) rfl (by decide) e6 (ci := 6) rfl (List.mem_range.mpr (by decide)) rfl zw850 rfl (Nat.le_of_ble_eq_true rfl) (Nat.le_of_ble_eq_true rfl) (Nat.le_of_ble_eq_true rfl) ⟨Nat.le_of_ble_eq_true rfl, Nat.le_of_ble_eq_true rfl⟩ hl.1 rfl (Nat.le_of_ble_eq_true rfl) zd_Mo_init_277 rfl (fun H locs hW hS => ?_)
  refine lv_iinc (v := nI 6) (lv' := [(1, .int (nI 6)), (0, .ref (ad 306))]) hx hb zd_Mo_init_280 hl (k := 0) rfl (by decide) (by decide) rfl (fun ls hl => ?_)
  refine lv_goto (tgt := 267) hx hb zd_Mo_init_283 (by decide) ?_
  refine lv_iload_n hx hb zd_Mo_init_267 rfl (lv_at hl 0 rfl) ?_
  refine lv_iconst (v := nI 5) hx hb zd_Mo_init_268 (by decide) ?_
  refine lv_icmp_gt (tgt := 286) hx hb zd_Mo_init_269 (by decide) (fun _ => ?_) (fun c_ => absurd (by decide) c_)
  refine lv_aload_n hx hb zd_Mo_init_286 rfl (lv_at hl 1 rfl) ?_
  refine cR (c0 := 163) (k := 306) (as := []) (B := 60) (rest := []) (st1 := []) X hK hN hAr hi hW hS (by decide) rfl (by decide) e7 (ci := 6) rfl (List.mem_range.mpr (by decide)) rfl zw854 rfl (Nat.le_of_ble_eq_true rfl) (Nat.le_of_ble_eq_true rfl) (Nat.le_of_ble_eq_true rfl) ⟨Nat.le_of_ble_eq_true rfl, Nat.le_of_ble_eq_true rfl⟩ hl.1 rfl (Nat.le_of_ble_eq_true rfl) zd_Mo_init_287 rfl (fun H locs hW hS => ?_)
  exact W.vret hx hb X.2.2.2.2.2.1 (fun t ht hW2 => ⟨⟨ad, rfl, ⟨rfl, had⟩, μ7, hI, by rw [ht]; exact hW, D_fst hDA ((wl_fst _ _).trans (wl_fst _ _).symm)⟩, hS.F ht⟩) hS.2.2 zd_Mo_init_290 X.2.2.2.2.2.2
set_option maxHeartbeats 4000000 in
theorem c_Mo_init (l : Launch) (D : va_G) (AC : Nat → ClassId) (h0 sz tn : Nat) (ad0 : Nat → Nat) : Met l ⟨"TypesInsideModel", "<init>", "()V"⟩ (ws_ ⟨"TypesInsideModel", "<init>", "()V"⟩ prog_11_method_2_code 2 none) ({ frames := 64, cells := 29, slots := 21464, locals := 4096 }) (va_Pc [.ref h0] (fun U => U.heap.size = sz ∧ va_P D cl ((h0, .inr (6, moF)) :: wl (rng 0 306) AC ad0 μz) U.heap ∧ K6 D AC U ∧ va_D (fun _ => True) ((h0, .inr (6, moF)) :: wl (rng 0 306) AC ad0 μz) ∧ Nst (va_A ((h0, .inr (6, moF)) :: wl (rng 0 306) AC ad0 μz) sz) tn U U.heap)) (va_Qv (fun ad : Nat → Nat => ad 306 = h0 ∧ ∀ k, k < 306 → ad k = ad0 k) (fun ad t => ∃ μ : Mm, Inv μ ∧ va_P D cl (wl kA AC ad μ) t.heap ∧ va_D (va_A ((h0, .inr (6, moF)) :: wl (rng 0 306) AC ad0 μz) sz) (wl kA AC ad μ)) (va_A ((h0, .inr (6, moF)) :: wl (rng 0 306) AC ad0 μz) sz)) 29 21464 (va_A ((h0, .inr (6, moF)) :: wl (rng 0 306) AC ad0 μz) sz) := by
  refine Met.ofW (cc := prog_11_method_2_code) (maxL := 2) (ret := none) (by decide) rfl ?_
  intro p e s m args below meth c s₁ B hml hv
  obtain ⟨rfl, hsz, hP, hK6, hD0, hN⟩ := hv
  have hK := hK6.1
  have hx := B.exec
  have hb := B.bytes
  have hr := B.returns
  have hts0 := atoms_spec (ws := ws_ ⟨"TypesInsideModel", "<init>", "()V"⟩ prog_11_method_2_code 2 none) B.pre
  have hts : ∀ w ∈ LW, w.before _ s = true := fun w hw => hts0 w (List.mem_cons_of_mem _ hw)
  have hown : s.vm.findClass "TypesInsideModel" = some m.cls := findClass_of_methodNamed B.named
  have hlocks := B.notSynchronized
  have hin : meth.name = "<init>" := (name_of_methodNamed B.named B.method).1
  subst hsz
  have hD := hD0.self (sz := s.heap.size)
  generalize hAe : va_A ((h0, .inr (6, moF)) :: wl (rng 0 306) AC ad0 μz) s.heap.size = A at hD hN ⊢
  have hA : ∀ q : Nat, s.heap.size ≤ q → A q := fun q h => by rw [← hAe]; exact Or.inr h
  have hS : va_S A s.heap s.heap [] := va_S.rf
  have hl := lv_entry ([.ref h0]) (n := 2) (Nat.le_of_ble_eq_true rfl)
  rw [lg_entry_eq]
  generalize (lg_sl ([.ref h0]) ++ List.replicate (2 - (lg_sl ([.ref h0])).length) Slot.unset).toArray = ls at hl ⊢
  have hl : lv_has ls 2 [(0, .ref h0)] := hl
  obtain ⟨T0, eT0⟩ : ∃ T : va_W, T = wl (rng 0 306) AC ad0 μz := ⟨_, rfl⟩
  have hP : va_P D cl ((h0, .inr (6, [.null, .null, .null, .int 0, .null, .null, .null, .null, .null, .null, .null, .int 0, .null, .null, .int 0, .int 0, .int 0, .null, .int 0, .null, .null, .int 0, .null, .int 0, .int 0, .int 0, .int 0, .int 0, .int 0, .null, .null, .null, .null, .null, .null, .null, .null, .null, .int 0, .int 0, .null, .null, .null, .null])) :: T0) s.heap := by rw [eT0]; exact hP
  have hD : va_D A ((h0, .inr (6, [.null, .null, .null, .int 0, .null, .null, .null, .null, .null, .null, .null, .int 0, .null, .null, .int 0, .int 0, .int 0, .null, .int 0, .null, .null, .int 0, .null, .int 0, .int 0, .int 0, .int 0, .int 0, .int 0, .null, .null, .null, .null, .null, .null, .null, .null, .null, .int 0, .int 0, .null, .null, .null, .null])) :: T0) := by rw [eT0]; exact hD
  refine lv_aload_n hx hb zd_Mo_init_0 rfl (lv_at hl 0 rfl) ?_
  refine W.objInit hx hb hown (hts _ zw849) (hts _ zw24) (hts _ zw25) rfl (by rw [hml]; exact hl.1) rfl zd_Mo_init_1 (Nat.le_of_ble_eq_true rfl) (Nat.le_of_ble_eq_true rfl) ?_
  refine W.eq (g2 := F0 m 4 ls []) rfl ?_
  refine lv_aload_n hx hb zd_Mo_init_4 rfl (lv_at hl 0 rfl) ?_
  refine lv_bipush (v := (19 : Int32)) hx hb zd_Mo_init_5 (by decide) ?_
  refine va_newa (atype := .int) (ty := .int) hx hb (hts _ zw100) rfl hK hP hD hS hA (n := 19) (N' := 19) (a0 := (19, .inl (fun _ => (0 : Int32)))) (fun _ => rfl) (by decide) (by decide) (Nat.le_of_ble_eq_true rfl) (Nat.le_of_ble_eq_true rfl) (Nat.le_of_ble_eq_true rfl) zd_Mo_init_7 (fun q1 cA H hK1 hP hD hS => ?_)
  obtain rfl := K_new 0 hK1 rfl
  obtain ⟨T1, eT1⟩ : ∃ T, T = T0 ++ [(q1, .inl (AC 0, 19, .inl (fun _ => (0 : Int32))))] := ⟨_, rfl⟩
  have hP : va_P D cl ((h0, .inr (6, [.null, .null, .null, .int 0, .null, .null, .null, .null, .null, .null, .null, .int 0, .null, .null, .int 0, .int 0, .int 0, .null, .int 0, .null, .null, .int 0, .null, .int 0, .int 0, .int 0, .int 0, .int 0, .int 0, .null, .null, .null, .null, .null, .null, .null, .null, .null, .int 0, .int 0, .null, .null, .null, .null])) :: T1) H := by rw [eT1]; exact hP
  have hD : va_D A ((h0, .inr (6, [.null, .null, .null, .int 0, .null, .null, .null, .null, .null, .null, .null, .int 0, .null, .null, .int 0, .int 0, .int 0, .null, .int 0, .null, .null, .int 0, .null, .int 0, .int 0, .int 0, .int 0, .int 0, .int 0, .null, .null, .null, .null, .null, .null, .null, .null, .null, .int 0, .int 0, .null, .null, .null, .null])) :: T1) := by rw [eT1]; exact hD
  refine va_putF (D := D) (ci := 6) (v := .ref q1) (C := "TypesInsideModel") (T := fT6) (N := 44) hx hb hts clw6 fY6 fYok6 zn6 hown hK hP hD hS 0 rfl rfl 0 (by decide) (hts _ zw858) (fun _ h9 => h9) rfl hin rfl (ty := fY6 0) (fYok6 0 (by decide)) rfl rfl (Nat.le_of_ble_eq_true rfl) zd_Mo_init_9 (fun H locs hP hD hS => ?_)
  have hP : va_P D cl ((h0, .inr (6, [.ref q1, .null, .null, .int 0, .null, .null, .null, .null, .null, .null, .null, .int 0, .null, .null, .int 0, .int 0, .int 0, .null, .int 0, .null, .null, .int 0, .null, .int 0, .int 0, .int 0, .int 0, .int 0, .int 0, .null, .null, .null, .null, .null, .null, .null, .null, .null, .int 0, .int 0, .null, .null, .null, .null])) :: T1) H := hP
  have hD : va_D A ((h0, .inr (6, [.ref q1, .null, .null, .int 0, .null, .null, .null, .null, .null, .null, .null, .int 0, .null, .null, .int 0, .int 0, .int 0, .null, .int 0, .null, .null, .int 0, .null, .int 0, .int 0, .int 0, .int 0, .int 0, .int 0, .null, .null, .null, .null, .null, .null, .null, .null, .null, .int 0, .int 0, .null, .null, .null, .null])) :: T1) := hD
  refine lv_aload_n hx hb zd_Mo_init_12 rfl (lv_at hl 0 rfl) ?_
  refine lv_bipush (v := (19 : Int32)) hx hb zd_Mo_init_13 (by decide) ?_
  refine va_newa (atype := .int) (ty := .int) hx hb (hts _ zw100) rfl hK hP hD hS hA (n := 19) (N' := 19) (a0 := (19, .inl (fun _ => (0 : Int32)))) (fun _ => rfl) (by decide) (by decide) (Nat.le_of_ble_eq_true rfl) (Nat.le_of_ble_eq_true rfl) (Nat.le_of_ble_eq_true rfl) zd_Mo_init_15 (fun q2 cA H hK1 hP hD hS => ?_)
  obtain rfl := K_new 0 hK1 rfl
  obtain ⟨T2, eT2⟩ : ∃ T, T = T1 ++ [(q2, .inl (AC 0, 19, .inl (fun _ => (0 : Int32))))] := ⟨_, rfl⟩
  have hP : va_P D cl ((h0, .inr (6, [.ref q1, .null, .null, .int 0, .null, .null, .null, .null, .null, .null, .null, .int 0, .null, .null, .int 0, .int 0, .int 0, .null, .int 0, .null, .null, .int 0, .null, .int 0, .int 0, .int 0, .int 0, .int 0, .int 0, .null, .null, .null, .null, .null, .null, .null, .null, .null, .int 0, .int 0, .null, .null, .null, .null])) :: T2) H := by rw [eT2]; exact hP
  have hD : va_D A ((h0, .inr (6, [.ref q1, .null, .null, .int 0, .null, .null, .null, .null, .null, .null, .null, .int 0, .null, .null, .int 0, .int 0, .int 0, .null, .int 0, .null, .null, .int 0, .null, .int 0, .int 0, .int 0, .int 0, .int 0, .int 0, .null, .null, .null, .null, .null, .null, .null, .null, .null, .int 0, .int 0, .null, .null, .null, .null])) :: T2) := by rw [eT2]; exact hD
  refine va_putF (D := D) (ci := 6) (v := .ref q2) (C := "TypesInsideModel") (T := fT6) (N := 44) hx hb hts clw6 fY6 fYok6 zn6 hown hK hP hD hS 0 rfl rfl 1 (by decide) (hts _ zw859) (fun _ h9 => h9) rfl hin rfl (ty := fY6 1) (fYok6 1 (by decide)) rfl rfl (Nat.le_of_ble_eq_true rfl) zd_Mo_init_17 (fun H locs hP hD hS => ?_)
  have hP : va_P D cl ((h0, .inr (6, [.ref q1, .ref q2, .null, .int 0, .null, .null, .null, .null, .null, .null, .null, .int 0, .null, .null, .int 0, .int 0, .int 0, .null, .int 0, .null, .null, .int 0, .null, .int 0, .int 0, .int 0, .int 0, .int 0, .int 0, .null, .null, .null, .null, .null, .null, .null, .null, .null, .int 0, .int 0, .null, .null, .null, .null])) :: T2) H := hP
  have hD : va_D A ((h0, .inr (6, [.ref q1, .ref q2, .null, .int 0, .null, .null, .null, .null, .null, .null, .null, .int 0, .null, .null, .int 0, .int 0, .int 0, .null, .int 0, .null, .null, .int 0, .null, .int 0, .int 0, .int 0, .int 0, .int 0, .int 0, .null, .null, .null, .null, .null, .null, .null, .null, .null, .int 0, .int 0, .null, .null, .null, .null])) :: T2) := hD
  refine lv_aload_n hx hb zd_Mo_init_20 rfl (lv_at hl 0 rfl) ?_
  refine lv_sipush (v := (133 : Int32)) hx hb zd_Mo_init_21 (by decide) ?_
  refine va_newa (atype := .int) (ty := .int) hx hb (hts _ zw100) rfl hK hP hD hS hA (n := 133) (N' := 133) (a0 := (133, .inl (fun _ => (0 : Int32)))) (fun _ => rfl) (by decide) (by decide) (Nat.le_of_ble_eq_true rfl) (Nat.le_of_ble_eq_true rfl) (Nat.le_of_ble_eq_true rfl) zd_Mo_init_24 (fun q3 cA H hK1 hP hD hS => ?_)
  obtain rfl := K_new 0 hK1 rfl
  obtain ⟨T3, eT3⟩ : ∃ T, T = T2 ++ [(q3, .inl (AC 0, 133, .inl (fun _ => (0 : Int32))))] := ⟨_, rfl⟩
  have hP : va_P D cl ((h0, .inr (6, [.ref q1, .ref q2, .null, .int 0, .null, .null, .null, .null, .null, .null, .null, .int 0, .null, .null, .int 0, .int 0, .int 0, .null, .int 0, .null, .null, .int 0, .null, .int 0, .int 0, .int 0, .int 0, .int 0, .int 0, .null, .null, .null, .null, .null, .null, .null, .null, .null, .int 0, .int 0, .null, .null, .null, .null])) :: T3) H := by rw [eT3]; exact hP
  have hD : va_D A ((h0, .inr (6, [.ref q1, .ref q2, .null, .int 0, .null, .null, .null, .null, .null, .null, .null, .int 0, .null, .null, .int 0, .int 0, .int 0, .null, .int 0, .null, .null, .int 0, .null, .int 0, .int 0, .int 0, .int 0, .int 0, .int 0, .null, .null, .null, .null, .null, .null, .null, .null, .null, .int 0, .int 0, .null, .null, .null, .null])) :: T3) := by rw [eT3]; exact hD
  refine va_putF (D := D) (ci := 6) (v := .ref q3) (C := "TypesInsideModel") (T := fT6) (N := 44) hx hb hts clw6 fY6 fYok6 zn6 hown hK hP hD hS 0 rfl rfl 2 (by decide) (hts _ zw860) (fun _ h9 => h9) rfl hin rfl (ty := fY6 2) (fYok6 2 (by decide)) rfl rfl (Nat.le_of_ble_eq_true rfl) zd_Mo_init_26 (fun H locs hP hD hS => ?_)
  have hP : va_P D cl ((h0, .inr (6, [.ref q1, .ref q2, .ref q3, .int 0, .null, .null, .null, .null, .null, .null, .null, .int 0, .null, .null, .int 0, .int 0, .int 0, .null, .int 0, .null, .null, .int 0, .null, .int 0, .int 0, .int 0, .int 0, .int 0, .int 0, .null, .null, .null, .null, .null, .null, .null, .null, .null, .int 0, .int 0, .null, .null, .null, .null])) :: T3) H := hP
  have hD : va_D A ((h0, .inr (6, [.ref q1, .ref q2, .ref q3, .int 0, .null, .null, .null, .null, .null, .null, .null, .int 0, .null, .null, .int 0, .int 0, .int 0, .null, .int 0, .null, .null, .int 0, .null, .int 0, .int 0, .int 0, .int 0, .int 0, .int 0, .null, .null, .null, .null, .null, .null, .null, .null, .null, .int 0, .int 0, .null, .null, .null, .null])) :: T3) := hD
  refine lv_aload_n hx hb zd_Mo_init_29 rfl (lv_at hl 0 rfl) ?_
  refine lv_bipush (v := (31 : Int32)) hx hb zd_Mo_init_30 (by decide) ?_
  refine va_newa (atype := .long) (ty := .long) hx hb (hts _ zw53) rfl hK hP hD hS hA (n := 31) (N' := 31) (a0 := (31, .inr (.inl (fun _ => (0 : Int64))))) (fun _ => rfl) (by decide) (by decide) (Nat.le_of_ble_eq_true rfl) (Nat.le_of_ble_eq_true rfl) (Nat.le_of_ble_eq_true rfl) zd_Mo_init_32 (fun q4 cA H hK1 hP hD hS => ?_)
  obtain rfl := K_new 1 hK1 rfl
  obtain ⟨T4, eT4⟩ : ∃ T, T = T3 ++ [(q4, .inl (AC 1, 31, .inr (.inl (fun _ => (0 : Int64)))))] := ⟨_, rfl⟩
  have hP : va_P D cl ((h0, .inr (6, [.ref q1, .ref q2, .ref q3, .int 0, .null, .null, .null, .null, .null, .null, .null, .int 0, .null, .null, .int 0, .int 0, .int 0, .null, .int 0, .null, .null, .int 0, .null, .int 0, .int 0, .int 0, .int 0, .int 0, .int 0, .null, .null, .null, .null, .null, .null, .null, .null, .null, .int 0, .int 0, .null, .null, .null, .null])) :: T4) H := by rw [eT4]; exact hP
  have hD : va_D A ((h0, .inr (6, [.ref q1, .ref q2, .ref q3, .int 0, .null, .null, .null, .null, .null, .null, .null, .int 0, .null, .null, .int 0, .int 0, .int 0, .null, .int 0, .null, .null, .int 0, .null, .int 0, .int 0, .int 0, .int 0, .int 0, .int 0, .null, .null, .null, .null, .null, .null, .null, .null, .null, .int 0, .int 0, .null, .null, .null, .null])) :: T4) := by rw [eT4]; exact hD
  refine va_putF (D := D) (ci := 6) (v := .ref q4) (C := "TypesInsideModel") (T := fT6) (N := 44) hx hb hts clw6 fY6 fYok6 zn6 hown hK hP hD hS 0 rfl rfl 4 (by decide) (hts _ zw862) (fun _ h9 => h9) rfl hin rfl (ty := fY6 4) (fYok6 4 (by decide)) rfl rfl (Nat.le_of_ble_eq_true rfl) zd_Mo_init_34 (fun H locs hP hD hS => ?_)
  have hP : va_P D cl ((h0, .inr (6, [.ref q1, .ref q2, .ref q3, .int 0, .ref q4, .null, .null, .null, .null, .null, .null, .int 0, .null, .null, .int 0, .int 0, .int 0, .null, .int 0, .null, .null, .int 0, .null, .int 0, .int 0, .int 0, .int 0, .int 0, .int 0, .null, .null, .null, .null, .null, .null, .null, .null, .null, .int 0, .int 0, .null, .null, .null, .null])) :: T4) H := hP
  have hD : va_D A ((h0, .inr (6, [.ref q1, .ref q2, .ref q3, .int 0, .ref q4, .null, .null, .null, .null, .null, .null, .int 0, .null, .null, .int 0, .int 0, .int 0, .null, .int 0, .null, .null, .int 0, .null, .int 0, .int 0, .int 0, .int 0, .int 0, .int 0, .null, .null, .null, .null, .null, .null, .null, .null, .null, .int 0, .int 0, .null, .null, .null, .null])) :: T4) := hD
  refine lv_aload_n hx hb zd_Mo_init_37 rfl (lv_at hl 0 rfl) ?_
  refine lv_bipush (v := (31 : Int32)) hx hb zd_Mo_init_38 (by decide) ?_
  refine va_newa (atype := .long) (ty := .long) hx hb (hts _ zw53) rfl hK hP hD hS hA (n := 31) (N' := 31) (a0 := (31, .inr (.inl (fun _ => (0 : Int64))))) (fun _ => rfl) (by decide) (by decide) (Nat.le_of_ble_eq_true rfl) (Nat.le_of_ble_eq_true rfl) (Nat.le_of_ble_eq_true rfl) zd_Mo_init_40 (fun q5 cA H hK1 hP hD hS => ?_)
  obtain rfl := K_new 1 hK1 rfl
  obtain ⟨T5, eT5⟩ : ∃ T, T = T4 ++ [(q5, .inl (AC 1, 31, .inr (.inl (fun _ => (0 : Int64)))))] := ⟨_, rfl⟩
  have hP : va_P D cl ((h0, .inr (6, [.ref q1, .ref q2, .ref q3, .int 0, .ref q4, .null, .null, .null, .null, .null, .null, .int 0, .null, .null, .int 0, .int 0, .int 0, .null, .int 0, .null, .null, .int 0, .null, .int 0, .int 0, .int 0, .int 0, .int 0, .int 0, .null, .null, .null, .null, .null, .null, .null, .null, .null, .int 0, .int 0, .null, .null, .null, .null])) :: T5) H := by rw [eT5]; exact hP
  have hD : va_D A ((h0, .inr (6, [.ref q1, .ref q2, .ref q3, .int 0, .ref q4, .null, .null, .null, .null, .null, .null, .int 0, .null, .null, .int 0, .int 0, .int 0, .null, .int 0, .null, .null, .int 0, .null, .int 0, .int 0, .int 0, .int 0, .int 0, .int 0, .null, .null, .null, .null, .null, .null, .null, .null, .null, .int 0, .int 0, .null, .null, .null, .null])) :: T5) := by rw [eT5]; exact hD
  refine va_putF (D := D) (ci := 6) (v := .ref q5) (C := "TypesInsideModel") (T := fT6) (N := 44) hx hb hts clw6 fY6 fYok6 zn6 hown hK hP hD hS 0 rfl rfl 5 (by decide) (hts _ zw863) (fun _ h9 => h9) rfl hin rfl (ty := fY6 5) (fYok6 5 (by decide)) rfl rfl (Nat.le_of_ble_eq_true rfl) zd_Mo_init_42 (fun H locs hP hD hS => ?_)
  have hP : va_P D cl ((h0, .inr (6, [.ref q1, .ref q2, .ref q3, .int 0, .ref q4, .ref q5, .null, .null, .null, .null, .null, .int 0, .null, .null, .int 0, .int 0, .int 0, .null, .int 0, .null, .null, .int 0, .null, .int 0, .int 0, .int 0, .int 0, .int 0, .int 0, .null, .null, .null, .null, .null, .null, .null, .null, .null, .int 0, .int 0, .null, .null, .null, .null])) :: T5) H := hP
  have hD : va_D A ((h0, .inr (6, [.ref q1, .ref q2, .ref q3, .int 0, .ref q4, .ref q5, .null, .null, .null, .null, .null, .int 0, .null, .null, .int 0, .int 0, .int 0, .null, .int 0, .null, .null, .int 0, .null, .int 0, .int 0, .int 0, .int 0, .int 0, .int 0, .null, .null, .null, .null, .null, .null, .null, .null, .null, .int 0, .int 0, .null, .null, .null, .null])) :: T5) := hD
  refine lv_aload_n hx hb zd_Mo_init_45 rfl (lv_at hl 0 rfl) ?_
  refine lv_sipush (v := (1116 : Int32)) hx hb zd_Mo_init_46 (by decide) ?_
  refine va_newa (atype := .long) (ty := .long) hx hb (hts _ zw53) rfl hK hP hD hS hA (n := 1116) (N' := 1116) (a0 := (1116, .inr (.inl (fun _ => (0 : Int64))))) (fun _ => rfl) (by decide) (by decide) (Nat.le_of_ble_eq_true rfl) (Nat.le_of_ble_eq_true rfl) (Nat.le_of_ble_eq_true rfl) zd_Mo_init_49 (fun q6 cA H hK1 hP hD hS => ?_)
  obtain rfl := K_new 1 hK1 rfl
  obtain ⟨T6, eT6⟩ : ∃ T, T = T5 ++ [(q6, .inl (AC 1, 1116, .inr (.inl (fun _ => (0 : Int64)))))] := ⟨_, rfl⟩
  have hP : va_P D cl ((h0, .inr (6, [.ref q1, .ref q2, .ref q3, .int 0, .ref q4, .ref q5, .null, .null, .null, .null, .null, .int 0, .null, .null, .int 0, .int 0, .int 0, .null, .int 0, .null, .null, .int 0, .null, .int 0, .int 0, .int 0, .int 0, .int 0, .int 0, .null, .null, .null, .null, .null, .null, .null, .null, .null, .int 0, .int 0, .null, .null, .null, .null])) :: T6) H := by rw [eT6]; exact hP
  have hD : va_D A ((h0, .inr (6, [.ref q1, .ref q2, .ref q3, .int 0, .ref q4, .ref q5, .null, .null, .null, .null, .null, .int 0, .null, .null, .int 0, .int 0, .int 0, .null, .int 0, .null, .null, .int 0, .null, .int 0, .int 0, .int 0, .int 0, .int 0, .int 0, .null, .null, .null, .null, .null, .null, .null, .null, .null, .int 0, .int 0, .null, .null, .null, .null])) :: T6) := by rw [eT6]; exact hD
  refine va_putF (D := D) (ci := 6) (v := .ref q6) (C := "TypesInsideModel") (T := fT6) (N := 44) hx hb hts clw6 fY6 fYok6 zn6 hown hK hP hD hS 0 rfl rfl 6 (by decide) (hts _ zw864) (fun _ h9 => h9) rfl hin rfl (ty := fY6 6) (fYok6 6 (by decide)) rfl rfl (Nat.le_of_ble_eq_true rfl) zd_Mo_init_51 (fun H locs hP hD hS => ?_)
  have hP : va_P D cl ((h0, .inr (6, [.ref q1, .ref q2, .ref q3, .int 0, .ref q4, .ref q5, .ref q6, .null, .null, .null, .null, .int 0, .null, .null, .int 0, .int 0, .int 0, .null, .int 0, .null, .null, .int 0, .null, .int 0, .int 0, .int 0, .int 0, .int 0, .int 0, .null, .null, .null, .null, .null, .null, .null, .null, .null, .int 0, .int 0, .null, .null, .null, .null])) :: T6) H := hP
  have hD : va_D A ((h0, .inr (6, [.ref q1, .ref q2, .ref q3, .int 0, .ref q4, .ref q5, .ref q6, .null, .null, .null, .null, .int 0, .null, .null, .int 0, .int 0, .int 0, .null, .int 0, .null, .null, .int 0, .null, .int 0, .int 0, .int 0, .int 0, .int 0, .int 0, .null, .null, .null, .null, .null, .null, .null, .null, .null, .int 0, .int 0, .null, .null, .null, .null])) :: T6) := hD
  refine lv_aload_n hx hb zd_Mo_init_54 rfl (lv_at hl 0 rfl) ?_
  refine lv_sipush (v := (11191 : Int32)) hx hb zd_Mo_init_55 (by decide) ?_
  refine va_newa (atype := .long) (ty := .long) hx hb (hts _ zw53) rfl hK hP hD hS hA (n := 11191) (N' := 11191) (a0 := (11191, .inr (.inl (fun _ => (0 : Int64))))) (fun _ => rfl) (by decide) (by decide) (Nat.le_of_ble_eq_true rfl) (Nat.le_of_ble_eq_true rfl) (Nat.le_of_ble_eq_true rfl) zd_Mo_init_58 (fun q7 cA H hK1 hP hD hS => ?_)
  obtain rfl := K_new 1 hK1 rfl
  obtain ⟨T7, eT7⟩ : ∃ T, T = T6 ++ [(q7, .inl (AC 1, 11191, .inr (.inl (fun _ => (0 : Int64)))))] := ⟨_, rfl⟩
  have hP : va_P D cl ((h0, .inr (6, [.ref q1, .ref q2, .ref q3, .int 0, .ref q4, .ref q5, .ref q6, .null, .null, .null, .null, .int 0, .null, .null, .int 0, .int 0, .int 0, .null, .int 0, .null, .null, .int 0, .null, .int 0, .int 0, .int 0, .int 0, .int 0, .int 0, .null, .null, .null, .null, .null, .null, .null, .null, .null, .int 0, .int 0, .null, .null, .null, .null])) :: T7) H := by rw [eT7]; exact hP
  have hD : va_D A ((h0, .inr (6, [.ref q1, .ref q2, .ref q3, .int 0, .ref q4, .ref q5, .ref q6, .null, .null, .null, .null, .int 0, .null, .null, .int 0, .int 0, .int 0, .null, .int 0, .null, .null, .int 0, .null, .int 0, .int 0, .int 0, .int 0, .int 0, .int 0, .null, .null, .null, .null, .null, .null, .null, .null, .null, .int 0, .int 0, .null, .null, .null, .null])) :: T7) := by rw [eT7]; exact hD
  refine va_putF (D := D) (ci := 6) (v := .ref q7) (C := "TypesInsideModel") (T := fT6) (N := 44) hx hb hts clw6 fY6 fYok6 zn6 hown hK hP hD hS 0 rfl rfl 7 (by decide) (hts _ zw865) (fun _ h9 => h9) rfl hin rfl (ty := fY6 7) (fYok6 7 (by decide)) rfl rfl (Nat.le_of_ble_eq_true rfl) zd_Mo_init_60 (fun H locs hP hD hS => ?_)
  have hP : va_P D cl ((h0, .inr (6, [.ref q1, .ref q2, .ref q3, .int 0, .ref q4, .ref q5, .ref q6, .ref q7, .null, .null, .null, .int 0, .null, .null, .int 0, .int 0, .int 0, .null, .int 0, .null, .null, .int 0, .null, .int 0, .int 0, .int 0, .int 0, .int 0, .int 0, .null, .null, .null, .null, .null, .null, .null, .null, .null, .int 0, .int 0, .null, .null, .null, .null])) :: T7) H := hP
  have hD : va_D A ((h0, .inr (6, [.ref q1, .ref q2, .ref q3, .int 0, .ref q4, .ref q5, .ref q6, .ref q7, .null, .null, .null, .int 0, .null, .null, .int 0, .int 0, .int 0, .null, .int 0, .null, .null, .int 0, .null, .int 0, .int 0, .int 0, .int 0, .int 0, .int 0, .null, .null, .null, .null, .null, .null, .null, .null, .null, .int 0, .int 0, .null, .null, .null, .null])) :: T7) := hD
  refine lv_aload_n hx hb zd_Mo_init_63 rfl (lv_at hl 0 rfl) ?_
  refine lv_sipush (v := (589 : Int32)) hx hb zd_Mo_init_64 (by decide) ?_
  refine va_newa (atype := .long) (ty := .long) hx hb (hts _ zw53) rfl hK hP hD hS hA (n := 589) (N' := 589) (a0 := (589, .inr (.inl (fun _ => (0 : Int64))))) (fun _ => rfl) (by decide) (by decide) (Nat.le_of_ble_eq_true rfl) (Nat.le_of_ble_eq_true rfl) (Nat.le_of_ble_eq_true rfl) zd_Mo_init_67 (fun q8 cA H hK1 hP hD hS => ?_)
  obtain rfl := K_new 1 hK1 rfl
  obtain ⟨T8, eT8⟩ : ∃ T, T = T7 ++ [(q8, .inl (AC 1, 589, .inr (.inl (fun _ => (0 : Int64)))))] := ⟨_, rfl⟩
  have hP : va_P D cl ((h0, .inr (6, [.ref q1, .ref q2, .ref q3, .int 0, .ref q4, .ref q5, .ref q6, .ref q7, .null, .null, .null, .int 0, .null, .null, .int 0, .int 0, .int 0, .null, .int 0, .null, .null, .int 0, .null, .int 0, .int 0, .int 0, .int 0, .int 0, .int 0, .null, .null, .null, .null, .null, .null, .null, .null, .null, .int 0, .int 0, .null, .null, .null, .null])) :: T8) H := by rw [eT8]; exact hP
  have hD : va_D A ((h0, .inr (6, [.ref q1, .ref q2, .ref q3, .int 0, .ref q4, .ref q5, .ref q6, .ref q7, .null, .null, .null, .int 0, .null, .null, .int 0, .int 0, .int 0, .null, .int 0, .null, .null, .int 0, .null, .int 0, .int 0, .int 0, .int 0, .int 0, .int 0, .null, .null, .null, .null, .null, .null, .null, .null, .null, .int 0, .int 0, .null, .null, .null, .null])) :: T8) := by rw [eT8]; exact hD
  refine va_putF (D := D) (ci := 6) (v := .ref q8) (C := "TypesInsideModel") (T := fT6) (N := 44) hx hb hts clw6 fY6 fYok6 zn6 hown hK hP hD hS 0 rfl rfl 8 (by decide) (hts _ zw866) (fun _ h9 => h9) rfl hin rfl (ty := fY6 8) (fYok6 8 (by decide)) rfl rfl (Nat.le_of_ble_eq_true rfl) zd_Mo_init_69 (fun H locs hP hD hS => ?_)
  have hP : va_P D cl ((h0, .inr (6, [.ref q1, .ref q2, .ref q3, .int 0, .ref q4, .ref q5, .ref q6, .ref q7, .ref q8, .null, .null, .int 0, .null, .null, .int 0, .int 0, .int 0, .null, .int 0, .null, .null, .int 0, .null, .int 0, .int 0, .int 0, .int 0, .int 0, .int 0, .null, .null, .null, .null, .null, .null, .null, .null, .null, .int 0, .int 0, .null, .null, .null, .null])) :: T8) H := hP
  have hD : va_D A ((h0, .inr (6, [.ref q1, .ref q2, .ref q3, .int 0, .ref q4, .ref q5, .ref q6, .ref q7, .ref q8, .null, .null, .int 0, .null, .null, .int 0, .int 0, .int 0, .null, .int 0, .null, .null, .int 0, .null, .int 0, .int 0, .int 0, .int 0, .int 0, .int 0, .null, .null, .null, .null, .null, .null, .null, .null, .null, .int 0, .int 0, .null, .null, .null, .null])) :: T8) := hD
  refine lv_aload_n hx hb zd_Mo_init_72 rfl (lv_at hl 0 rfl) ?_
  refine lv_sipush (v := (589 : Int32)) hx hb zd_Mo_init_73 (by decide) ?_
  refine va_newa (atype := .long) (ty := .long) hx hb (hts _ zw53) rfl hK hP hD hS hA (n := 589) (N' := 589) (a0 := (589, .inr (.inl (fun _ => (0 : Int64))))) (fun _ => rfl) (by decide) (by decide) (Nat.le_of_ble_eq_true rfl) (Nat.le_of_ble_eq_true rfl) (Nat.le_of_ble_eq_true rfl) zd_Mo_init_76 (fun q9 cA H hK1 hP hD hS => ?_)
  obtain rfl := K_new 1 hK1 rfl
  obtain ⟨T9, eT9⟩ : ∃ T, T = T8 ++ [(q9, .inl (AC 1, 589, .inr (.inl (fun _ => (0 : Int64)))))] := ⟨_, rfl⟩
  have hP : va_P D cl ((h0, .inr (6, [.ref q1, .ref q2, .ref q3, .int 0, .ref q4, .ref q5, .ref q6, .ref q7, .ref q8, .null, .null, .int 0, .null, .null, .int 0, .int 0, .int 0, .null, .int 0, .null, .null, .int 0, .null, .int 0, .int 0, .int 0, .int 0, .int 0, .int 0, .null, .null, .null, .null, .null, .null, .null, .null, .null, .int 0, .int 0, .null, .null, .null, .null])) :: T9) H := by rw [eT9]; exact hP
  have hD : va_D A ((h0, .inr (6, [.ref q1, .ref q2, .ref q3, .int 0, .ref q4, .ref q5, .ref q6, .ref q7, .ref q8, .null, .null, .int 0, .null, .null, .int 0, .int 0, .int 0, .null, .int 0, .null, .null, .int 0, .null, .int 0, .int 0, .int 0, .int 0, .int 0, .int 0, .null, .null, .null, .null, .null, .null, .null, .null, .null, .int 0, .int 0, .null, .null, .null, .null])) :: T9) := by rw [eT9]; exact hD
  refine va_putF (D := D) (ci := 6) (v := .ref q9) (C := "TypesInsideModel") (T := fT6) (N := 44) hx hb hts clw6 fY6 fYok6 zn6 hown hK hP hD hS 0 rfl rfl 9 (by decide) (hts _ zw867) (fun _ h9 => h9) rfl hin rfl (ty := fY6 9) (fYok6 9 (by decide)) rfl rfl (Nat.le_of_ble_eq_true rfl) zd_Mo_init_78 (fun H locs hP hD hS => ?_)
  have hP : va_P D cl ((h0, .inr (6, [.ref q1, .ref q2, .ref q3, .int 0, .ref q4, .ref q5, .ref q6, .ref q7, .ref q8, .ref q9, .null, .int 0, .null, .null, .int 0, .int 0, .int 0, .null, .int 0, .null, .null, .int 0, .null, .int 0, .int 0, .int 0, .int 0, .int 0, .int 0, .null, .null, .null, .null, .null, .null, .null, .null, .null, .int 0, .int 0, .null, .null, .null, .null])) :: T9) H := hP
  have hD : va_D A ((h0, .inr (6, [.ref q1, .ref q2, .ref q3, .int 0, .ref q4, .ref q5, .ref q6, .ref q7, .ref q8, .ref q9, .null, .int 0, .null, .null, .int 0, .int 0, .int 0, .null, .int 0, .null, .null, .int 0, .null, .int 0, .int 0, .int 0, .int 0, .int 0, .int 0, .null, .null, .null, .null, .null, .null, .null, .null, .null, .int 0, .int 0, .null, .null, .null, .null])) :: T9) := hD
  refine lv_aload_n hx hb zd_Mo_init_81 rfl (lv_at hl 0 rfl) ?_
  refine lv_sipush (v := (589 : Int32)) hx hb zd_Mo_init_82 (by decide) ?_
  refine va_newa (atype := .long) (ty := .long) hx hb (hts _ zw53) rfl hK hP hD hS hA (n := 589) (N' := 589) (a0 := (589, .inr (.inl (fun _ => (0 : Int64))))) (fun _ => rfl) (by decide) (by decide) (Nat.le_of_ble_eq_true rfl) (Nat.le_of_ble_eq_true rfl) (Nat.le_of_ble_eq_true rfl) zd_Mo_init_85 (fun q10 cA H hK1 hP hD hS => ?_)
  obtain rfl := K_new 1 hK1 rfl
  obtain ⟨T10, eT10⟩ : ∃ T, T = T9 ++ [(q10, .inl (AC 1, 589, .inr (.inl (fun _ => (0 : Int64)))))] := ⟨_, rfl⟩
  have hP : va_P D cl ((h0, .inr (6, [.ref q1, .ref q2, .ref q3, .int 0, .ref q4, .ref q5, .ref q6, .ref q7, .ref q8, .ref q9, .null, .int 0, .null, .null, .int 0, .int 0, .int 0, .null, .int 0, .null, .null, .int 0, .null, .int 0, .int 0, .int 0, .int 0, .int 0, .int 0, .null, .null, .null, .null, .null, .null, .null, .null, .null, .int 0, .int 0, .null, .null, .null, .null])) :: T10) H := by rw [eT10]; exact hP
  have hD : va_D A ((h0, .inr (6, [.ref q1, .ref q2, .ref q3, .int 0, .ref q4, .ref q5, .ref q6, .ref q7, .ref q8, .ref q9, .null, .int 0, .null, .null, .int 0, .int 0, .int 0, .null, .int 0, .null, .null, .int 0, .null, .int 0, .int 0, .int 0, .int 0, .int 0, .int 0, .null, .null, .null, .null, .null, .null, .null, .null, .null, .int 0, .int 0, .null, .null, .null, .null])) :: T10) := by rw [eT10]; exact hD
  refine va_putF (D := D) (ci := 6) (v := .ref q10) (C := "TypesInsideModel") (T := fT6) (N := 44) hx hb hts clw6 fY6 fYok6 zn6 hown hK hP hD hS 0 rfl rfl 10 (by decide) (hts _ zw868) (fun _ h9 => h9) rfl hin rfl (ty := fY6 10) (fYok6 10 (by decide)) rfl rfl (Nat.le_of_ble_eq_true rfl) zd_Mo_init_87 (fun H locs hP hD hS => ?_)
  have hP : va_P D cl ((h0, .inr (6, [.ref q1, .ref q2, .ref q3, .int 0, .ref q4, .ref q5, .ref q6, .ref q7, .ref q8, .ref q9, .ref q10, .int 0, .null, .null, .int 0, .int 0, .int 0, .null, .int 0, .null, .null, .int 0, .null, .int 0, .int 0, .int 0, .int 0, .int 0, .int 0, .null, .null, .null, .null, .null, .null, .null, .null, .null, .int 0, .int 0, .null, .null, .null, .null])) :: T10) H := hP
  have hD : va_D A ((h0, .inr (6, [.ref q1, .ref q2, .ref q3, .int 0, .ref q4, .ref q5, .ref q6, .ref q7, .ref q8, .ref q9, .ref q10, .int 0, .null, .null, .int 0, .int 0, .int 0, .null, .int 0, .null, .null, .int 0, .null, .int 0, .int 0, .int 0, .int 0, .int 0, .int 0, .null, .null, .null, .null, .null, .null, .null, .null, .null, .int 0, .int 0, .null, .null, .null, .null])) :: T10) := hD
  refine lv_aload_n hx hb zd_Mo_init_90 rfl (lv_at hl 0 rfl) ?_
  refine lv_iconst (v := (-1 : Int32)) hx hb zd_Mo_init_91 (by decide) ?_
  refine va_put (D := D) (ci := 6) (v := .int (-1 : Int32)) (C := "TypesInsideModel") (T := fT6) (N := 44) hx hb hts clw6 fY6 fYok6 zn6 hown hK hP hD hS 0 rfl rfl 11 (by decide) (hts _ zw869) (fun _ h9 => h9) rfl (ty := fY6 11) (fYok6 11 (by decide)) rfl rfl (Nat.le_of_ble_eq_true rfl) zd_Mo_init_92 (fun H locs hP hD hS => ?_)
  have hP : va_P D cl ((h0, .inr (6, [.ref q1, .ref q2, .ref q3, .int 0, .ref q4, .ref q5, .ref q6, .ref q7, .ref q8, .ref q9, .ref q10, .int (-1 : Int32), .null, .null, .int 0, .int 0, .int 0, .null, .int 0, .null, .null, .int 0, .null, .int 0, .int 0, .int 0, .int 0, .int 0, .int 0, .null, .null, .null, .null, .null, .null, .null, .null, .null, .int 0, .int 0, .null, .null, .null, .null])) :: T10) H := hP
  have hD : va_D A ((h0, .inr (6, [.ref q1, .ref q2, .ref q3, .int 0, .ref q4, .ref q5, .ref q6, .ref q7, .ref q8, .ref q9, .ref q10, .int (-1 : Int32), .null, .null, .int 0, .int 0, .int 0, .null, .int 0, .null, .null, .int 0, .null, .int 0, .int 0, .int 0, .int 0, .int 0, .int 0, .null, .null, .null, .null, .null, .null, .null, .null, .null, .int 0, .int 0, .null, .null, .null, .null])) :: T10) := hD
  refine lv_aload_n hx hb zd_Mo_init_95 rfl (lv_at hl 0 rfl) ?_
  refine lv_bipush (v := (31 : Int32)) hx hb zd_Mo_init_96 (by decide) ?_
  refine va_newa (atype := .long) (ty := .long) hx hb (hts _ zw53) rfl hK hP hD hS hA (n := 31) (N' := 31) (a0 := (31, .inr (.inl (fun _ => (0 : Int64))))) (fun _ => rfl) (by decide) (by decide) (Nat.le_of_ble_eq_true rfl) (Nat.le_of_ble_eq_true rfl) (Nat.le_of_ble_eq_true rfl) zd_Mo_init_98 (fun q11 cA H hK1 hP hD hS => ?_)
  obtain rfl := K_new 1 hK1 rfl
  obtain ⟨T11, eT11⟩ : ∃ T, T = T10 ++ [(q11, .inl (AC 1, 31, .inr (.inl (fun _ => (0 : Int64)))))] := ⟨_, rfl⟩
  have hP : va_P D cl ((h0, .inr (6, [.ref q1, .ref q2, .ref q3, .int 0, .ref q4, .ref q5, .ref q6, .ref q7, .ref q8, .ref q9, .ref q10, .int (-1 : Int32), .null, .null, .int 0, .int 0, .int 0, .null, .int 0, .null, .null, .int 0, .null, .int 0, .int 0, .int 0, .int 0, .int 0, .int 0, .null, .null, .null, .null, .null, .null, .null, .null, .null, .int 0, .int 0, .null, .null, .null, .null])) :: T11) H := by rw [eT11]; exact hP
  have hD : va_D A ((h0, .inr (6, [.ref q1, .ref q2, .ref q3, .int 0, .ref q4, .ref q5, .ref q6, .ref q7, .ref q8, .ref q9, .ref q10, .int (-1 : Int32), .null, .null, .int 0, .int 0, .int 0, .null, .int 0, .null, .null, .int 0, .null, .int 0, .int 0, .int 0, .int 0, .int 0, .int 0, .null, .null, .null, .null, .null, .null, .null, .null, .null, .int 0, .int 0, .null, .null, .null, .null])) :: T11) := by rw [eT11]; exact hD
  refine va_putF (D := D) (ci := 6) (v := .ref q11) (C := "TypesInsideModel") (T := fT6) (N := 44) hx hb hts clw6 fY6 fYok6 zn6 hown hK hP hD hS 0 rfl rfl 12 (by decide) (hts _ zw870) (fun _ h9 => h9) rfl hin rfl (ty := fY6 12) (fYok6 12 (by decide)) rfl rfl (Nat.le_of_ble_eq_true rfl) zd_Mo_init_100 (fun H locs hP hD hS => ?_)
  have hP : va_P D cl ((h0, .inr (6, [.ref q1, .ref q2, .ref q3, .int 0, .ref q4, .ref q5, .ref q6, .ref q7, .ref q8, .ref q9, .ref q10, .int (-1 : Int32), .ref q11, .null, .int 0, .int 0, .int 0, .null, .int 0, .null, .null, .int 0, .null, .int 0, .int 0, .int 0, .int 0, .int 0, .int 0, .null, .null, .null, .null, .null, .null, .null, .null, .null, .int 0, .int 0, .null, .null, .null, .null])) :: T11) H := hP
  have hD : va_D A ((h0, .inr (6, [.ref q1, .ref q2, .ref q3, .int 0, .ref q4, .ref q5, .ref q6, .ref q7, .ref q8, .ref q9, .ref q10, .int (-1 : Int32), .ref q11, .null, .int 0, .int 0, .int 0, .null, .int 0, .null, .null, .int 0, .null, .int 0, .int 0, .int 0, .int 0, .int 0, .int 0, .null, .null, .null, .null, .null, .null, .null, .null, .null, .int 0, .int 0, .null, .null, .null, .null])) :: T11) := hD
  refine lv_aload_n hx hb zd_Mo_init_103 rfl (lv_at hl 0 rfl) ?_
  refine lv_sipush (v := (589 : Int32)) hx hb zd_Mo_init_104 (by decide) ?_
  refine va_newa (atype := .long) (ty := .long) hx hb (hts _ zw53) rfl hK hP hD hS hA (n := 589) (N' := 589) (a0 := (589, .inr (.inl (fun _ => (0 : Int64))))) (fun _ => rfl) (by decide) (by decide) (Nat.le_of_ble_eq_true rfl) (Nat.le_of_ble_eq_true rfl) (Nat.le_of_ble_eq_true rfl) zd_Mo_init_107 (fun q12 cA H hK1 hP hD hS => ?_)
  obtain rfl := K_new 1 hK1 rfl
  obtain ⟨T12, eT12⟩ : ∃ T, T = T11 ++ [(q12, .inl (AC 1, 589, .inr (.inl (fun _ => (0 : Int64)))))] := ⟨_, rfl⟩
  have hP : va_P D cl ((h0, .inr (6, [.ref q1, .ref q2, .ref q3, .int 0, .ref q4, .ref q5, .ref q6, .ref q7, .ref q8, .ref q9, .ref q10, .int (-1 : Int32), .ref q11, .null, .int 0, .int 0, .int 0, .null, .int 0, .null, .null, .int 0, .null, .int 0, .int 0, .int 0, .int 0, .int 0, .int 0, .null, .null, .null, .null, .null, .null, .null, .null, .null, .int 0, .int 0, .null, .null, .null, .null])) :: T12) H := by rw [eT12]; exact hP
  have hD : va_D A ((h0, .inr (6, [.ref q1, .ref q2, .ref q3, .int 0, .ref q4, .ref q5, .ref q6, .ref q7, .ref q8, .ref q9, .ref q10, .int (-1 : Int32), .ref q11, .null, .int 0, .int 0, .int 0, .null, .int 0, .null, .null, .int 0, .null, .int 0, .int 0, .int 0, .int 0, .int 0, .int 0, .null, .null, .null, .null, .null, .null, .null, .null, .null, .int 0, .int 0, .null, .null, .null, .null])) :: T12) := by rw [eT12]; exact hD
  refine va_putF (D := D) (ci := 6) (v := .ref q12) (C := "TypesInsideModel") (T := fT6) (N := 44) hx hb hts clw6 fY6 fYok6 zn6 hown hK hP hD hS 0 rfl rfl 13 (by decide) (hts _ zw871) (fun _ h9 => h9) rfl hin rfl (ty := fY6 13) (fYok6 13 (by decide)) rfl rfl (Nat.le_of_ble_eq_true rfl) zd_Mo_init_109 (fun H locs hP hD hS => ?_)
  have hP : va_P D cl ((h0, .inr (6, [.ref q1, .ref q2, .ref q3, .int 0, .ref q4, .ref q5, .ref q6, .ref q7, .ref q8, .ref q9, .ref q10, .int (-1 : Int32), .ref q11, .ref q12, .int 0, .int 0, .int 0, .null, .int 0, .null, .null, .int 0, .null, .int 0, .int 0, .int 0, .int 0, .int 0, .int 0, .null, .null, .null, .null, .null, .null, .null, .null, .null, .int 0, .int 0, .null, .null, .null, .null])) :: T12) H := hP
  have hD : va_D A ((h0, .inr (6, [.ref q1, .ref q2, .ref q3, .int 0, .ref q4, .ref q5, .ref q6, .ref q7, .ref q8, .ref q9, .ref q10, .int (-1 : Int32), .ref q11, .ref q12, .int 0, .int 0, .int 0, .null, .int 0, .null, .null, .int 0, .null, .int 0, .int 0, .int 0, .int 0, .int 0, .int 0, .null, .null, .null, .null, .null, .null, .null, .null, .null, .int 0, .int 0, .null, .null, .null, .null])) :: T12) := hD
  refine lv_aload_n hx hb zd_Mo_init_112 rfl (lv_at hl 0 rfl) ?_
  refine lv_iconst (v := (2 : Int32)) hx hb zd_Mo_init_113 (by decide) ?_
  refine va_put (D := D) (ci := 6) (v := .int (2 : Int32)) (C := "TypesInsideModel") (T := fT6) (N := 44) hx hb hts clw6 fY6 fYok6 zn6 hown hK hP hD hS 0 rfl rfl 15 (by decide) (hts _ zw873) (fun _ h9 => h9) rfl (ty := fY6 15) (fYok6 15 (by decide)) rfl rfl (Nat.le_of_ble_eq_true rfl) zd_Mo_init_114 (fun H locs hP hD hS => ?_)
  have hP : va_P D cl ((h0, .inr (6, [.ref q1, .ref q2, .ref q3, .int 0, .ref q4, .ref q5, .ref q6, .ref q7, .ref q8, .ref q9, .ref q10, .int (-1 : Int32), .ref q11, .ref q12, .int 0, .int (2 : Int32), .int 0, .null, .int 0, .null, .null, .int 0, .null, .int 0, .int 0, .int 0, .int 0, .int 0, .int 0, .null, .null, .null, .null, .null, .null, .null, .null, .null, .int 0, .int 0, .null, .null, .null, .null])) :: T12) H := hP
  have hD : va_D A ((h0, .inr (6, [.ref q1, .ref q2, .ref q3, .int 0, .ref q4, .ref q5, .ref q6, .ref q7, .ref q8, .ref q9, .ref q10, .int (-1 : Int32), .ref q11, .ref q12, .int 0, .int (2 : Int32), .int 0, .null, .int 0, .null, .null, .int 0, .null, .int 0, .int 0, .int 0, .int 0, .int 0, .int 0, .null, .null, .null, .null, .null, .null, .null, .null, .null, .int 0, .int 0, .null, .null, .null, .null])) :: T12) := hD
  refine lv_aload_n hx hb zd_Mo_init_117 rfl (lv_at hl 0 rfl) ?_
  refine lv_iconst (v := (1 : Int32)) hx hb zd_Mo_init_118 (by decide) ?_
  refine va_put (D := D) (ci := 6) (v := .int (1 : Int32)) (C := "TypesInsideModel") (T := fT6) (N := 44) hx hb hts clw6 fY6 fYok6 zn6 hown hK hP hD hS 0 rfl rfl 16 (by decide) (hts _ zw874) (fun _ h9 => h9) rfl (ty := fY6 16) (fYok6 16 (by decide)) rfl rfl (Nat.le_of_ble_eq_true rfl) zd_Mo_init_119 (fun H locs hP hD hS => ?_)
  have hP : va_P D cl ((h0, .inr (6, [.ref q1, .ref q2, .ref q3, .int 0, .ref q4, .ref q5, .ref q6, .ref q7, .ref q8, .ref q9, .ref q10, .int (-1 : Int32), .ref q11, .ref q12, .int 0, .int (2 : Int32), .int (1 : Int32), .null, .int 0, .null, .null, .int 0, .null, .int 0, .int 0, .int 0, .int 0, .int 0, .int 0, .null, .null, .null, .null, .null, .null, .null, .null, .null, .int 0, .int 0, .null, .null, .null, .null])) :: T12) H := hP
  have hD : va_D A ((h0, .inr (6, [.ref q1, .ref q2, .ref q3, .int 0, .ref q4, .ref q5, .ref q6, .ref q7, .ref q8, .ref q9, .ref q10, .int (-1 : Int32), .ref q11, .ref q12, .int 0, .int (2 : Int32), .int (1 : Int32), .null, .int 0, .null, .null, .int 0, .null, .int 0, .int 0, .int 0, .int 0, .int 0, .int 0, .null, .null, .null, .null, .null, .null, .null, .null, .null, .int 0, .int 0, .null, .null, .null, .null])) :: T12) := hD
  refine lv_aload_n hx hb zd_Mo_init_122 rfl (lv_at hl 0 rfl) ?_
  refine lv_iconst (v := (5 : Int32)) hx hb zd_Mo_init_123 (by decide) ?_
  refine va_newa (atype := .int) (ty := .int) hx hb (hts _ zw100) rfl hK hP hD hS hA (n := 5) (N' := 5) (a0 := (5, .inl (fun _ => (0 : Int32)))) (fun _ => rfl) (by decide) (by decide) (Nat.le_of_ble_eq_true rfl) (Nat.le_of_ble_eq_true rfl) (Nat.le_of_ble_eq_true rfl) zd_Mo_init_124 (fun q13 cA H hK1 hP hD hS => ?_)
  obtain rfl := K_new 0 hK1 rfl
  obtain ⟨T13, eT13⟩ : ∃ T, T = T12 ++ [(q13, .inl (AC 0, 5, .inl (fun _ => (0 : Int32))))] := ⟨_, rfl⟩
  have hP : va_P D cl ((h0, .inr (6, [.ref q1, .ref q2, .ref q3, .int 0, .ref q4, .ref q5, .ref q6, .ref q7, .ref q8, .ref q9, .ref q10, .int (-1 : Int32), .ref q11, .ref q12, .int 0, .int (2 : Int32), .int (1 : Int32), .null, .int 0, .null, .null, .int 0, .null, .int 0, .int 0, .int 0, .int 0, .int 0, .int 0, .null, .null, .null, .null, .null, .null, .null, .null, .null, .int 0, .int 0, .null, .null, .null, .null])) :: T13) H := by rw [eT13]; exact hP
  have hD : va_D A ((h0, .inr (6, [.ref q1, .ref q2, .ref q3, .int 0, .ref q4, .ref q5, .ref q6, .ref q7, .ref q8, .ref q9, .ref q10, .int (-1 : Int32), .ref q11, .ref q12, .int 0, .int (2 : Int32), .int (1 : Int32), .null, .int 0, .null, .null, .int 0, .null, .int 0, .int 0, .int 0, .int 0, .int 0, .int 0, .null, .null, .null, .null, .null, .null, .null, .null, .null, .int 0, .int 0, .null, .null, .null, .null])) :: T13) := by rw [eT13]; exact hD
  refine va_putF (D := D) (ci := 6) (v := .ref q13) (C := "TypesInsideModel") (T := fT6) (N := 44) hx hb hts clw6 fY6 fYok6 zn6 hown hK hP hD hS 0 rfl rfl 17 (by decide) (hts _ zw875) (fun _ h9 => h9) rfl hin rfl (ty := fY6 17) (fYok6 17 (by decide)) rfl rfl (Nat.le_of_ble_eq_true rfl) zd_Mo_init_126 (fun H locs hP hD hS => ?_)
  have hP : va_P D cl ((h0, .inr (6, [.ref q1, .ref q2, .ref q3, .int 0, .ref q4, .ref q5, .ref q6, .ref q7, .ref q8, .ref q9, .ref q10, .int (-1 : Int32), .ref q11, .ref q12, .int 0, .int (2 : Int32), .int (1 : Int32), .ref q13, .int 0, .null, .null, .int 0, .null, .int 0, .int 0, .int 0, .int 0, .int 0, .int 0, .null, .null, .null, .null, .null, .null, .null, .null, .null, .int 0, .int 0, .null, .null, .null, .null])) :: T13) H := hP
  have hD : va_D A ((h0, .inr (6, [.ref q1, .ref q2, .ref q3, .int 0, .ref q4, .ref q5, .ref q6, .ref q7, .ref q8, .ref q9, .ref q10, .int (-1 : Int32), .ref q11, .ref q12, .int 0, .int (2 : Int32), .int (1 : Int32), .ref q13, .int 0, .null, .null, .int 0, .null, .int 0, .int 0, .int 0, .int 0, .int 0, .int 0, .null, .null, .null, .null, .null, .null, .null, .null, .null, .int 0, .int 0, .null, .null, .null, .null])) :: T13) := hD
  refine lv_aload_n hx hb zd_Mo_init_129 rfl (lv_at hl 0 rfl) ?_
  refine lv_bipush (v := (6 : Int32)) hx hb zd_Mo_init_130 (by decide) ?_
  refine va_newa (atype := .int) (ty := .int) hx hb (hts _ zw100) rfl hK hP hD hS hA (n := 6) (N' := 6) (a0 := (6, .inl (fun _ => (0 : Int32)))) (fun _ => rfl) (by decide) (by decide) (Nat.le_of_ble_eq_true rfl) (Nat.le_of_ble_eq_true rfl) (Nat.le_of_ble_eq_true rfl) zd_Mo_init_132 (fun q14 cA H hK1 hP hD hS => ?_)
  obtain rfl := K_new 0 hK1 rfl
  obtain ⟨T14, eT14⟩ : ∃ T, T = T13 ++ [(q14, .inl (AC 0, 6, .inl (fun _ => (0 : Int32))))] := ⟨_, rfl⟩
  have hP : va_P D cl ((h0, .inr (6, [.ref q1, .ref q2, .ref q3, .int 0, .ref q4, .ref q5, .ref q6, .ref q7, .ref q8, .ref q9, .ref q10, .int (-1 : Int32), .ref q11, .ref q12, .int 0, .int (2 : Int32), .int (1 : Int32), .ref q13, .int 0, .null, .null, .int 0, .null, .int 0, .int 0, .int 0, .int 0, .int 0, .int 0, .null, .null, .null, .null, .null, .null, .null, .null, .null, .int 0, .int 0, .null, .null, .null, .null])) :: T14) H := by rw [eT14]; exact hP
  have hD : va_D A ((h0, .inr (6, [.ref q1, .ref q2, .ref q3, .int 0, .ref q4, .ref q5, .ref q6, .ref q7, .ref q8, .ref q9, .ref q10, .int (-1 : Int32), .ref q11, .ref q12, .int 0, .int (2 : Int32), .int (1 : Int32), .ref q13, .int 0, .null, .null, .int 0, .null, .int 0, .int 0, .int 0, .int 0, .int 0, .int 0, .null, .null, .null, .null, .null, .null, .null, .null, .null, .int 0, .int 0, .null, .null, .null, .null])) :: T14) := by rw [eT14]; exact hD
  refine va_putF (D := D) (ci := 6) (v := .ref q14) (C := "TypesInsideModel") (T := fT6) (N := 44) hx hb hts clw6 fY6 fYok6 zn6 hown hK hP hD hS 0 rfl rfl 19 (by decide) (hts _ zw877) (fun _ h9 => h9) rfl hin rfl (ty := fY6 19) (fYok6 19 (by decide)) rfl rfl (Nat.le_of_ble_eq_true rfl) zd_Mo_init_134 (fun H locs hP hD hS => ?_)
  have hP : va_P D cl ((h0, .inr (6, [.ref q1, .ref q2, .ref q3, .int 0, .ref q4, .ref q5, .ref q6, .ref q7, .ref q8, .ref q9, .ref q10, .int (-1 : Int32), .ref q11, .ref q12, .int 0, .int (2 : Int32), .int (1 : Int32), .ref q13, .int 0, .ref q14, .null, .int 0, .null, .int 0, .int 0, .int 0, .int 0, .int 0, .int 0, .null, .null, .null, .null, .null, .null, .null, .null, .null, .int 0, .int 0, .null, .null, .null, .null])) :: T14) H := hP
  have hD : va_D A ((h0, .inr (6, [.ref q1, .ref q2, .ref q3, .int 0, .ref q4, .ref q5, .ref q6, .ref q7, .ref q8, .ref q9, .ref q10, .int (-1 : Int32), .ref q11, .ref q12, .int 0, .int (2 : Int32), .int (1 : Int32), .ref q13, .int 0, .ref q14, .null, .int 0, .null, .int 0, .int 0, .int 0, .int 0, .int 0, .int 0, .null, .null, .null, .null, .null, .null, .null, .null, .null, .int 0, .int 0, .null, .null, .null, .null])) :: T14) := hD
  refine lv_aload_n hx hb zd_Mo_init_137 rfl (lv_at hl 0 rfl) ?_
  refine lv_sipush (v := (400 : Int32)) hx hb zd_Mo_init_138 (by decide) ?_
  refine va_newa (atype := .long) (ty := .long) hx hb (hts _ zw53) rfl hK hP hD hS hA (n := 400) (N' := 400) (a0 := (400, .inr (.inl (fun _ => (0 : Int64))))) (fun _ => rfl) (by decide) (by decide) (Nat.le_of_ble_eq_true rfl) (Nat.le_of_ble_eq_true rfl) (Nat.le_of_ble_eq_true rfl) zd_Mo_init_141 (fun q15 cA H hK1 hP hD hS => ?_)
  obtain rfl := K_new 1 hK1 rfl
  obtain ⟨T15, eT15⟩ : ∃ T, T = T14 ++ [(q15, .inl (AC 1, 400, .inr (.inl (fun _ => (0 : Int64)))))] := ⟨_, rfl⟩
  have hP : va_P D cl ((h0, .inr (6, [.ref q1, .ref q2, .ref q3, .int 0, .ref q4, .ref q5, .ref q6, .ref q7, .ref q8, .ref q9, .ref q10, .int (-1 : Int32), .ref q11, .ref q12, .int 0, .int (2 : Int32), .int (1 : Int32), .ref q13, .int 0, .ref q14, .null, .int 0, .null, .int 0, .int 0, .int 0, .int 0, .int 0, .int 0, .null, .null, .null, .null, .null, .null, .null, .null, .null, .int 0, .int 0, .null, .null, .null, .null])) :: T15) H := by rw [eT15]; exact hP
  have hD : va_D A ((h0, .inr (6, [.ref q1, .ref q2, .ref q3, .int 0, .ref q4, .ref q5, .ref q6, .ref q7, .ref q8, .ref q9, .ref q10, .int (-1 : Int32), .ref q11, .ref q12, .int 0, .int (2 : Int32), .int (1 : Int32), .ref q13, .int 0, .ref q14, .null, .int 0, .null, .int 0, .int 0, .int 0, .int 0, .int 0, .int 0, .null, .null, .null, .null, .null, .null, .null, .null, .null, .int 0, .int 0, .null, .null, .null, .null])) :: T15) := by rw [eT15]; exact hD
  refine va_putF (D := D) (ci := 6) (v := .ref q15) (C := "TypesInsideModel") (T := fT6) (N := 44) hx hb hts clw6 fY6 fYok6 zn6 hown hK hP hD hS 0 rfl rfl 20 (by decide) (hts _ zw878) (fun _ h9 => h9) rfl hin rfl (ty := fY6 20) (fYok6 20 (by decide)) rfl rfl (Nat.le_of_ble_eq_true rfl) zd_Mo_init_143 (fun H locs hP hD hS => ?_)
  have hP : va_P D cl ((h0, .inr (6, [.ref q1, .ref q2, .ref q3, .int 0, .ref q4, .ref q5, .ref q6, .ref q7, .ref q8, .ref q9, .ref q10, .int (-1 : Int32), .ref q11, .ref q12, .int 0, .int (2 : Int32), .int (1 : Int32), .ref q13, .int 0, .ref q14, .ref q15, .int 0, .null, .int 0, .int 0, .int 0, .int 0, .int 0, .int 0, .null, .null, .null, .null, .null, .null, .null, .null, .null, .int 0, .int 0, .null, .null, .null, .null])) :: T15) H := hP
  have hD : va_D A ((h0, .inr (6, [.ref q1, .ref q2, .ref q3, .int 0, .ref q4, .ref q5, .ref q6, .ref q7, .ref q8, .ref q9, .ref q10, .int (-1 : Int32), .ref q11, .ref q12, .int 0, .int (2 : Int32), .int (1 : Int32), .ref q13, .int 0, .ref q14, .ref q15, .int 0, .null, .int 0, .int 0, .int 0, .int 0, .int 0, .int 0, .null, .null, .null, .null, .null, .null, .null, .null, .null, .int 0, .int 0, .null, .null, .null, .null])) :: T15) := hD
  refine lv_aload_n hx hb zd_Mo_init_146 rfl (lv_at hl 0 rfl) ?_
  refine lv_bipush (v := (40 : Int32)) hx hb zd_Mo_init_147 (by decide) ?_
  refine va_newa (atype := .int) (ty := .int) hx hb (hts _ zw100) rfl hK hP hD hS hA (n := 40) (N' := 40) (a0 := (40, .inl (fun _ => (0 : Int32)))) (fun _ => rfl) (by decide) (by decide) (Nat.le_of_ble_eq_true rfl) (Nat.le_of_ble_eq_true rfl) (Nat.le_of_ble_eq_true rfl) zd_Mo_init_149 (fun q16 cA H hK1 hP hD hS => ?_)
  obtain rfl := K_new 0 hK1 rfl
  obtain ⟨T16, eT16⟩ : ∃ T, T = T15 ++ [(q16, .inl (AC 0, 40, .inl (fun _ => (0 : Int32))))] := ⟨_, rfl⟩
  have hP : va_P D cl ((h0, .inr (6, [.ref q1, .ref q2, .ref q3, .int 0, .ref q4, .ref q5, .ref q6, .ref q7, .ref q8, .ref q9, .ref q10, .int (-1 : Int32), .ref q11, .ref q12, .int 0, .int (2 : Int32), .int (1 : Int32), .ref q13, .int 0, .ref q14, .ref q15, .int 0, .null, .int 0, .int 0, .int 0, .int 0, .int 0, .int 0, .null, .null, .null, .null, .null, .null, .null, .null, .null, .int 0, .int 0, .null, .null, .null, .null])) :: T16) H := by rw [eT16]; exact hP
  have hD : va_D A ((h0, .inr (6, [.ref q1, .ref q2, .ref q3, .int 0, .ref q4, .ref q5, .ref q6, .ref q7, .ref q8, .ref q9, .ref q10, .int (-1 : Int32), .ref q11, .ref q12, .int 0, .int (2 : Int32), .int (1 : Int32), .ref q13, .int 0, .ref q14, .ref q15, .int 0, .null, .int 0, .int 0, .int 0, .int 0, .int 0, .int 0, .null, .null, .null, .null, .null, .null, .null, .null, .null, .int 0, .int 0, .null, .null, .null, .null])) :: T16) := by rw [eT16]; exact hD
  refine va_putF (D := D) (ci := 6) (v := .ref q16) (C := "TypesInsideModel") (T := fT6) (N := 44) hx hb hts clw6 fY6 fYok6 zn6 hown hK hP hD hS 0 rfl rfl 22 (by decide) (hts _ zw880) (fun _ h9 => h9) rfl hin rfl (ty := fY6 22) (fYok6 22 (by decide)) rfl rfl (Nat.le_of_ble_eq_true rfl) zd_Mo_init_151 (fun H locs hP hD hS => ?_)
  have hP : va_P D cl ((h0, .inr (6, [.ref q1, .ref q2, .ref q3, .int 0, .ref q4, .ref q5, .ref q6, .ref q7, .ref q8, .ref q9, .ref q10, .int (-1 : Int32), .ref q11, .ref q12, .int 0, .int (2 : Int32), .int (1 : Int32), .ref q13, .int 0, .ref q14, .ref q15, .int 0, .ref q16, .int 0, .int 0, .int 0, .int 0, .int 0, .int 0, .null, .null, .null, .null, .null, .null, .null, .null, .null, .int 0, .int 0, .null, .null, .null, .null])) :: T16) H := hP
  have hD : va_D A ((h0, .inr (6, [.ref q1, .ref q2, .ref q3, .int 0, .ref q4, .ref q5, .ref q6, .ref q7, .ref q8, .ref q9, .ref q10, .int (-1 : Int32), .ref q11, .ref q12, .int 0, .int (2 : Int32), .int (1 : Int32), .ref q13, .int 0, .ref q14, .ref q15, .int 0, .ref q16, .int 0, .int 0, .int 0, .int 0, .int 0, .int 0, .null, .null, .null, .null, .null, .null, .null, .null, .null, .int 0, .int 0, .null, .null, .null, .null])) :: T16) := hD
  refine lv_aload_n hx hb zd_Mo_init_154 rfl (lv_at hl 0 rfl) ?_
  refine lv_sipush (v := (1767 : Int32)) hx hb zd_Mo_init_155 (by decide) ?_
  refine va_newa (atype := .long) (ty := .long) hx hb (hts _ zw53) rfl hK hP hD hS hA (n := 1767) (N' := 1767) (a0 := (1767, .inr (.inl (fun _ => (0 : Int64))))) (fun _ => rfl) (by decide) (by decide) (Nat.le_of_ble_eq_true rfl) (Nat.le_of_ble_eq_true rfl) (Nat.le_of_ble_eq_true rfl) zd_Mo_init_158 (fun q17 cA H hK1 hP hD hS => ?_)
  obtain rfl := K_new 1 hK1 rfl
  obtain ⟨T17, eT17⟩ : ∃ T, T = T16 ++ [(q17, .inl (AC 1, 1767, .inr (.inl (fun _ => (0 : Int64)))))] := ⟨_, rfl⟩
  have hP : va_P D cl ((h0, .inr (6, [.ref q1, .ref q2, .ref q3, .int 0, .ref q4, .ref q5, .ref q6, .ref q7, .ref q8, .ref q9, .ref q10, .int (-1 : Int32), .ref q11, .ref q12, .int 0, .int (2 : Int32), .int (1 : Int32), .ref q13, .int 0, .ref q14, .ref q15, .int 0, .ref q16, .int 0, .int 0, .int 0, .int 0, .int 0, .int 0, .null, .null, .null, .null, .null, .null, .null, .null, .null, .int 0, .int 0, .null, .null, .null, .null])) :: T17) H := by rw [eT17]; exact hP
  have hD : va_D A ((h0, .inr (6, [.ref q1, .ref q2, .ref q3, .int 0, .ref q4, .ref q5, .ref q6, .ref q7, .ref q8, .ref q9, .ref q10, .int (-1 : Int32), .ref q11, .ref q12, .int 0, .int (2 : Int32), .int (1 : Int32), .ref q13, .int 0, .ref q14, .ref q15, .int 0, .ref q16, .int 0, .int 0, .int 0, .int 0, .int 0, .int 0, .null, .null, .null, .null, .null, .null, .null, .null, .null, .int 0, .int 0, .null, .null, .null, .null])) :: T17) := by rw [eT17]; exact hD
  refine va_putF (D := D) (ci := 6) (v := .ref q17) (C := "TypesInsideModel") (T := fT6) (N := 44) hx hb hts clw6 fY6 fYok6 zn6 hown hK hP hD hS 0 rfl rfl 29 (by decide) (hts _ zw887) (fun _ h9 => h9) rfl hin rfl (ty := fY6 29) (fYok6 29 (by decide)) rfl rfl (Nat.le_of_ble_eq_true rfl) zd_Mo_init_160 (fun H locs hP hD hS => ?_)
  have hP : va_P D cl ((h0, .inr (6, [.ref q1, .ref q2, .ref q3, .int 0, .ref q4, .ref q5, .ref q6, .ref q7, .ref q8, .ref q9, .ref q10, .int (-1 : Int32), .ref q11, .ref q12, .int 0, .int (2 : Int32), .int (1 : Int32), .ref q13, .int 0, .ref q14, .ref q15, .int 0, .ref q16, .int 0, .int 0, .int 0, .int 0, .int 0, .int 0, .ref q17, .null, .null, .null, .null, .null, .null, .null, .null, .int 0, .int 0, .null, .null, .null, .null])) :: T17) H := hP
  have hD : va_D A ((h0, .inr (6, [.ref q1, .ref q2, .ref q3, .int 0, .ref q4, .ref q5, .ref q6, .ref q7, .ref q8, .ref q9, .ref q10, .int (-1 : Int32), .ref q11, .ref q12, .int 0, .int (2 : Int32), .int (1 : Int32), .ref q13, .int 0, .ref q14, .ref q15, .int 0, .ref q16, .int 0, .int 0, .int 0, .int 0, .int 0, .int 0, .ref q17, .null, .null, .null, .null, .null, .null, .null, .null, .int 0, .int 0, .null, .null, .null, .null])) :: T17) := hD
  refine lv_aload_n hx hb zd_Mo_init_163 rfl (lv_at hl 0 rfl) ?_
  refine lv_sipush (v := (1767 : Int32)) hx hb zd_Mo_init_164 (by decide) ?_
  refine va_newa (atype := .long) (ty := .long) hx hb (hts _ zw53) rfl hK hP hD hS hA (n := 1767) (N' := 1767) (a0 := (1767, .inr (.inl (fun _ => (0 : Int64))))) (fun _ => rfl) (by decide) (by decide) (Nat.le_of_ble_eq_true rfl) (Nat.le_of_ble_eq_true rfl) (Nat.le_of_ble_eq_true rfl) zd_Mo_init_167 (fun q18 cA H hK1 hP hD hS => ?_)
  obtain rfl := K_new 1 hK1 rfl
  obtain ⟨T18, eT18⟩ : ∃ T, T = T17 ++ [(q18, .inl (AC 1, 1767, .inr (.inl (fun _ => (0 : Int64)))))] := ⟨_, rfl⟩
  have hP : va_P D cl ((h0, .inr (6, [.ref q1, .ref q2, .ref q3, .int 0, .ref q4, .ref q5, .ref q6, .ref q7, .ref q8, .ref q9, .ref q10, .int (-1 : Int32), .ref q11, .ref q12, .int 0, .int (2 : Int32), .int (1 : Int32), .ref q13, .int 0, .ref q14, .ref q15, .int 0, .ref q16, .int 0, .int 0, .int 0, .int 0, .int 0, .int 0, .ref q17, .null, .null, .null, .null, .null, .null, .null, .null, .int 0, .int 0, .null, .null, .null, .null])) :: T18) H := by rw [eT18]; exact hP
  have hD : va_D A ((h0, .inr (6, [.ref q1, .ref q2, .ref q3, .int 0, .ref q4, .ref q5, .ref q6, .ref q7, .ref q8, .ref q9, .ref q10, .int (-1 : Int32), .ref q11, .ref q12, .int 0, .int (2 : Int32), .int (1 : Int32), .ref q13, .int 0, .ref q14, .ref q15, .int 0, .ref q16, .int 0, .int 0, .int 0, .int 0, .int 0, .int 0, .ref q17, .null, .null, .null, .null, .null, .null, .null, .null, .int 0, .int 0, .null, .null, .null, .null])) :: T18) := by rw [eT18]; exact hD
  refine va_putF (D := D) (ci := 6) (v := .ref q18) (C := "TypesInsideModel") (T := fT6) (N := 44) hx hb hts clw6 fY6 fYok6 zn6 hown hK hP hD hS 0 rfl rfl 30 (by decide) (hts _ zw888) (fun _ h9 => h9) rfl hin rfl (ty := fY6 30) (fYok6 30 (by decide)) rfl rfl (Nat.le_of_ble_eq_true rfl) zd_Mo_init_169 (fun H locs hP hD hS => ?_)
  have hP : va_P D cl ((h0, .inr (6, [.ref q1, .ref q2, .ref q3, .int 0, .ref q4, .ref q5, .ref q6, .ref q7, .ref q8, .ref q9, .ref q10, .int (-1 : Int32), .ref q11, .ref q12, .int 0, .int (2 : Int32), .int (1 : Int32), .ref q13, .int 0, .ref q14, .ref q15, .int 0, .ref q16, .int 0, .int 0, .int 0, .int 0, .int 0, .int 0, .ref q17, .ref q18, .null, .null, .null, .null, .null, .null, .null, .int 0, .int 0, .null, .null, .null, .null])) :: T18) H := hP
  have hD : va_D A ((h0, .inr (6, [.ref q1, .ref q2, .ref q3, .int 0, .ref q4, .ref q5, .ref q6, .ref q7, .ref q8, .ref q9, .ref q10, .int (-1 : Int32), .ref q11, .ref q12, .int 0, .int (2 : Int32), .int (1 : Int32), .ref q13, .int 0, .ref q14, .ref q15, .int 0, .ref q16, .int 0, .int 0, .int 0, .int 0, .int 0, .int 0, .ref q17, .ref q18, .null, .null, .null, .null, .null, .null, .null, .int 0, .int 0, .null, .null, .null, .null])) :: T18) := hD
  refine lv_aload_n hx hb zd_Mo_init_172 rfl (lv_at hl 0 rfl) ?_
  refine lv_sipush (v := (589 : Int32)) hx hb zd_Mo_init_173 (by decide) ?_
  refine va_newa (atype := .long) (ty := .long) hx hb (hts _ zw53) rfl hK hP hD hS hA (n := 589) (N' := 589) (a0 := (589, .inr (.inl (fun _ => (0 : Int64))))) (fun _ => rfl) (by decide) (by decide) (Nat.le_of_ble_eq_true rfl) (Nat.le_of_ble_eq_true rfl) (Nat.le_of_ble_eq_true rfl) zd_Mo_init_176 (fun q19 cA H hK1 hP hD hS => ?_)
  obtain rfl := K_new 1 hK1 rfl
  obtain ⟨T19, eT19⟩ : ∃ T, T = T18 ++ [(q19, .inl (AC 1, 589, .inr (.inl (fun _ => (0 : Int64)))))] := ⟨_, rfl⟩
  have hP : va_P D cl ((h0, .inr (6, [.ref q1, .ref q2, .ref q3, .int 0, .ref q4, .ref q5, .ref q6, .ref q7, .ref q8, .ref q9, .ref q10, .int (-1 : Int32), .ref q11, .ref q12, .int 0, .int (2 : Int32), .int (1 : Int32), .ref q13, .int 0, .ref q14, .ref q15, .int 0, .ref q16, .int 0, .int 0, .int 0, .int 0, .int 0, .int 0, .ref q17, .ref q18, .null, .null, .null, .null, .null, .null, .null, .int 0, .int 0, .null, .null, .null, .null])) :: T19) H := by rw [eT19]; exact hP
  have hD : va_D A ((h0, .inr (6, [.ref q1, .ref q2, .ref q3, .int 0, .ref q4, .ref q5, .ref q6, .ref q7, .ref q8, .ref q9, .ref q10, .int (-1 : Int32), .ref q11, .ref q12, .int 0, .int (2 : Int32), .int (1 : Int32), .ref q13, .int 0, .ref q14, .ref q15, .int 0, .ref q16, .int 0, .int 0, .int 0, .int 0, .int 0, .int 0, .ref q17, .ref q18, .null, .null, .null, .null, .null, .null, .null, .int 0, .int 0, .null, .null, .null, .null])) :: T19) := by rw [eT19]; exact hD
  refine va_putF (D := D) (ci := 6) (v := .ref q19) (C := "TypesInsideModel") (T := fT6) (N := 44) hx hb hts clw6 fY6 fYok6 zn6 hown hK hP hD hS 0 rfl rfl 31 (by decide) (hts _ zw889) (fun _ h9 => h9) rfl hin rfl (ty := fY6 31) (fYok6 31 (by decide)) rfl rfl (Nat.le_of_ble_eq_true rfl) zd_Mo_init_178 (fun H locs hP hD hS => ?_)
  have hP : va_P D cl ((h0, .inr (6, [.ref q1, .ref q2, .ref q3, .int 0, .ref q4, .ref q5, .ref q6, .ref q7, .ref q8, .ref q9, .ref q10, .int (-1 : Int32), .ref q11, .ref q12, .int 0, .int (2 : Int32), .int (1 : Int32), .ref q13, .int 0, .ref q14, .ref q15, .int 0, .ref q16, .int 0, .int 0, .int 0, .int 0, .int 0, .int 0, .ref q17, .ref q18, .ref q19, .null, .null, .null, .null, .null, .null, .int 0, .int 0, .null, .null, .null, .null])) :: T19) H := hP
  have hD : va_D A ((h0, .inr (6, [.ref q1, .ref q2, .ref q3, .int 0, .ref q4, .ref q5, .ref q6, .ref q7, .ref q8, .ref q9, .ref q10, .int (-1 : Int32), .ref q11, .ref q12, .int 0, .int (2 : Int32), .int (1 : Int32), .ref q13, .int 0, .ref q14, .ref q15, .int 0, .ref q16, .int 0, .int 0, .int 0, .int 0, .int 0, .int 0, .ref q17, .ref q18, .ref q19, .null, .null, .null, .null, .null, .null, .int 0, .int 0, .null, .null, .null, .null])) :: T19) := hD
  refine lv_aload_n hx hb zd_Mo_init_181 rfl (lv_at hl 0 rfl) ?_
  refine lv_sipush (v := (589 : Int32)) hx hb zd_Mo_init_182 (by decide) ?_
  refine va_newa (atype := .long) (ty := .long) hx hb (hts _ zw53) rfl hK hP hD hS hA (n := 589) (N' := 589) (a0 := (589, .inr (.inl (fun _ => (0 : Int64))))) (fun _ => rfl) (by decide) (by decide) (Nat.le_of_ble_eq_true rfl) (Nat.le_of_ble_eq_true rfl) (Nat.le_of_ble_eq_true rfl) zd_Mo_init_185 (fun q20 cA H hK1 hP hD hS => ?_)
  obtain rfl := K_new 1 hK1 rfl
  obtain ⟨T20, eT20⟩ : ∃ T, T = T19 ++ [(q20, .inl (AC 1, 589, .inr (.inl (fun _ => (0 : Int64)))))] := ⟨_, rfl⟩
  have hP : va_P D cl ((h0, .inr (6, [.ref q1, .ref q2, .ref q3, .int 0, .ref q4, .ref q5, .ref q6, .ref q7, .ref q8, .ref q9, .ref q10, .int (-1 : Int32), .ref q11, .ref q12, .int 0, .int (2 : Int32), .int (1 : Int32), .ref q13, .int 0, .ref q14, .ref q15, .int 0, .ref q16, .int 0, .int 0, .int 0, .int 0, .int 0, .int 0, .ref q17, .ref q18, .ref q19, .null, .null, .null, .null, .null, .null, .int 0, .int 0, .null, .null, .null, .null])) :: T20) H := by rw [eT20]; exact hP
  have hD : va_D A ((h0, .inr (6, [.ref q1, .ref q2, .ref q3, .int 0, .ref q4, .ref q5, .ref q6, .ref q7, .ref q8, .ref q9, .ref q10, .int (-1 : Int32), .ref q11, .ref q12, .int 0, .int (2 : Int32), .int (1 : Int32), .ref q13, .int 0, .ref q14, .ref q15, .int 0, .ref q16, .int 0, .int 0, .int 0, .int 0, .int 0, .int 0, .ref q17, .ref q18, .ref q19, .null, .null, .null, .null, .null, .null, .int 0, .int 0, .null, .null, .null, .null])) :: T20) := by rw [eT20]; exact hD
  refine va_putF (D := D) (ci := 6) (v := .ref q20) (C := "TypesInsideModel") (T := fT6) (N := 44) hx hb hts clw6 fY6 fYok6 zn6 hown hK hP hD hS 0 rfl rfl 32 (by decide) (hts _ zw890) (fun _ h9 => h9) rfl hin rfl (ty := fY6 32) (fYok6 32 (by decide)) rfl rfl (Nat.le_of_ble_eq_true rfl) zd_Mo_init_187 (fun H locs hP hD hS => ?_)
  have hP : va_P D cl ((h0, .inr (6, [.ref q1, .ref q2, .ref q3, .int 0, .ref q4, .ref q5, .ref q6, .ref q7, .ref q8, .ref q9, .ref q10, .int (-1 : Int32), .ref q11, .ref q12, .int 0, .int (2 : Int32), .int (1 : Int32), .ref q13, .int 0, .ref q14, .ref q15, .int 0, .ref q16, .int 0, .int 0, .int 0, .int 0, .int 0, .int 0, .ref q17, .ref q18, .ref q19, .ref q20, .null, .null, .null, .null, .null, .int 0, .int 0, .null, .null, .null, .null])) :: T20) H := hP
  have hD : va_D A ((h0, .inr (6, [.ref q1, .ref q2, .ref q3, .int 0, .ref q4, .ref q5, .ref q6, .ref q7, .ref q8, .ref q9, .ref q10, .int (-1 : Int32), .ref q11, .ref q12, .int 0, .int (2 : Int32), .int (1 : Int32), .ref q13, .int 0, .ref q14, .ref q15, .int 0, .ref q16, .int 0, .int 0, .int 0, .int 0, .int 0, .int 0, .ref q17, .ref q18, .ref q19, .ref q20, .null, .null, .null, .null, .null, .int 0, .int 0, .null, .null, .null, .null])) :: T20) := hD
  refine lv_aload_n hx hb zd_Mo_init_190 rfl (lv_at hl 0 rfl) ?_
  refine lv_sipush (v := (589 : Int32)) hx hb zd_Mo_init_191 (by decide) ?_
  refine va_newa (atype := .long) (ty := .long) hx hb (hts _ zw53) rfl hK hP hD hS hA (n := 589) (N' := 589) (a0 := (589, .inr (.inl (fun _ => (0 : Int64))))) (fun _ => rfl) (by decide) (by decide) (Nat.le_of_ble_eq_true rfl) (Nat.le_of_ble_eq_true rfl) (Nat.le_of_ble_eq_true rfl) zd_Mo_init_194 (fun q21 cA H hK1 hP hD hS => ?_)
  obtain rfl := K_new 1 hK1 rfl
  obtain ⟨T21, eT21⟩ : ∃ T, T = T20 ++ [(q21, .inl (AC 1, 589, .inr (.inl (fun _ => (0 : Int64)))))] := ⟨_, rfl⟩
  have hP : va_P D cl ((h0, .inr (6, [.ref q1, .ref q2, .ref q3, .int 0, .ref q4, .ref q5, .ref q6, .ref q7, .ref q8, .ref q9, .ref q10, .int (-1 : Int32), .ref q11, .ref q12, .int 0, .int (2 : Int32), .int (1 : Int32), .ref q13, .int 0, .ref q14, .ref q15, .int 0, .ref q16, .int 0, .int 0, .int 0, .int 0, .int 0, .int 0, .ref q17, .ref q18, .ref q19, .ref q20, .null, .null, .null, .null, .null, .int 0, .int 0, .null, .null, .null, .null])) :: T21) H := by rw [eT21]; exact hP
  have hD : va_D A ((h0, .inr (6, [.ref q1, .ref q2, .ref q3, .int 0, .ref q4, .ref q5, .ref q6, .ref q7, .ref q8, .ref q9, .ref q10, .int (-1 : Int32), .ref q11, .ref q12, .int 0, .int (2 : Int32), .int (1 : Int32), .ref q13, .int 0, .ref q14, .ref q15, .int 0, .ref q16, .int 0, .int 0, .int 0, .int 0, .int 0, .int 0, .ref q17, .ref q18, .ref q19, .ref q20, .null, .null, .null, .null, .null, .int 0, .int 0, .null, .null, .null, .null])) :: T21) := by rw [eT21]; exact hD
  refine va_putF (D := D) (ci := 6) (v := .ref q21) (C := "TypesInsideModel") (T := fT6) (N := 44) hx hb hts clw6 fY6 fYok6 zn6 hown hK hP hD hS 0 rfl rfl 33 (by decide) (hts _ zw891) (fun _ h9 => h9) rfl hin rfl (ty := fY6 33) (fYok6 33 (by decide)) rfl rfl (Nat.le_of_ble_eq_true rfl) zd_Mo_init_196 (fun H locs hP hD hS => ?_)
  have hP : va_P D cl ((h0, .inr (6, [.ref q1, .ref q2, .ref q3, .int 0, .ref q4, .ref q5, .ref q6, .ref q7, .ref q8, .ref q9, .ref q10, .int (-1 : Int32), .ref q11, .ref q12, .int 0, .int (2 : Int32), .int (1 : Int32), .ref q13, .int 0, .ref q14, .ref q15, .int 0, .ref q16, .int 0, .int 0, .int 0, .int 0, .int 0, .int 0, .ref q17, .ref q18, .ref q19, .ref q20, .ref q21, .null, .null, .null, .null, .int 0, .int 0, .null, .null, .null, .null])) :: T21) H := hP
  have hD : va_D A ((h0, .inr (6, [.ref q1, .ref q2, .ref q3, .int 0, .ref q4, .ref q5, .ref q6, .ref q7, .ref q8, .ref q9, .ref q10, .int (-1 : Int32), .ref q11, .ref q12, .int 0, .int (2 : Int32), .int (1 : Int32), .ref q13, .int 0, .ref q14, .ref q15, .int 0, .ref q16, .int 0, .int 0, .int 0, .int 0, .int 0, .int 0, .ref q17, .ref q18, .ref q19, .ref q20, .ref q21, .null, .null, .null, .null, .int 0, .int 0, .null, .null, .null, .null])) :: T21) := hD
  refine lv_aload_n hx hb zd_Mo_init_199 rfl (lv_at hl 0 rfl) ?_
  refine lv_iconst (v := (4 : Int32)) hx hb zd_Mo_init_200 (by decide) ?_
  refine va_newa (atype := .int) (ty := .int) hx hb (hts _ zw100) rfl hK hP hD hS hA (n := 4) (N' := 4) (a0 := (4, .inl (fun _ => (0 : Int32)))) (fun _ => rfl) (by decide) (by decide) (Nat.le_of_ble_eq_true rfl) (Nat.le_of_ble_eq_true rfl) (Nat.le_of_ble_eq_true rfl) zd_Mo_init_201 (fun q22 cA H hK1 hP hD hS => ?_)
  obtain rfl := K_new 0 hK1 rfl
  obtain ⟨T22, eT22⟩ : ∃ T, T = T21 ++ [(q22, .inl (AC 0, 4, .inl (fun _ => (0 : Int32))))] := ⟨_, rfl⟩
  have hP : va_P D cl ((h0, .inr (6, [.ref q1, .ref q2, .ref q3, .int 0, .ref q4, .ref q5, .ref q6, .ref q7, .ref q8, .ref q9, .ref q10, .int (-1 : Int32), .ref q11, .ref q12, .int 0, .int (2 : Int32), .int (1 : Int32), .ref q13, .int 0, .ref q14, .ref q15, .int 0, .ref q16, .int 0, .int 0, .int 0, .int 0, .int 0, .int 0, .ref q17, .ref q18, .ref q19, .ref q20, .ref q21, .null, .null, .null, .null, .int 0, .int 0, .null, .null, .null, .null])) :: T22) H := by rw [eT22]; exact hP
  have hD : va_D A ((h0, .inr (6, [.ref q1, .ref q2, .ref q3, .int 0, .ref q4, .ref q5, .ref q6, .ref q7, .ref q8, .ref q9, .ref q10, .int (-1 : Int32), .ref q11, .ref q12, .int 0, .int (2 : Int32), .int (1 : Int32), .ref q13, .int 0, .ref q14, .ref q15, .int 0, .ref q16, .int 0, .int 0, .int 0, .int 0, .int 0, .int 0, .ref q17, .ref q18, .ref q19, .ref q20, .ref q21, .null, .null, .null, .null, .int 0, .int 0, .null, .null, .null, .null])) :: T22) := by rw [eT22]; exact hD
  refine va_putF (D := D) (ci := 6) (v := .ref q22) (C := "TypesInsideModel") (T := fT6) (N := 44) hx hb hts clw6 fY6 fYok6 zn6 hown hK hP hD hS 0 rfl rfl 34 (by decide) (hts _ zw892) (fun _ h9 => h9) rfl hin rfl (ty := fY6 34) (fYok6 34 (by decide)) rfl rfl (Nat.le_of_ble_eq_true rfl) zd_Mo_init_203 (fun H locs hP hD hS => ?_)
  have hP : va_P D cl ((h0, .inr (6, [.ref q1, .ref q2, .ref q3, .int 0, .ref q4, .ref q5, .ref q6, .ref q7, .ref q8, .ref q9, .ref q10, .int (-1 : Int32), .ref q11, .ref q12, .int 0, .int (2 : Int32), .int (1 : Int32), .ref q13, .int 0, .ref q14, .ref q15, .int 0, .ref q16, .int 0, .int 0, .int 0, .int 0, .int 0, .int 0, .ref q17, .ref q18, .ref q19, .ref q20, .ref q21, .ref q22, .null, .null, .null, .int 0, .int 0, .null, .null, .null, .null])) :: T22) H := hP
  have hD : va_D A ((h0, .inr (6, [.ref q1, .ref q2, .ref q3, .int 0, .ref q4, .ref q5, .ref q6, .ref q7, .ref q8, .ref q9, .ref q10, .int (-1 : Int32), .ref q11, .ref q12, .int 0, .int (2 : Int32), .int (1 : Int32), .ref q13, .int 0, .ref q14, .ref q15, .int 0, .ref q16, .int 0, .int 0, .int 0, .int 0, .int 0, .int 0, .ref q17, .ref q18, .ref q19, .ref q20, .ref q21, .ref q22, .null, .null, .null, .int 0, .int 0, .null, .null, .null, .null])) :: T22) := hD
  refine lv_aload_n hx hb zd_Mo_init_206 rfl (lv_at hl 0 rfl) ?_
  refine lv_iconst (v := (4 : Int32)) hx hb zd_Mo_init_207 (by decide) ?_
  refine va_newa (atype := .int) (ty := .int) hx hb (hts _ zw100) rfl hK hP hD hS hA (n := 4) (N' := 4) (a0 := (4, .inl (fun _ => (0 : Int32)))) (fun _ => rfl) (by decide) (by decide) (Nat.le_of_ble_eq_true rfl) (Nat.le_of_ble_eq_true rfl) (Nat.le_of_ble_eq_true rfl) zd_Mo_init_208 (fun q23 cA H hK1 hP hD hS => ?_)
  obtain rfl := K_new 0 hK1 rfl
  obtain ⟨T23, eT23⟩ : ∃ T, T = T22 ++ [(q23, .inl (AC 0, 4, .inl (fun _ => (0 : Int32))))] := ⟨_, rfl⟩
  have hP : va_P D cl ((h0, .inr (6, [.ref q1, .ref q2, .ref q3, .int 0, .ref q4, .ref q5, .ref q6, .ref q7, .ref q8, .ref q9, .ref q10, .int (-1 : Int32), .ref q11, .ref q12, .int 0, .int (2 : Int32), .int (1 : Int32), .ref q13, .int 0, .ref q14, .ref q15, .int 0, .ref q16, .int 0, .int 0, .int 0, .int 0, .int 0, .int 0, .ref q17, .ref q18, .ref q19, .ref q20, .ref q21, .ref q22, .null, .null, .null, .int 0, .int 0, .null, .null, .null, .null])) :: T23) H := by rw [eT23]; exact hP
  have hD : va_D A ((h0, .inr (6, [.ref q1, .ref q2, .ref q3, .int 0, .ref q4, .ref q5, .ref q6, .ref q7, .ref q8, .ref q9, .ref q10, .int (-1 : Int32), .ref q11, .ref q12, .int 0, .int (2 : Int32), .int (1 : Int32), .ref q13, .int 0, .ref q14, .ref q15, .int 0, .ref q16, .int 0, .int 0, .int 0, .int 0, .int 0, .int 0, .ref q17, .ref q18, .ref q19, .ref q20, .ref q21, .ref q22, .null, .null, .null, .int 0, .int 0, .null, .null, .null, .null])) :: T23) := by rw [eT23]; exact hD
  refine va_putF (D := D) (ci := 6) (v := .ref q23) (C := "TypesInsideModel") (T := fT6) (N := 44) hx hb hts clw6 fY6 fYok6 zn6 hown hK hP hD hS 0 rfl rfl 35 (by decide) (hts _ zw893) (fun _ h9 => h9) rfl hin rfl (ty := fY6 35) (fYok6 35 (by decide)) rfl rfl (Nat.le_of_ble_eq_true rfl) zd_Mo_init_210 (fun H locs hP hD hS => ?_)
  have hP : va_P D cl ((h0, .inr (6, [.ref q1, .ref q2, .ref q3, .int 0, .ref q4, .ref q5, .ref q6, .ref q7, .ref q8, .ref q9, .ref q10, .int (-1 : Int32), .ref q11, .ref q12, .int 0, .int (2 : Int32), .int (1 : Int32), .ref q13, .int 0, .ref q14, .ref q15, .int 0, .ref q16, .int 0, .int 0, .int 0, .int 0, .int 0, .int 0, .ref q17, .ref q18, .ref q19, .ref q20, .ref q21, .ref q22, .ref q23, .null, .null, .int 0, .int 0, .null, .null, .null, .null])) :: T23) H := hP
  have hD : va_D A ((h0, .inr (6, [.ref q1, .ref q2, .ref q3, .int 0, .ref q4, .ref q5, .ref q6, .ref q7, .ref q8, .ref q9, .ref q10, .int (-1 : Int32), .ref q11, .ref q12, .int 0, .int (2 : Int32), .int (1 : Int32), .ref q13, .int 0, .ref q14, .ref q15, .int 0, .ref q16, .int 0, .int 0, .int 0, .int 0, .int 0, .int 0, .ref q17, .ref q18, .ref q19, .ref q20, .ref q21, .ref q22, .ref q23, .null, .null, .int 0, .int 0, .null, .null, .null, .null])) :: T23) := hD
  refine lv_aload_n hx hb zd_Mo_init_213 rfl (lv_at hl 0 rfl) ?_
  refine lv_bipush (v := (80 : Int32)) hx hb zd_Mo_init_214 (by decide) ?_
  refine va_newa (atype := .int) (ty := .int) hx hb (hts _ zw100) rfl hK hP hD hS hA (n := 80) (N' := 80) (a0 := (80, .inl (fun _ => (0 : Int32)))) (fun _ => rfl) (by decide) (by decide) (Nat.le_of_ble_eq_true rfl) (Nat.le_of_ble_eq_true rfl) (Nat.le_of_ble_eq_true rfl) zd_Mo_init_216 (fun q24 cA H hK1 hP hD hS => ?_)
  obtain rfl := K_new 0 hK1 rfl
  obtain ⟨T24, eT24⟩ : ∃ T, T = T23 ++ [(q24, .inl (AC 0, 80, .inl (fun _ => (0 : Int32))))] := ⟨_, rfl⟩
  have hP : va_P D cl ((h0, .inr (6, [.ref q1, .ref q2, .ref q3, .int 0, .ref q4, .ref q5, .ref q6, .ref q7, .ref q8, .ref q9, .ref q10, .int (-1 : Int32), .ref q11, .ref q12, .int 0, .int (2 : Int32), .int (1 : Int32), .ref q13, .int 0, .ref q14, .ref q15, .int 0, .ref q16, .int 0, .int 0, .int 0, .int 0, .int 0, .int 0, .ref q17, .ref q18, .ref q19, .ref q20, .ref q21, .ref q22, .ref q23, .null, .null, .int 0, .int 0, .null, .null, .null, .null])) :: T24) H := by rw [eT24]; exact hP
  have hD : va_D A ((h0, .inr (6, [.ref q1, .ref q2, .ref q3, .int 0, .ref q4, .ref q5, .ref q6, .ref q7, .ref q8, .ref q9, .ref q10, .int (-1 : Int32), .ref q11, .ref q12, .int 0, .int (2 : Int32), .int (1 : Int32), .ref q13, .int 0, .ref q14, .ref q15, .int 0, .ref q16, .int 0, .int 0, .int 0, .int 0, .int 0, .int 0, .ref q17, .ref q18, .ref q19, .ref q20, .ref q21, .ref q22, .ref q23, .null, .null, .int 0, .int 0, .null, .null, .null, .null])) :: T24) := by rw [eT24]; exact hD
  refine va_putF (D := D) (ci := 6) (v := .ref q24) (C := "TypesInsideModel") (T := fT6) (N := 44) hx hb hts clw6 fY6 fYok6 zn6 hown hK hP hD hS 0 rfl rfl 36 (by decide) (hts _ zw894) (fun _ h9 => h9) rfl hin rfl (ty := fY6 36) (fYok6 36 (by decide)) rfl rfl (Nat.le_of_ble_eq_true rfl) zd_Mo_init_218 (fun H locs hP hD hS => ?_)
  have hP : va_P D cl ((h0, .inr (6, [.ref q1, .ref q2, .ref q3, .int 0, .ref q4, .ref q5, .ref q6, .ref q7, .ref q8, .ref q9, .ref q10, .int (-1 : Int32), .ref q11, .ref q12, .int 0, .int (2 : Int32), .int (1 : Int32), .ref q13, .int 0, .ref q14, .ref q15, .int 0, .ref q16, .int 0, .int 0, .int 0, .int 0, .int 0, .int 0, .ref q17, .ref q18, .ref q19, .ref q20, .ref q21, .ref q22, .ref q23, .ref q24, .null, .int 0, .int 0, .null, .null, .null, .null])) :: T24) H := hP
  have hD : va_D A ((h0, .inr (6, [.ref q1, .ref q2, .ref q3, .int 0, .ref q4, .ref q5, .ref q6, .ref q7, .ref q8, .ref q9, .ref q10, .int (-1 : Int32), .ref q11, .ref q12, .int 0, .int (2 : Int32), .int (1 : Int32), .ref q13, .int 0, .ref q14, .ref q15, .int 0, .ref q16, .int 0, .int 0, .int 0, .int 0, .int 0, .int 0, .ref q17, .ref q18, .ref q19, .ref q20, .ref q21, .ref q22, .ref q23, .ref q24, .null, .int 0, .int 0, .null, .null, .null, .null])) :: T24) := hD
  refine lv_aload_n hx hb zd_Mo_init_221 rfl (lv_at hl 0 rfl) ?_
  refine lv_bipush (v := (20 : Int32)) hx hb zd_Mo_init_222 (by decide) ?_
  refine va_newa (atype := .int) (ty := .int) hx hb (hts _ zw100) rfl hK hP hD hS hA (n := 20) (N' := 20) (a0 := (20, .inl (fun _ => (0 : Int32)))) (fun _ => rfl) (by decide) (by decide) (Nat.le_of_ble_eq_true rfl) (Nat.le_of_ble_eq_true rfl) (Nat.le_of_ble_eq_true rfl) zd_Mo_init_224 (fun q25 cA H hK1 hP hD hS => ?_)
  obtain rfl := K_new 0 hK1 rfl
  obtain ⟨T25, eT25⟩ : ∃ T, T = T24 ++ [(q25, .inl (AC 0, 20, .inl (fun _ => (0 : Int32))))] := ⟨_, rfl⟩
  have hP : va_P D cl ((h0, .inr (6, [.ref q1, .ref q2, .ref q3, .int 0, .ref q4, .ref q5, .ref q6, .ref q7, .ref q8, .ref q9, .ref q10, .int (-1 : Int32), .ref q11, .ref q12, .int 0, .int (2 : Int32), .int (1 : Int32), .ref q13, .int 0, .ref q14, .ref q15, .int 0, .ref q16, .int 0, .int 0, .int 0, .int 0, .int 0, .int 0, .ref q17, .ref q18, .ref q19, .ref q20, .ref q21, .ref q22, .ref q23, .ref q24, .null, .int 0, .int 0, .null, .null, .null, .null])) :: T25) H := by rw [eT25]; exact hP
  have hD : va_D A ((h0, .inr (6, [.ref q1, .ref q2, .ref q3, .int 0, .ref q4, .ref q5, .ref q6, .ref q7, .ref q8, .ref q9, .ref q10, .int (-1 : Int32), .ref q11, .ref q12, .int 0, .int (2 : Int32), .int (1 : Int32), .ref q13, .int 0, .ref q14, .ref q15, .int 0, .ref q16, .int 0, .int 0, .int 0, .int 0, .int 0, .int 0, .ref q17, .ref q18, .ref q19, .ref q20, .ref q21, .ref q22, .ref q23, .ref q24, .null, .int 0, .int 0, .null, .null, .null, .null])) :: T25) := by rw [eT25]; exact hD
  refine va_putF (D := D) (ci := 6) (v := .ref q25) (C := "TypesInsideModel") (T := fT6) (N := 44) hx hb hts clw6 fY6 fYok6 zn6 hown hK hP hD hS 0 rfl rfl 37 (by decide) (hts _ zw895) (fun _ h9 => h9) rfl hin rfl (ty := fY6 37) (fYok6 37 (by decide)) rfl rfl (Nat.le_of_ble_eq_true rfl) zd_Mo_init_226 (fun H locs hP hD hS => ?_)
  have hP : va_P D cl ((h0, .inr (6, [.ref q1, .ref q2, .ref q3, .int 0, .ref q4, .ref q5, .ref q6, .ref q7, .ref q8, .ref q9, .ref q10, .int (-1 : Int32), .ref q11, .ref q12, .int 0, .int (2 : Int32), .int (1 : Int32), .ref q13, .int 0, .ref q14, .ref q15, .int 0, .ref q16, .int 0, .int 0, .int 0, .int 0, .int 0, .int 0, .ref q17, .ref q18, .ref q19, .ref q20, .ref q21, .ref q22, .ref q23, .ref q24, .ref q25, .int 0, .int 0, .null, .null, .null, .null])) :: T25) H := hP
  have hD : va_D A ((h0, .inr (6, [.ref q1, .ref q2, .ref q3, .int 0, .ref q4, .ref q5, .ref q6, .ref q7, .ref q8, .ref q9, .ref q10, .int (-1 : Int32), .ref q11, .ref q12, .int 0, .int (2 : Int32), .int (1 : Int32), .ref q13, .int 0, .ref q14, .ref q15, .int 0, .ref q16, .int 0, .int 0, .int 0, .int 0, .int 0, .int 0, .ref q17, .ref q18, .ref q19, .ref q20, .ref q21, .ref q22, .ref q23, .ref q24, .ref q25, .int 0, .int 0, .null, .null, .null, .null])) :: T25) := hD
  refine lv_aload_n hx hb zd_Mo_init_229 rfl (lv_at hl 0 rfl) ?_
  refine lv_iconst (v := (-1 : Int32)) hx hb zd_Mo_init_230 (by decide) ?_
  refine va_put (D := D) (ci := 6) (v := .int (-1 : Int32)) (C := "TypesInsideModel") (T := fT6) (N := 44) hx hb hts clw6 fY6 fYok6 zn6 hown hK hP hD hS 0 rfl rfl 38 (by decide) (hts _ zw896) (fun _ h9 => h9) rfl (ty := fY6 38) (fYok6 38 (by decide)) rfl rfl (Nat.le_of_ble_eq_true rfl) zd_Mo_init_231 (fun H locs hP hD hS => ?_)
  have hP : va_P D cl ((h0, .inr (6, [.ref q1, .ref q2, .ref q3, .int 0, .ref q4, .ref q5, .ref q6, .ref q7, .ref q8, .ref q9, .ref q10, .int (-1 : Int32), .ref q11, .ref q12, .int 0, .int (2 : Int32), .int (1 : Int32), .ref q13, .int 0, .ref q14, .ref q15, .int 0, .ref q16, .int 0, .int 0, .int 0, .int 0, .int 0, .int 0, .ref q17, .ref q18, .ref q19, .ref q20, .ref q21, .ref q22, .ref q23, .ref q24, .ref q25, .int (-1 : Int32), .int 0, .null, .null, .null, .null])) :: T25) H := hP
  have hD : va_D A ((h0, .inr (6, [.ref q1, .ref q2, .ref q3, .int 0, .ref q4, .ref q5, .ref q6, .ref q7, .ref q8, .ref q9, .ref q10, .int (-1 : Int32), .ref q11, .ref q12, .int 0, .int (2 : Int32), .int (1 : Int32), .ref q13, .int 0, .ref q14, .ref q15, .int 0, .ref q16, .int 0, .int 0, .int 0, .int 0, .int 0, .int 0, .ref q17, .ref q18, .ref q19, .ref q20, .ref q21, .ref q22, .ref q23, .ref q24, .ref q25, .int (-1 : Int32), .int 0, .null, .null, .null, .null])) :: T25) := hD
  refine lv_aload_n hx hb zd_Mo_init_234 rfl (lv_at hl 0 rfl) ?_
  refine lv_sipush (v := (589 : Int32)) hx hb zd_Mo_init_235 (by decide) ?_
  refine va_newa (atype := .long) (ty := .long) hx hb (hts _ zw53) rfl hK hP hD hS hA (n := 589) (N' := 589) (a0 := (589, .inr (.inl (fun _ => (0 : Int64))))) (fun _ => rfl) (by decide) (by decide) (Nat.le_of_ble_eq_true rfl) (Nat.le_of_ble_eq_true rfl) (Nat.le_of_ble_eq_true rfl) zd_Mo_init_238 (fun q26 cA H hK1 hP hD hS => ?_)
  obtain rfl := K_new 1 hK1 rfl
  obtain ⟨T26, eT26⟩ : ∃ T, T = T25 ++ [(q26, .inl (AC 1, 589, .inr (.inl (fun _ => (0 : Int64)))))] := ⟨_, rfl⟩
  have hP : va_P D cl ((h0, .inr (6, [.ref q1, .ref q2, .ref q3, .int 0, .ref q4, .ref q5, .ref q6, .ref q7, .ref q8, .ref q9, .ref q10, .int (-1 : Int32), .ref q11, .ref q12, .int 0, .int (2 : Int32), .int (1 : Int32), .ref q13, .int 0, .ref q14, .ref q15, .int 0, .ref q16, .int 0, .int 0, .int 0, .int 0, .int 0, .int 0, .ref q17, .ref q18, .ref q19, .ref q20, .ref q21, .ref q22, .ref q23, .ref q24, .ref q25, .int (-1 : Int32), .int 0, .null, .null, .null, .null])) :: T26) H := by rw [eT26]; exact hP
  have hD : va_D A ((h0, .inr (6, [.ref q1, .ref q2, .ref q3, .int 0, .ref q4, .ref q5, .ref q6, .ref q7, .ref q8, .ref q9, .ref q10, .int (-1 : Int32), .ref q11, .ref q12, .int 0, .int (2 : Int32), .int (1 : Int32), .ref q13, .int 0, .ref q14, .ref q15, .int 0, .ref q16, .int 0, .int 0, .int 0, .int 0, .int 0, .int 0, .ref q17, .ref q18, .ref q19, .ref q20, .ref q21, .ref q22, .ref q23, .ref q24, .ref q25, .int (-1 : Int32), .int 0, .null, .null, .null, .null])) :: T26) := by rw [eT26]; exact hD
  refine va_putF (D := D) (ci := 6) (v := .ref q26) (C := "TypesInsideModel") (T := fT6) (N := 44) hx hb hts clw6 fY6 fYok6 zn6 hown hK hP hD hS 0 rfl rfl 40 (by decide) (hts _ zw898) (fun _ h9 => h9) rfl hin rfl (ty := fY6 40) (fYok6 40 (by decide)) rfl rfl (Nat.le_of_ble_eq_true rfl) zd_Mo_init_240 (fun H locs hP hD hS => ?_)
  have hP : va_P D cl ((h0, .inr (6, [.ref q1, .ref q2, .ref q3, .int 0, .ref q4, .ref q5, .ref q6, .ref q7, .ref q8, .ref q9, .ref q10, .int (-1 : Int32), .ref q11, .ref q12, .int 0, .int (2 : Int32), .int (1 : Int32), .ref q13, .int 0, .ref q14, .ref q15, .int 0, .ref q16, .int 0, .int 0, .int 0, .int 0, .int 0, .int 0, .ref q17, .ref q18, .ref q19, .ref q20, .ref q21, .ref q22, .ref q23, .ref q24, .ref q25, .int (-1 : Int32), .int 0, .ref q26, .null, .null, .null])) :: T26) H := hP
  have hD : va_D A ((h0, .inr (6, [.ref q1, .ref q2, .ref q3, .int 0, .ref q4, .ref q5, .ref q6, .ref q7, .ref q8, .ref q9, .ref q10, .int (-1 : Int32), .ref q11, .ref q12, .int 0, .int (2 : Int32), .int (1 : Int32), .ref q13, .int 0, .ref q14, .ref q15, .int 0, .ref q16, .int 0, .int 0, .int 0, .int 0, .int 0, .int 0, .ref q17, .ref q18, .ref q19, .ref q20, .ref q21, .ref q22, .ref q23, .ref q24, .ref q25, .int (-1 : Int32), .int 0, .ref q26, .null, .null, .null])) :: T26) := hD
  refine lv_aload_n hx hb zd_Mo_init_243 rfl (lv_at hl 0 rfl) ?_
  refine lv_iconst (v := (4 : Int32)) hx hb zd_Mo_init_244 (by decide) ?_
  refine va_newa (atype := .int) (ty := .int) hx hb (hts _ zw100) rfl hK hP hD hS hA (n := 4) (N' := 4) (a0 := (4, .inl (fun _ => (0 : Int32)))) (fun _ => rfl) (by decide) (by decide) (Nat.le_of_ble_eq_true rfl) (Nat.le_of_ble_eq_true rfl) (Nat.le_of_ble_eq_true rfl) zd_Mo_init_245 (fun q27 cA H hK1 hP hD hS => ?_)
  obtain rfl := K_new 0 hK1 rfl
  obtain ⟨T27, eT27⟩ : ∃ T, T = T26 ++ [(q27, .inl (AC 0, 4, .inl (fun _ => (0 : Int32))))] := ⟨_, rfl⟩
  have hP : va_P D cl ((h0, .inr (6, [.ref q1, .ref q2, .ref q3, .int 0, .ref q4, .ref q5, .ref q6, .ref q7, .ref q8, .ref q9, .ref q10, .int (-1 : Int32), .ref q11, .ref q12, .int 0, .int (2 : Int32), .int (1 : Int32), .ref q13, .int 0, .ref q14, .ref q15, .int 0, .ref q16, .int 0, .int 0, .int 0, .int 0, .int 0, .int 0, .ref q17, .ref q18, .ref q19, .ref q20, .ref q21, .ref q22, .ref q23, .ref q24, .ref q25, .int (-1 : Int32), .int 0, .ref q26, .null, .null, .null])) :: T27) H := by rw [eT27]; exact hP
  have hD : va_D A ((h0, .inr (6, [.ref q1, .ref q2, .ref q3, .int 0, .ref q4, .ref q5, .ref q6, .ref q7, .ref q8, .ref q9, .ref q10, .int (-1 : Int32), .ref q11, .ref q12, .int 0, .int (2 : Int32), .int (1 : Int32), .ref q13, .int 0, .ref q14, .ref q15, .int 0, .ref q16, .int 0, .int 0, .int 0, .int 0, .int 0, .int 0, .ref q17, .ref q18, .ref q19, .ref q20, .ref q21, .ref q22, .ref q23, .ref q24, .ref q25, .int (-1 : Int32), .int 0, .ref q26, .null, .null, .null])) :: T27) := by rw [eT27]; exact hD
  refine va_putF (D := D) (ci := 6) (v := .ref q27) (C := "TypesInsideModel") (T := fT6) (N := 44) hx hb hts clw6 fY6 fYok6 zn6 hown hK hP hD hS 0 rfl rfl 41 (by decide) (hts _ zw899) (fun _ h9 => h9) rfl hin rfl (ty := fY6 41) (fYok6 41 (by decide)) rfl rfl (Nat.le_of_ble_eq_true rfl) zd_Mo_init_247 (fun H locs hP hD hS => ?_)
  have hP : va_P D cl ((h0, .inr (6, [.ref q1, .ref q2, .ref q3, .int 0, .ref q4, .ref q5, .ref q6, .ref q7, .ref q8, .ref q9, .ref q10, .int (-1 : Int32), .ref q11, .ref q12, .int 0, .int (2 : Int32), .int (1 : Int32), .ref q13, .int 0, .ref q14, .ref q15, .int 0, .ref q16, .int 0, .int 0, .int 0, .int 0, .int 0, .int 0, .ref q17, .ref q18, .ref q19, .ref q20, .ref q21, .ref q22, .ref q23, .ref q24, .ref q25, .int (-1 : Int32), .int 0, .ref q26, .ref q27, .null, .null])) :: T27) H := hP
  have hD : va_D A ((h0, .inr (6, [.ref q1, .ref q2, .ref q3, .int 0, .ref q4, .ref q5, .ref q6, .ref q7, .ref q8, .ref q9, .ref q10, .int (-1 : Int32), .ref q11, .ref q12, .int 0, .int (2 : Int32), .int (1 : Int32), .ref q13, .int 0, .ref q14, .ref q15, .int 0, .ref q16, .int 0, .int 0, .int 0, .int 0, .int 0, .int 0, .ref q17, .ref q18, .ref q19, .ref q20, .ref q21, .ref q22, .ref q23, .ref q24, .ref q25, .int (-1 : Int32), .int 0, .ref q26, .ref q27, .null, .null])) :: T27) := hD
  refine lv_aload_n hx hb zd_Mo_init_250 rfl (lv_at hl 0 rfl) ?_
  refine lv_iconst (v := (4 : Int32)) hx hb zd_Mo_init_251 (by decide) ?_
  refine va_newa (atype := .int) (ty := .int) hx hb (hts _ zw100) rfl hK hP hD hS hA (n := 4) (N' := 4) (a0 := (4, .inl (fun _ => (0 : Int32)))) (fun _ => rfl) (by decide) (by decide) (Nat.le_of_ble_eq_true rfl) (Nat.le_of_ble_eq_true rfl) (Nat.le_of_ble_eq_true rfl) zd_Mo_init_252 (fun q28 cA H hK1 hP hD hS => ?_)
  obtain rfl := K_new 0 hK1 rfl
  obtain ⟨T28, eT28⟩ : ∃ T, T = T27 ++ [(q28, .inl (AC 0, 4, .inl (fun _ => (0 : Int32))))] := ⟨_, rfl⟩
  have hP : va_P D cl ((h0, .inr (6, [.ref q1, .ref q2, .ref q3, .int 0, .ref q4, .ref q5, .ref q6, .ref q7, .ref q8, .ref q9, .ref q10, .int (-1 : Int32), .ref q11, .ref q12, .int 0, .int (2 : Int32), .int (1 : Int32), .ref q13, .int 0, .ref q14, .ref q15, .int 0, .ref q16, .int 0, .int 0, .int 0, .int 0, .int 0, .int 0, .ref q17, .ref q18, .ref q19, .ref q20, .ref q21, .ref q22, .ref q23, .ref q24, .ref q25, .int (-1 : Int32), .int 0, .ref q26, .ref q27, .null, .null])) :: T28) H := by rw [eT28]; exact hP
  have hD : va_D A ((h0, .inr (6, [.ref q1, .ref q2, .ref q3, .int 0, .ref q4, .ref q5, .ref q6, .ref q7, .ref q8, .ref q9, .ref q10, .int (-1 : Int32), .ref q11, .ref q12, .int 0, .int (2 : Int32), .int (1 : Int32), .ref q13, .int 0, .ref q14, .ref q15, .int 0, .ref q16, .int 0, .int 0, .int 0, .int 0, .int 0, .int 0, .ref q17, .ref q18, .ref q19, .ref q20, .ref q21, .ref q22, .ref q23, .ref q24, .ref q25, .int (-1 : Int32), .int 0, .ref q26, .ref q27, .null, .null])) :: T28) := by rw [eT28]; exact hD
  refine va_putF (D := D) (ci := 6) (v := .ref q28) (C := "TypesInsideModel") (T := fT6) (N := 44) hx hb hts clw6 fY6 fYok6 zn6 hown hK hP hD hS 0 rfl rfl 42 (by decide) (hts _ zw900) (fun _ h9 => h9) rfl hin rfl (ty := fY6 42) (fYok6 42 (by decide)) rfl rfl (Nat.le_of_ble_eq_true rfl) zd_Mo_init_254 (fun H locs hP hD hS => ?_)
  have hP : va_P D cl ((h0, .inr (6, [.ref q1, .ref q2, .ref q3, .int 0, .ref q4, .ref q5, .ref q6, .ref q7, .ref q8, .ref q9, .ref q10, .int (-1 : Int32), .ref q11, .ref q12, .int 0, .int (2 : Int32), .int (1 : Int32), .ref q13, .int 0, .ref q14, .ref q15, .int 0, .ref q16, .int 0, .int 0, .int 0, .int 0, .int 0, .int 0, .ref q17, .ref q18, .ref q19, .ref q20, .ref q21, .ref q22, .ref q23, .ref q24, .ref q25, .int (-1 : Int32), .int 0, .ref q26, .ref q27, .ref q28, .null])) :: T28) H := hP
  have hD : va_D A ((h0, .inr (6, [.ref q1, .ref q2, .ref q3, .int 0, .ref q4, .ref q5, .ref q6, .ref q7, .ref q8, .ref q9, .ref q10, .int (-1 : Int32), .ref q11, .ref q12, .int 0, .int (2 : Int32), .int (1 : Int32), .ref q13, .int 0, .ref q14, .ref q15, .int 0, .ref q16, .int 0, .int 0, .int 0, .int 0, .int 0, .int 0, .ref q17, .ref q18, .ref q19, .ref q20, .ref q21, .ref q22, .ref q23, .ref q24, .ref q25, .int (-1 : Int32), .int 0, .ref q26, .ref q27, .ref q28, .null])) :: T28) := hD
  refine lv_aload_n hx hb zd_Mo_init_257 rfl (lv_at hl 0 rfl) ?_
  refine lv_bipush (v := (80 : Int32)) hx hb zd_Mo_init_258 (by decide) ?_
  refine va_newa (atype := .int) (ty := .int) hx hb (hts _ zw100) rfl hK hP hD hS hA (n := 80) (N' := 80) (a0 := (80, .inl (fun _ => (0 : Int32)))) (fun _ => rfl) (by decide) (by decide) (Nat.le_of_ble_eq_true rfl) (Nat.le_of_ble_eq_true rfl) (Nat.le_of_ble_eq_true rfl) zd_Mo_init_260 (fun q29 cA H hK1 hP hD hS => ?_)
  obtain rfl := K_new 0 hK1 rfl
  obtain ⟨T29, eT29⟩ : ∃ T, T = T28 ++ [(q29, .inl (AC 0, 80, .inl (fun _ => (0 : Int32))))] := ⟨_, rfl⟩
  have hP : va_P D cl ((h0, .inr (6, [.ref q1, .ref q2, .ref q3, .int 0, .ref q4, .ref q5, .ref q6, .ref q7, .ref q8, .ref q9, .ref q10, .int (-1 : Int32), .ref q11, .ref q12, .int 0, .int (2 : Int32), .int (1 : Int32), .ref q13, .int 0, .ref q14, .ref q15, .int 0, .ref q16, .int 0, .int 0, .int 0, .int 0, .int 0, .int 0, .ref q17, .ref q18, .ref q19, .ref q20, .ref q21, .ref q22, .ref q23, .ref q24, .ref q25, .int (-1 : Int32), .int 0, .ref q26, .ref q27, .ref q28, .null])) :: T29) H := by rw [eT29]; exact hP
  have hD : va_D A ((h0, .inr (6, [.ref q1, .ref q2, .ref q3, .int 0, .ref q4, .ref q5, .ref q6, .ref q7, .ref q8, .ref q9, .ref q10, .int (-1 : Int32), .ref q11, .ref q12, .int 0, .int (2 : Int32), .int (1 : Int32), .ref q13, .int 0, .ref q14, .ref q15, .int 0, .ref q16, .int 0, .int 0, .int 0, .int 0, .int 0, .int 0, .ref q17, .ref q18, .ref q19, .ref q20, .ref q21, .ref q22, .ref q23, .ref q24, .ref q25, .int (-1 : Int32), .int 0, .ref q26, .ref q27, .ref q28, .null])) :: T29) := by rw [eT29]; exact hD
  refine va_putF (D := D) (ci := 6) (v := .ref q29) (C := "TypesInsideModel") (T := fT6) (N := 44) hx hb hts clw6 fY6 fYok6 zn6 hown hK hP hD hS 0 rfl rfl 43 (by decide) (hts _ zw901) (fun _ h9 => h9) rfl hin rfl (ty := fY6 43) (fYok6 43 (by decide)) rfl rfl (Nat.le_of_ble_eq_true rfl) zd_Mo_init_262 (fun H locs hP hD hS => ?_)
  have hP : va_P D cl ((h0, .inr (6, [.ref q1, .ref q2, .ref q3, .int 0, .ref q4, .ref q5, .ref q6, .ref q7, .ref q8, .ref q9, .ref q10, .int (-1 : Int32), .ref q11, .ref q12, .int 0, .int (2 : Int32), .int (1 : Int32), .ref q13, .int 0, .ref q14, .ref q15, .int 0, .ref q16, .int 0, .int 0, .int 0, .int 0, .int 0, .int 0, .ref q17, .ref q18, .ref q19, .ref q20, .ref q21, .ref q22, .ref q23, .ref q24, .ref q25, .int (-1 : Int32), .int 0, .ref q26, .ref q27, .ref q28, .ref q29])) :: T29) H := hP
  have hD : va_D A ((h0, .inr (6, [.ref q1, .ref q2, .ref q3, .int 0, .ref q4, .ref q5, .ref q6, .ref q7, .ref q8, .ref q9, .ref q10, .int (-1 : Int32), .ref q11, .ref q12, .int 0, .int (2 : Int32), .int (1 : Int32), .ref q13, .int 0, .ref q14, .ref q15, .int 0, .ref q16, .int 0, .int 0, .int 0, .int 0, .int 0, .int 0, .ref q17, .ref q18, .ref q19, .ref q20, .ref q21, .ref q22, .ref q23, .ref q24, .ref q25, .int (-1 : Int32), .int 0, .ref q26, .ref q27, .ref q28, .ref q29])) :: T29) := hD
  obtain ⟨q, eq⟩ : ∃ q : Nat → Nat, q = (fun i => ([q1, q2, q3, q4, q5, q6, q7, q8, q9, q10, q11, q12, q13, q14, q15, q16, q17, q18, q19, q20, q21, q22, q23, q24, q25, q26, q27, q28, q29] : List Nat).getD i 0) := ⟨_, rfl⟩
  have w0 : q 0 = q1 := congrFun eq 0
  have w1 : q 1 = q2 := congrFun eq 1
  have w2 : q 2 = q3 := congrFun eq 2
  have w3 : q 3 = q4 := congrFun eq 3
  have w4 : q 4 = q5 := congrFun eq 4
  have w5 : q 5 = q6 := congrFun eq 5
  have w6 : q 6 = q7 := congrFun eq 6
  have w7 : q 7 = q8 := congrFun eq 7
  have w8 : q 8 = q9 := congrFun eq 8
  have w9 : q 9 = q10 := congrFun eq 9
  have w10 : q 10 = q11 := congrFun eq 10
  have w11 : q 11 = q12 := congrFun eq 11
  have w12 : q 12 = q13 := congrFun eq 12
  have w13 : q 13 = q14 := congrFun eq 13
  have w14 : q 14 = q15 := congrFun eq 14
  have w15 : q 15 = q16 := congrFun eq 15
  have w16 : q 16 = q17 := congrFun eq 16
  have w17 : q 17 = q18 := congrFun eq 17
  have w18 : q 18 = q19 := congrFun eq 18
  have w19 : q 19 = q20 := congrFun eq 19
  have w20 : q 20 = q21 := congrFun eq 20
  have w21 : q 21 = q22 := congrFun eq 21
  have w22 : q 22 = q23 := congrFun eq 22
  have w23 : q 23 = q24 := congrFun eq 23
  have w24 : q 24 = q25 := congrFun eq 24
  have w25 : q 25 = q26 := congrFun eq 25
  have w26 : q 26 = q27 := congrFun eq 26
  have w27 : q 27 = q28 := congrFun eq 27
  have w28 : q 28 = q29 := congrFun eq 28
  have hh := P_hd hP
  have hPT := P_tl hP
  rw [eT29] at hPT
  have p28 := P_hd (P_r hPT)
  have hPT := P_l hPT
  rw [eT28] at hPT
  have p27 := P_hd (P_r hPT)
  have hPT := P_l hPT
  rw [eT27] at hPT
  have p26 := P_hd (P_r hPT)
  have hPT := P_l hPT
  rw [eT26] at hPT
  have p25 := P_hd (P_r hPT)
  have hPT := P_l hPT
  rw [eT25] at hPT
  have p24 := P_hd (P_r hPT)
  have hPT := P_l hPT
  rw [eT24] at hPT
  have p23 := P_hd (P_r hPT)
  have hPT := P_l hPT
  rw [eT23] at hPT
  have p22 := P_hd (P_r hPT)
  have hPT := P_l hPT
  rw [eT22] at hPT
  have p21 := P_hd (P_r hPT)
  have hPT := P_l hPT
  rw [eT21] at hPT
  have p20 := P_hd (P_r hPT)
  have hPT := P_l hPT
  rw [eT20] at hPT
  have p19 := P_hd (P_r hPT)
  have hPT := P_l hPT
  rw [eT19] at hPT
  have p18 := P_hd (P_r hPT)
  have hPT := P_l hPT
  rw [eT18] at hPT
  have p17 := P_hd (P_r hPT)
  have hPT := P_l hPT
  rw [eT17] at hPT
  have p16 := P_hd (P_r hPT)
  have hPT := P_l hPT
  rw [eT16] at hPT
  have p15 := P_hd (P_r hPT)
  have hPT := P_l hPT
  rw [eT15] at hPT
  have p14 := P_hd (P_r hPT)
  have hPT := P_l hPT
  rw [eT14] at hPT
  have p13 := P_hd (P_r hPT)
  have hPT := P_l hPT
  rw [eT13] at hPT
  have p12 := P_hd (P_r hPT)
  have hPT := P_l hPT
  rw [eT12] at hPT
  have p11 := P_hd (P_r hPT)
  have hPT := P_l hPT
  rw [eT11] at hPT
  have p10 := P_hd (P_r hPT)
  have hPT := P_l hPT
  rw [eT10] at hPT
  have p9 := P_hd (P_r hPT)
  have hPT := P_l hPT
  rw [eT9] at hPT
  have p8 := P_hd (P_r hPT)
  have hPT := P_l hPT
  rw [eT8] at hPT
  have p7 := P_hd (P_r hPT)
  have hPT := P_l hPT
  rw [eT7] at hPT
  have p6 := P_hd (P_r hPT)
  have hPT := P_l hPT
  rw [eT6] at hPT
  have p5 := P_hd (P_r hPT)
  have hPT := P_l hPT
  rw [eT5] at hPT
  have p4 := P_hd (P_r hPT)
  have hPT := P_l hPT
  rw [eT4] at hPT
  have p3 := P_hd (P_r hPT)
  have hPT := P_l hPT
  rw [eT3] at hPT
  have p2 := P_hd (P_r hPT)
  have hPT := P_l hPT
  rw [eT2] at hPT
  have p1 := P_hd (P_r hPT)
  have hPT := P_l hPT
  rw [eT1] at hPT
  have p0 := P_hd (P_r hPT)
  have hPT := P_l hPT
  rw [eT0] at hPT
  have hq : ∀ i, i < 29 → va_at D cl (q i, cE AC ad0 μz (307 + i)) H := fun i hi => by
    rcases (show i = 0 ∨ i = 1 ∨ i = 2 ∨ i = 3 ∨ i = 4 ∨ i = 5 ∨ i = 6 ∨ i = 7 ∨ i = 8 ∨ i = 9 ∨ i = 10 ∨ i = 11 ∨ i = 12 ∨ i = 13 ∨ i = 14 ∨ i = 15 ∨ i = 16 ∨ i = 17 ∨ i = 18 ∨ i = 19 ∨ i = 20 ∨ i = 21 ∨ i = 22 ∨ i = 23 ∨ i = 24 ∨ i = 25 ∨ i = 26 ∨ i = 27 ∨ i = 28 by omega) with rfl | rfl | rfl | rfl | rfl | rfl | rfl | rfl | rfl | rfl | rfl | rfl | rfl | rfl | rfl | rfl | rfl | rfl | rfl | rfl | rfl | rfl | rfl | rfl | rfl | rfl | rfl | rfl | rfl
    · show va_at D cl (q 0, cE AC ad0 μz 307) H; rw [w0, mo_ci 307 rfl (by omega) (show shN 307 = 19 from rfl)]; exact p0
    · show va_at D cl (q 1, cE AC ad0 μz 308) H; rw [w1, mo_ci 308 rfl (by omega) (show shN 308 = 19 from rfl)]; exact p1
    · show va_at D cl (q 2, cE AC ad0 μz 309) H; rw [w2, mo_ci 309 rfl (by omega) (show shN 309 = 133 from rfl)]; exact p2
    · show va_at D cl (q 3, cE AC ad0 μz 310) H; rw [w3, mo_cl 310 rfl (by omega) (show shN 310 = 31 from rfl)]; exact p3
    · show va_at D cl (q 4, cE AC ad0 μz 311) H; rw [w4, mo_cl 311 rfl (by omega) (show shN 311 = 31 from rfl)]; exact p4
    · show va_at D cl (q 5, cE AC ad0 μz 312) H; rw [w5, mo_cl 312 rfl (by omega) (show shN 312 = 1116 from rfl)]; exact p5
    · show va_at D cl (q 6, cE AC ad0 μz 313) H; rw [w6, mo_cl 313 rfl (by omega) (show shN 313 = 11191 from rfl)]; exact p6
    · show va_at D cl (q 7, cE AC ad0 μz 314) H; rw [w7, mo_cl 314 rfl (by omega) (show shN 314 = 589 from rfl)]; exact p7
    · show va_at D cl (q 8, cE AC ad0 μz 315) H; rw [w8, mo_cl 315 rfl (by omega) (show shN 315 = 589 from rfl)]; exact p8
    · show va_at D cl (q 9, cE AC ad0 μz 316) H; rw [w9, mo_cl 316 rfl (by omega) (show shN 316 = 589 from rfl)]; exact p9
    · show va_at D cl (q 10, cE AC ad0 μz 317) H; rw [w10, mo_cl 317 rfl (by omega) (show shN 317 = 31 from rfl)]; exact p10
    · show va_at D cl (q 11, cE AC ad0 μz 318) H; rw [w11, mo_cl 318 rfl (by omega) (show shN 318 = 589 from rfl)]; exact p11
    · show va_at D cl (q 12, cE AC ad0 μz 319) H; rw [w12, mo_ci 319 rfl (by omega) (show shN 319 = 5 from rfl)]; exact p12
    · show va_at D cl (q 13, cE AC ad0 μz 320) H; rw [w13, mo_ci 320 rfl (by omega) (show shN 320 = 6 from rfl)]; exact p13
    · show va_at D cl (q 14, cE AC ad0 μz 321) H; rw [w14, mo_cl 321 rfl (by omega) (show shN 321 = 400 from rfl)]; exact p14
    · show va_at D cl (q 15, cE AC ad0 μz 322) H; rw [w15, mo_ci 322 rfl (by omega) (show shN 322 = 40 from rfl)]; exact p15
    · show va_at D cl (q 16, cE AC ad0 μz 323) H; rw [w16, mo_cl 323 rfl (by omega) (show shN 323 = 1767 from rfl)]; exact p16
    · show va_at D cl (q 17, cE AC ad0 μz 324) H; rw [w17, mo_cl 324 rfl (by omega) (show shN 324 = 1767 from rfl)]; exact p17
    · show va_at D cl (q 18, cE AC ad0 μz 325) H; rw [w18, mo_cl 325 rfl (by omega) (show shN 325 = 589 from rfl)]; exact p18
    · show va_at D cl (q 19, cE AC ad0 μz 326) H; rw [w19, mo_cl 326 rfl (by omega) (show shN 326 = 589 from rfl)]; exact p19
    · show va_at D cl (q 20, cE AC ad0 μz 327) H; rw [w20, mo_cl 327 rfl (by omega) (show shN 327 = 589 from rfl)]; exact p20
    · show va_at D cl (q 21, cE AC ad0 μz 328) H; rw [w21, mo_ci 328 rfl (by omega) (show shN 328 = 4 from rfl)]; exact p21
    · show va_at D cl (q 22, cE AC ad0 μz 329) H; rw [w22, mo_ci 329 rfl (by omega) (show shN 329 = 4 from rfl)]; exact p22
    · show va_at D cl (q 23, cE AC ad0 μz 330) H; rw [w23, mo_ci 330 rfl (by omega) (show shN 330 = 80 from rfl)]; exact p23
    · show va_at D cl (q 24, cE AC ad0 μz 331) H; rw [w24, mo_ci 331 rfl (by omega) (show shN 331 = 20 from rfl)]; exact p24
    · show va_at D cl (q 25, cE AC ad0 μz 332) H; rw [w25, mo_cl 332 rfl (by omega) (show shN 332 = 589 from rfl)]; exact p25
    · show va_at D cl (q 26, cE AC ad0 μz 333) H; rw [w26, mo_ci 333 rfl (by omega) (show shN 333 = 4 from rfl)]; exact p26
    · show va_at D cl (q 27, cE AC ad0 μz 334) H; rw [w27, mo_ci 334 rfl (by omega) (show shN 334 = 4 from rfl)]; exact p27
    · show va_at D cl (q 28, cE AC ad0 μz 335) H; rw [w28, mo_ci 335 rfl (by omega) (show shN 335 = 80 from rfl)]; exact p28
  have hf : fl (adM ad0 h0 q) 6 306 (cN 6) (μz.1 306) = [.ref q1, .ref q2, .ref q3, .int 0, .ref q4, .ref q5, .ref q6, .ref q7, .ref q8, .ref q9, .ref q10, .int (-1 : Int32), .ref q11, .ref q12, .int 0, .int (2 : Int32), .int (1 : Int32), .ref q13, .int 0, .ref q14, .ref q15, .int 0, .ref q16, .int 0, .int 0, .int 0, .int 0, .int 0, .int 0, .ref q17, .ref q18, .ref q19, .ref q20, .ref q21, .ref q22, .ref q23, .ref q24, .ref q25, .int (-1 : Int32), .int 0, .ref q26, .ref q27, .ref q28, .ref q29] := by
    rw [mo_fl, w0, w1, w2, w3, w4, w5, w6, w7, w8, w9, w10, w11, w12, w13, w14, w15, w16, w17, w18, w19, w20, w21, w22, w23, w24, w25, w26, w27, w28]
  have hWA : va_P D cl (wl kA AC (adM ad0 h0 q) μz) H := mo_P hPT hh hf hq
  obtain ⟨S, eS⟩ : ∃ S : va_W, S = [(q1, .inl (AC 0, 19, .inl (fun _ => (0 : Int32)))), (q2, .inl (AC 0, 19, .inl (fun _ => (0 : Int32)))), (q3, .inl (AC 0, 133, .inl (fun _ => (0 : Int32)))), (q4, .inl (AC 1, 31, .inr (.inl (fun _ => (0 : Int64))))), (q5, .inl (AC 1, 31, .inr (.inl (fun _ => (0 : Int64))))), (q6, .inl (AC 1, 1116, .inr (.inl (fun _ => (0 : Int64))))), (q7, .inl (AC 1, 11191, .inr (.inl (fun _ => (0 : Int64))))), (q8, .inl (AC 1, 589, .inr (.inl (fun _ => (0 : Int64))))), (q9, .inl (AC 1, 589, .inr (.inl (fun _ => (0 : Int64))))), (q10, .inl (AC 1, 589, .inr (.inl (fun _ => (0 : Int64))))), (q11, .inl (AC 1, 31, .inr (.inl (fun _ => (0 : Int64))))), (q12, .inl (AC 1, 589, .inr (.inl (fun _ => (0 : Int64))))), (q13, .inl (AC 0, 5, .inl (fun _ => (0 : Int32)))), (q14, .inl (AC 0, 6, .inl (fun _ => (0 : Int32)))), (q15, .inl (AC 1, 400, .inr (.inl (fun _ => (0 : Int64))))), (q16, .inl (AC 0, 40, .inl (fun _ => (0 : Int32)))), (q17, .inl (AC 1, 1767, .inr (.inl (fun _ => (0 : Int64))))), (q18, .inl (AC 1, 1767, .inr (.inl (fun _ => (0 : Int64))))), (q19, .inl (AC 1, 589, .inr (.inl (fun _ => (0 : Int64))))), (q20, .inl (AC 1, 589, .inr (.inl (fun _ => (0 : Int64))))), (q21, .inl (AC 1, 589, .inr (.inl (fun _ => (0 : Int64))))), (q22, .inl (AC 0, 4, .inl (fun _ => (0 : Int32)))), (q23, .inl (AC 0, 4, .inl (fun _ => (0 : Int32)))), (q24, .inl (AC 0, 80, .inl (fun _ => (0 : Int32)))), (q25, .inl (AC 0, 20, .inl (fun _ => (0 : Int32)))), (q26, .inl (AC 1, 589, .inr (.inl (fun _ => (0 : Int64))))), (q27, .inl (AC 0, 4, .inl (fun _ => (0 : Int32)))), (q28, .inl (AC 0, 4, .inl (fun _ => (0 : Int32)))), (q29, .inl (AC 0, 80, .inl (fun _ => (0 : Int32))))] := ⟨_, rfl⟩
  have hTS : T29 = T0 ++ S := by
    rw [eS, eT29, eT28, eT27, eT26, eT25, eT24, eT23, eT22, eT21, eT20, eT19, eT18, eT17, eT16, eT15, eT14, eT13, eT12, eT11, eT10, eT9, eT8, eT7, eT6, eT5, eT4, eT3, eT2, eT1]
    simp only [List.append_assoc, List.cons_append, List.nil_append]
  have hSm : S.map (fun x => x.1) = (List.range 29).map q := by
    rw [eS, show List.range 29 = [0, 1, 2, 3, 4, 5, 6, 7, 8, 9, 10, 11, 12, 13, 14, 15, 16, 17, 18, 19, 20, 21, 22, 23, 24, 25, 26, 27, 28] from rfl]
    simp only [List.map_cons, List.map_nil, w0, w1, w2, w3, w4, w5, w6, w7, w8, w9, w10, w11, w12, w13, w14, w15, w16, w17, w18, w19, w20, w21, w22, w23, w24, w25, w26, w27, w28]
  rw [hTS, eT0] at hD
  have hDA := mo_D hD hSm
  generalize hade : adM ad0 h0 q = ad at hWA hDA
  have had : ad 306 = h0 ∧ ∀ k, k < 306 → ad k = ad0 k := by rw [← hade]; exact ⟨adM_h, fun k hk => adM_l hk⟩
  have hi : adI kA ad := adI_of List.nodup_range hDA
  have hAr : ∀ q, Ar kA ad q → A q := Ar_of hDA
  refine W.widen (k := 29) (n := 21464) (Nat.le_of_ble_eq_true rfl) (Nat.le_of_ble_eq_true rfl) ?_
  exact mo_calls l ⟨hx, hb, hml, hown, hts, hr, hlocks⟩ hK hN hAr hi hWA hDA hS had.1 had.2 hl
