/-! what the program's data say is so: each instruction decodes to what is written, and stands on rows of the tables -/
def NM : Nat := 254
theorem lc1 {w : Jvm.Cond} (j : Nat) (e : tables_1_1[j]? = some w) (g : goodWord w = true) : w ∈ LW := by
  have h := List.mem_of_getElem? e
  exact List.mem_filter.mpr ⟨List.mem_append_right _ (show w ∈ tables_1 from List.mem_append_left _ h), g⟩
theorem lc2 {w : Jvm.Cond} (j : Nat) (e : tables_1_2[j]? = some w) (g : goodWord w = true) : w ∈ LW := by
  have h := List.mem_of_getElem? e
  exact List.mem_filter.mpr ⟨List.mem_append_right _ (show w ∈ tables_1 from List.mem_append_right _ (List.mem_append_left _ h)), g⟩
theorem lc3 {w : Jvm.Cond} (j : Nat) (e : tables_1_3[j]? = some w) (g : goodWord w = true) : w ∈ LW := by
  have h := List.mem_of_getElem? e
  exact List.mem_filter.mpr ⟨List.mem_append_right _ (show w ∈ tables_1 from List.mem_append_right _ (List.mem_append_right _ (List.mem_append_left _ h))), g⟩
theorem lc4 {w : Jvm.Cond} (j : Nat) (e : tables_1_4[j]? = some w) (g : goodWord w = true) : w ∈ LW := by
  have h := List.mem_of_getElem? e
  exact List.mem_filter.mpr ⟨List.mem_append_right _ (show w ∈ tables_1 from List.mem_append_right _ (List.mem_append_right _ (List.mem_append_right _ (List.mem_append_left _ h)))), g⟩
theorem lc5 {w : Jvm.Cond} (j : Nat) (e : tables_1_5[j]? = some w) (g : goodWord w = true) : w ∈ LW := by
  have h := List.mem_of_getElem? e
  exact List.mem_filter.mpr ⟨List.mem_append_right _ (show w ∈ tables_1 from List.mem_append_right _ (List.mem_append_right _ (List.mem_append_right _ (List.mem_append_right _ (List.mem_append_left _ h))))), g⟩
theorem lc6 {w : Jvm.Cond} (j : Nat) (e : tables_1_6[j]? = some w) (g : goodWord w = true) : w ∈ LW := by
  have h := List.mem_of_getElem? e
  exact List.mem_filter.mpr ⟨List.mem_append_right _ (show w ∈ tables_1 from List.mem_append_right _ (List.mem_append_right _ (List.mem_append_right _ (List.mem_append_right _ (List.mem_append_right _ (h)))))), g⟩
theorem ls1 {q : MethodName × Nat} (j : Nat) (e : lw_privs_1[j]? = some q) : Jvm.Cond.selects q.1.cls q.1 q.1 ∈ LW := by
  have h := List.mem_of_getElem? e
  exact List.mem_filter.mpr ⟨List.mem_append_left _ (List.mem_map.mpr ⟨q, (show q ∈ lw_privs from List.mem_append_left _ h), rfl⟩), rfl⟩
theorem ls2 {q : MethodName × Nat} (j : Nat) (e : lw_privs_2[j]? = some q) : Jvm.Cond.selects q.1.cls q.1 q.1 ∈ LW := by
  have h := List.mem_of_getElem? e
  exact List.mem_filter.mpr ⟨List.mem_append_left _ (List.mem_map.mpr ⟨q, (show q ∈ lw_privs from List.mem_append_right _ (List.mem_append_left _ h)), rfl⟩), rfl⟩
theorem ls3 {q : MethodName × Nat} (j : Nat) (e : lw_privs_3[j]? = some q) : Jvm.Cond.selects q.1.cls q.1 q.1 ∈ LW := by
  have h := List.mem_of_getElem? e
  exact List.mem_filter.mpr ⟨List.mem_append_left _ (List.mem_map.mpr ⟨q, (show q ∈ lw_privs from List.mem_append_right _ (List.mem_append_right _ (List.mem_append_left _ h))), rfl⟩), rfl⟩
theorem ls4 {q : MethodName × Nat} (j : Nat) (e : lw_privs_4[j]? = some q) : Jvm.Cond.selects q.1.cls q.1 q.1 ∈ LW := by
  have h := List.mem_of_getElem? e
  exact List.mem_filter.mpr ⟨List.mem_append_left _ (List.mem_map.mpr ⟨q, (show q ∈ lw_privs from List.mem_append_right _ (List.mem_append_right _ (List.mem_append_right _ (List.mem_append_left _ h)))), rfl⟩), rfl⟩
theorem ls5 {q : MethodName × Nat} (j : Nat) (e : lw_privs_5[j]? = some q) : Jvm.Cond.selects q.1.cls q.1 q.1 ∈ LW := by
  have h := List.mem_of_getElem? e
  exact List.mem_filter.mpr ⟨List.mem_append_left _ (List.mem_map.mpr ⟨q, (show q ∈ lw_privs from List.mem_append_right _ (List.mem_append_right _ (List.mem_append_right _ (List.mem_append_right _ (List.mem_append_left _ h))))), rfl⟩), rfl⟩
theorem ls6 {q : MethodName × Nat} (j : Nat) (e : lw_privs_6[j]? = some q) : Jvm.Cond.selects q.1.cls q.1 q.1 ∈ LW := by
  have h := List.mem_of_getElem? e
  exact List.mem_filter.mpr ⟨List.mem_append_left _ (List.mem_map.mpr ⟨q, (show q ∈ lw_privs from List.mem_append_right _ (List.mem_append_right _ (List.mem_append_right _ (List.mem_append_right _ (List.mem_append_right _ (h)))))), rfl⟩), rfl⟩
def mlP (q : Nat × Nat × Nat) : Prop := Jvm.Cond.methodLink (pCn q.1) q.2.1 (pY q.2.2) ∈ LW
def mlL : List (Nat × Nat × Nat) := [(1, 7, 2), (1, 13, 3), (2, 36, 104), (2, 40, 61), (2, 44, 62), (2, 47, 98), (2, 51, 65), (2, 55, 4), (2, 58, 67), (2, 62, 101), (2, 66, 99), (2, 69, 7), (2, 75, 64), (2, 79, 102), (2, 82, 10), (2, 85, 11), (2, 88, 12), (2, 91, 5), (2, 95, 66), (2, 98, 13), (2, 101, 63), (3, 54, 101), (3, 58, 18), (3, 62, 99), (3, 64, 20), (3, 67, 21), (3, 70, 29), (3, 73, 100), (3, 76, 22), (3, 79, 251), (3, 84, 23), (3, 87, 24), (3, 90, 26), (3, 96, 250), (3, 100, 30), (3, 103, 28), (3, 107, 32), (3, 111, 33), (3, 114, 34), (3, 118, 38), (3, 122, 249), (3, 128, 39), (3, 131, 40), (3, 134, 97), (3, 137, 106), (3, 140, 45), (3, 143, 48), (3, 146, 46), (3, 150, 47), (3, 153, 43), (4, 18, 61), (4, 22, 50), (4, 24, 49), (4, 28, 63), (4, 32, 64), (4, 36, 55), (4, 40, 101), (4, 44, 60), (5, 9, 60), (5, 13, 61), (5, 17, 252), (6, 20, 252), (6, 26, 251), (6, 29, 253), (6, 41, 103), (7, 51, 81), (7, 55, 84), (7, 59, 82), (7, 63, 86), (7, 66, 97), (7, 71, 88), (7, 75, 252), (7, 81, 89), (7, 84, 90), (7, 87, 92), (7, 90, 93), (7, 93, 94), (7, 97, 50), (7, 102, 53), (7, 106, 91), (7, 109, 52), (7, 113, 251), (7, 116, 51), (7, 120, 54), (7, 124, 55), (7, 127, 95), (7, 131, 101), (7, 134, 6), (7, 140, 49), (7, 144, 67), (7, 148, 64), (8, 13, 98), (8, 17, 99), (8, 21, 104), (8, 25, 97), (0, 79, 96), (0, 83, 97), (0, 86, 101), (0, 89, 99), (0, 92, 102), (0, 95, 103), (0, 98, 105), (0, 101, 106), (0, 104, 104), (0, 108, 58), (0, 114, 4), (0, 118, 59), (0, 122, 5), (0, 126, 6), (0, 130, 8), (0, 133, 9), (0, 136, 115), (0, 139, 68), (0, 142, 18), (0, 146, 19), (0, 150, 16), (0, 154, 25), (0, 157, 30), (0, 160, 29), (0, 163, 31), (0, 166, 17), (0, 169, 24), (0, 172, 27), (0, 176, 34), (0, 180, 249), (0, 184, 35), (0, 187, 36), (0, 190, 37), (0, 193, 41), (0, 196, 42), (0, 199, 43), (0, 203, 44), (0, 206, 128), (0, 210, 0), (0, 217, 131), (0, 221, 1), (0, 225, 11), (0, 229, 78), (0, 232, 77), (0, 235, 83), (0, 238, 85), (0, 241, 87), (0, 245, 79), (0, 248, 80), (0, 252, 52), (0, 256, 56), (0, 259, 57), (0, 262, 49), (0, 266, 60), (0, 270, 137), (0, 274, 69), (0, 275, 71), (0, 279, 72), (0, 282, 74), (0, 285, 76), (0, 288, 75), (0, 291, 73), (0, 294, 14), (0, 297, 15), (0, 300, 145), (0, 304, 70), (0, 307, 147), (9, 137, 152), (9, 148, 156), (9, 113, 150), (9, 123, 151), (9, 127, 153), (9, 133, 148), (9, 142, 154), (9, 145, 155), (9, 152, 157), (9, 155, 160), (9, 165, 162), (9, 171, 164), (9, 175, 165), (9, 179, 161), (9, 183, 166), (9, 187, 168), (9, 190, 170), (9, 193, 171), (9, 197, 172), (9, 200, 173), (9, 203, 175), (9, 208, 174), (9, 211, 178), (9, 214, 177), (9, 217, 179), (9, 220, 180), (9, 225, 181), (9, 228, 184), (9, 231, 185), (9, 241, 188), (9, 247, 187), (9, 250, 250), (9, 256, 190), (9, 259, 191), (9, 263, 198), (9, 267, 200), (9, 271, 197), (9, 275, 201), (9, 279, 199), (9, 283, 204), (9, 287, 183), (9, 291, 206), (9, 294, 207), (9, 298, 208), (9, 301, 210), (9, 304, 212), (9, 308, 248), (9, 317, 215), (9, 321, 246), (9, 335, 222), (9, 338, 192), (9, 345, 220), (9, 352, 226), (9, 355, 223), (9, 361, 224), (9, 368, 225), (9, 372, 227), (9, 375, 221), (9, 383, 228), (9, 387, 230), (9, 390, 231), (9, 395, 234), (9, 398, 235), (9, 401, 237), (10, 122, 245), (11, 59, 247)]
theorem mlL_0 : mlP (1, 7, 2) := (lc3 92 rfl rfl)
theorem mlL_1 : mlP (1, 13, 3) := (lc3 96 rfl rfl)
theorem mlL_2 : mlP (2, 36, 104) := (lc2 43 rfl rfl)
theorem mlL_3 : mlP (2, 40, 61) := (lc2 44 rfl rfl)
theorem mlL_4 : mlP (2, 44, 62) := (lc2 47 rfl rfl)
theorem mlL_5 : mlP (2, 47, 98) := (lc2 51 rfl rfl)
theorem mlL_6 : mlP (2, 51, 65) := (lc2 52 rfl rfl)
theorem mlL_7 : mlP (2, 55, 4) := (lc2 55 rfl rfl)
theorem mlL_8 : mlP (2, 58, 67) := (lc2 56 rfl rfl)
theorem mlL_9 : mlP (2, 62, 101) := (lc2 70 rfl rfl)
theorem mlL_10 : mlP (2, 66, 99) := (lc2 71 rfl rfl)
theorem mlL_11 : mlP (2, 69, 7) := (lc2 72 rfl rfl)
theorem mlL_12 : mlP (2, 75, 64) := (lc2 78 rfl rfl)
theorem mlL_13 : mlP (2, 79, 102) := (lc2 76 rfl rfl)
theorem mlL_14 : mlP (2, 82, 10) := (lc2 92 rfl rfl)
theorem mlL_15 : mlP (2, 85, 11) := (lc2 97 rfl rfl)
theorem mlL_16 : mlP (2, 88, 12) := (lc2 103 rfl rfl)
theorem mlL_17 : mlP (2, 91, 5) := (lc2 96 rfl rfl)
theorem mlL_18 : mlP (2, 95, 66) := (lc2 100 rfl rfl)
theorem mlL_19 : mlP (2, 98, 13) := (lc2 107 rfl rfl)
theorem mlL_20 : mlP (2, 101, 63) := (lc2 111 rfl rfl)
theorem mlL_21 : mlP (3, 54, 101) := (lc2 131 rfl rfl)
theorem mlL_22 : mlP (3, 58, 18) := (lc2 136 rfl rfl)
theorem mlL_23 : mlP (3, 62, 99) := (lc2 137 rfl rfl)
theorem mlL_24 : mlP (3, 64, 20) := (lc2 138 rfl rfl)
theorem mlL_25 : mlP (3, 67, 21) := (lc2 145 rfl rfl)
theorem mlL_26 : mlP (3, 70, 29) := (lc2 164 rfl rfl)
theorem mlL_27 : mlP (3, 73, 100) := (lc2 142 rfl rfl)
theorem mlL_28 : mlP (3, 76, 22) := (lc2 149 rfl rfl)
theorem mlL_29 : mlP (3, 79, 251) := (lc2 153 rfl rfl)
theorem mlL_30 : mlP (3, 84, 23) := (lc2 156 rfl rfl)
theorem mlL_31 : mlP (3, 87, 24) := (lc2 160 rfl rfl)
theorem mlL_32 : mlP (3, 90, 26) := (lc2 218 rfl rfl)
theorem mlL_33 : mlP (3, 96, 250) := (lc2 168 rfl rfl)
theorem mlL_34 : mlP (3, 100, 30) := (lc2 200 rfl rfl)
theorem mlL_35 : mlP (3, 103, 28) := (lc2 227 rfl rfl)
theorem mlL_36 : mlP (3, 107, 32) := (lc2 234 rfl rfl)
theorem mlL_37 : mlP (3, 111, 33) := (lc2 230 rfl rfl)
theorem mlL_38 : mlP (3, 114, 34) := (lc3 16 rfl rfl)
theorem mlL_39 : mlP (3, 118, 38) := (lc3 21 rfl rfl)
theorem mlL_40 : mlP (3, 122, 249) := (lc3 25 rfl rfl)
theorem mlL_41 : mlP (3, 128, 39) := (lc3 26 rfl rfl)
theorem mlL_42 : mlP (3, 131, 40) := (lc3 30 rfl rfl)
theorem mlL_43 : mlP (3, 134, 97) := (lc3 34 rfl rfl)
theorem mlL_44 : mlP (3, 137, 106) := (lc3 35 rfl rfl)
theorem mlL_45 : mlP (3, 140, 45) := (lc3 48 rfl rfl)
theorem mlL_46 : mlP (3, 143, 48) := (lc3 64 rfl rfl)
theorem mlL_47 : mlP (3, 146, 46) := (lc3 52 rfl rfl)
theorem mlL_48 : mlP (3, 150, 47) := (lc3 56 rfl rfl)
theorem mlL_49 : mlP (3, 153, 43) := (lc3 60 rfl rfl)
theorem mlL_50 : mlP (4, 18, 61) := (lc3 178 rfl rfl)
theorem mlL_51 : mlP (4, 22, 50) := (lc3 216 rfl rfl)
theorem mlL_52 : mlP (4, 24, 49) := (lc3 189 rfl rfl)
theorem mlL_53 : mlP (4, 28, 63) := (lc3 210 rfl rfl)
theorem mlL_54 : mlP (4, 32, 64) := (lc3 193 rfl rfl)
theorem mlL_55 : mlP (4, 36, 55) := (lc3 225 rfl rfl)
theorem mlL_56 : mlP (4, 40, 101) := (lc3 230 rfl rfl)
theorem mlL_57 : mlP (4, 44, 60) := (lc3 229 rfl rfl)
theorem mlL_58 : mlP (5, 9, 60) := (lc2 32 rfl rfl)
theorem mlL_59 : mlP (5, 13, 61) := (lc2 50 rfl rfl)
theorem mlL_60 : mlP (5, 17, 252) := (lc2 59 rfl rfl)
theorem mlL_61 : mlP (6, 20, 252) := (lc4 44 rfl rfl)
theorem mlL_62 : mlP (6, 26, 251) := (lc4 45 rfl rfl)
theorem mlL_63 : mlP (6, 29, 253) := (lc4 46 rfl rfl)
theorem mlL_64 : mlP (6, 41, 103) := (lc4 65 rfl rfl)
theorem mlL_65 : mlP (7, 51, 81) := (lc3 147 rfl rfl)
theorem mlL_66 : mlP (7, 55, 84) := (lc3 151 rfl rfl)
theorem mlL_67 : mlP (7, 59, 82) := (lc3 154 rfl rfl)
theorem mlL_68 : mlP (7, 63, 86) := (lc3 161 rfl rfl)
theorem mlL_69 : mlP (7, 66, 97) := (lc3 165 rfl rfl)
theorem mlL_70 : mlP (7, 71, 88) := (lc3 170 rfl rfl)
theorem mlL_71 : mlP (7, 75, 252) := (lc3 179 rfl rfl)
theorem mlL_72 : mlP (7, 81, 89) := (lc3 180 rfl rfl)
theorem mlL_73 : mlP (7, 84, 90) := (lc3 194 rfl rfl)
theorem mlL_74 : mlP (7, 87, 92) := (lc3 202 rfl rfl)
theorem mlL_75 : mlP (7, 90, 93) := (lc3 217 rfl rfl)
theorem mlL_76 : mlP (7, 93, 94) := (lc3 231 rfl rfl)
theorem mlL_77 : mlP (7, 97, 50) := (lc3 174 rfl rfl)
theorem mlL_78 : mlP (7, 102, 53) := (lc3 185 rfl rfl)
theorem mlL_79 : mlP (7, 106, 91) := (lc3 198 rfl rfl)
theorem mlL_80 : mlP (7, 109, 52) := (lc3 206 rfl rfl)
theorem mlL_81 : mlP (7, 113, 251) := (lc3 211 rfl rfl)
theorem mlL_82 : mlP (7, 116, 51) := (lc3 212 rfl rfl)
theorem mlL_83 : mlP (7, 120, 54) := (lc3 221 rfl rfl)
theorem mlL_84 : mlP (7, 124, 55) := (lc3 235 rfl rfl)
theorem mlL_85 : mlP (7, 127, 95) := (lc3 236 rfl rfl)
theorem mlL_86 : mlP (7, 131, 101) := (lc4 0 rfl rfl)
theorem mlL_87 : mlP (7, 134, 6) := (lc4 1 rfl rfl)
theorem mlL_88 : mlP (7, 140, 49) := (lc4 2 rfl rfl)
theorem mlL_89 : mlP (7, 144, 67) := (lc4 3 rfl rfl)
theorem mlL_90 : mlP (7, 148, 64) := (lc4 4 rfl rfl)
theorem mlL_91 : mlP (8, 13, 98) := (lc1 232 rfl rfl)
theorem mlL_92 : mlP (8, 17, 99) := (lc2 1 rfl rfl)
theorem mlL_93 : mlP (8, 21, 104) := (lc2 5 rfl rfl)
theorem mlL_94 : mlP (8, 25, 97) := (lc2 11 rfl rfl)
theorem mlL_95 : mlP (0, 79, 96) := (lc1 214 rfl rfl)
theorem mlL_96 : mlP (0, 83, 97) := (lc1 223 rfl rfl)
theorem mlL_97 : mlP (0, 86, 101) := (lc1 226 rfl rfl)
theorem mlL_98 : mlP (0, 89, 99) := (lc1 229 rfl rfl)
theorem mlL_99 : mlP (0, 92, 102) := (lc1 235 rfl rfl)
theorem mlL_100 : mlP (0, 95, 103) := (lc1 238 rfl rfl)
theorem mlL_101 : mlP (0, 98, 105) := (lc2 2 rfl rfl)
theorem mlL_102 : mlP (0, 101, 106) := (lc2 8 rfl rfl)
theorem mlL_103 : mlP (0, 104, 104) := (lc2 16 rfl rfl)
theorem mlL_104 : mlP (0, 108, 58) := (lc2 21 rfl rfl)
theorem mlL_105 : mlP (0, 114, 4) := (lc2 25 rfl rfl)
theorem mlL_106 : mlP (0, 118, 59) := (lc2 29 rfl rfl)
theorem mlL_107 : mlP (0, 122, 5) := (lc2 39 rfl rfl)
theorem mlL_108 : mlP (0, 126, 6) := (lc2 66 rfl rfl)
theorem mlL_109 : mlP (0, 130, 8) := (lc2 85 rfl rfl)
theorem mlL_110 : mlP (0, 133, 9) := (lc2 88 rfl rfl)
theorem mlL_111 : mlP (0, 136, 115) := (lc2 118 rfl rfl)
theorem mlL_112 : mlP (0, 139, 68) := (lc2 121 rfl rfl)
theorem mlL_113 : mlP (0, 142, 18) := (lc2 128 rfl rfl)
theorem mlL_114 : mlP (0, 146, 19) := (lc2 132 rfl rfl)
theorem mlL_115 : mlP (0, 150, 16) := (lc2 171 rfl rfl)
theorem mlL_116 : mlP (0, 154, 25) := (lc2 179 rfl rfl)
theorem mlL_117 : mlP (0, 157, 30) := (lc2 183 rfl rfl)
theorem mlL_118 : mlP (0, 160, 29) := (lc2 191 rfl rfl)
theorem mlL_119 : mlP (0, 163, 31) := (lc2 196 rfl rfl)
theorem mlL_120 : mlP (0, 166, 17) := (lc2 205 rfl rfl)
theorem mlL_121 : mlP (0, 169, 24) := (lc2 209 rfl rfl)
theorem mlL_122 : mlP (0, 172, 27) := (lc2 214 rfl rfl)
theorem mlL_123 : mlP (0, 176, 34) := (lc2 223 rfl rfl)
theorem mlL_124 : mlP (0, 180, 249) := (lc3 6 rfl rfl)
theorem mlL_125 : mlP (0, 184, 35) := (lc3 12 rfl rfl)
theorem mlL_126 : mlP (0, 187, 36) := (lc3 17 rfl rfl)
theorem mlL_127 : mlP (0, 190, 37) := (lc3 36 rfl rfl)
theorem mlL_128 : mlP (0, 193, 41) := (lc3 44 rfl rfl)
theorem mlL_129 : mlP (0, 196, 42) := (lc3 68 rfl rfl)
theorem mlL_130 : mlP (0, 199, 43) := (lc3 72 rfl rfl)
theorem mlL_131 : mlP (0, 203, 44) := (lc3 77 rfl rfl)
theorem mlL_132 : mlP (0, 206, 128) := (lc3 85 rfl rfl)
theorem mlL_133 : mlP (0, 210, 0) := (lc3 89 rfl rfl)
theorem mlL_134 : mlP (0, 217, 131) := (lc3 109 rfl rfl)
theorem mlL_135 : mlP (0, 221, 1) := (lc3 114 rfl rfl)
theorem mlL_136 : mlP (0, 225, 11) := (lc3 113 rfl rfl)
theorem mlL_137 : mlP (0, 229, 78) := (lc3 131 rfl rfl)
theorem mlL_138 : mlP (0, 232, 77) := (lc3 135 rfl rfl)
theorem mlL_139 : mlP (0, 235, 83) := (lc3 143 rfl rfl)
theorem mlL_140 : mlP (0, 238, 85) := (lc3 157 rfl rfl)
theorem mlL_141 : mlP (0, 241, 87) := (lc3 166 rfl rfl)
theorem mlL_142 : mlP (0, 245, 79) := (lc4 5 rfl rfl)
theorem mlL_143 : mlP (0, 248, 80) := (lc4 9 rfl rfl)
theorem mlL_144 : mlP (0, 252, 52) := (lc4 13 rfl rfl)
theorem mlL_145 : mlP (0, 256, 56) := (lc4 14 rfl rfl)
theorem mlL_146 : mlP (0, 259, 57) := (lc4 22 rfl rfl)
theorem mlL_147 : mlP (0, 262, 49) := (lc4 26 rfl rfl)
theorem mlL_148 : mlP (0, 266, 60) := (lc4 27 rfl rfl)
theorem mlL_149 : mlP (0, 270, 137) := (lc4 36 rfl rfl)
theorem mlL_150 : mlP (0, 274, 69) := (lc4 40 rfl rfl)
theorem mlL_151 : mlP (0, 275, 71) := (lc4 53 rfl rfl)
theorem mlL_152 : mlP (0, 279, 72) := (lc4 57 rfl rfl)
theorem mlL_153 : mlP (0, 282, 74) := (lc4 61 rfl rfl)
theorem mlL_154 : mlP (0, 285, 76) := (lc4 66 rfl rfl)
theorem mlL_155 : mlP (0, 288, 75) := (lc4 74 rfl rfl)
theorem mlL_156 : mlP (0, 291, 73) := (lc4 82 rfl rfl)
theorem mlL_157 : mlP (0, 294, 14) := (lc4 94 rfl rfl)
theorem mlL_158 : mlP (0, 297, 15) := (lc4 98 rfl rfl)
theorem mlL_159 : mlP (0, 300, 145) := (lc4 102 rfl rfl)
theorem mlL_160 : mlP (0, 304, 70) := (lc4 105 rfl rfl)
theorem mlL_161 : mlP (0, 307, 147) := (lc4 120 rfl rfl)
theorem mlL_162 : mlP (9, 137, 152) := (lc5 43 rfl rfl)
theorem mlL_163 : mlP (9, 148, 156) := (lc5 64 rfl rfl)
theorem mlL_164 : mlP (9, 113, 150) := (lc4 130 rfl rfl)
theorem mlL_165 : mlP (9, 123, 151) := (lc5 52 rfl rfl)
theorem mlL_166 : mlP (9, 127, 153) := (lc5 48 rfl rfl)
theorem mlL_167 : mlP (9, 133, 148) := (lc5 36 rfl rfl)
theorem mlL_168 : mlP (9, 142, 154) := (lc5 56 rfl rfl)
theorem mlL_169 : mlP (9, 145, 155) := (lc5 60 rfl rfl)
theorem mlL_170 : mlP (9, 152, 157) := (lc5 68 rfl rfl)
theorem mlL_171 : mlP (9, 155, 160) := (lc5 97 rfl rfl)
theorem mlL_172 : mlP (9, 165, 162) := (lc5 81 rfl rfl)
theorem mlL_173 : mlP (9, 171, 164) := (lc5 87 rfl rfl)
theorem mlL_174 : mlP (9, 175, 165) := (lc5 90 rfl rfl)
theorem mlL_175 : mlP (9, 179, 161) := (lc5 94 rfl rfl)
theorem mlL_176 : mlP (9, 183, 166) := (lc5 108 rfl rfl)
theorem mlL_177 : mlP (9, 187, 168) := (lc5 104 rfl rfl)
theorem mlL_178 : mlP (9, 190, 170) := (lc5 129 rfl rfl)
theorem mlL_179 : mlP (9, 193, 171) := (lc5 133 rfl rfl)
theorem mlL_180 : mlP (9, 197, 172) := (lc5 125 rfl rfl)
theorem mlL_181 : mlP (9, 200, 173) := (lc5 121 rfl rfl)
theorem mlL_182 : mlP (9, 203, 175) := (lc5 137 rfl rfl)
theorem mlL_183 : mlP (9, 208, 174) := (lc5 117 rfl rfl)
theorem mlL_184 : mlP (9, 211, 178) := (lc5 158 rfl rfl)
theorem mlL_185 : mlP (9, 214, 177) := (lc5 150 rfl rfl)
theorem mlL_186 : mlP (9, 217, 179) := (lc5 154 rfl rfl)
theorem mlL_187 : mlP (9, 220, 180) := (lc5 162 rfl rfl)
theorem mlL_188 : mlP (9, 225, 181) := (lc5 146 rfl rfl)
theorem mlL_189 : mlP (9, 228, 184) := (lc5 170 rfl rfl)
theorem mlL_190 : mlP (9, 231, 185) := (lc5 173 rfl rfl)
theorem mlL_191 : mlP (9, 241, 188) := (lc5 181 rfl rfl)
theorem mlL_192 : mlP (9, 247, 187) := (lc5 184 rfl rfl)
theorem mlL_193 : mlP (9, 250, 250) := (lc5 200 rfl rfl)
theorem mlL_194 : mlP (9, 256, 190) := (lc5 192 rfl rfl)
theorem mlL_195 : mlP (9, 259, 191) := (lc5 196 rfl rfl)
theorem mlL_196 : mlP (9, 263, 198) := (lc5 225 rfl rfl)
theorem mlL_197 : mlP (9, 267, 200) := (lc5 228 rfl rfl)
theorem mlL_198 : mlP (9, 271, 197) := (lc5 217 rfl rfl)
theorem mlL_199 : mlP (9, 275, 201) := (lc5 221 rfl rfl)
theorem mlL_200 : mlP (9, 279, 199) := (lc6 0 rfl rfl)
theorem mlL_201 : mlP (9, 283, 204) := (lc6 3 rfl rfl)
theorem mlL_202 : mlP (9, 287, 183) := (lc6 7 rfl rfl)
theorem mlL_203 : mlP (9, 291, 206) := (lc6 19 rfl rfl)
theorem mlL_204 : mlP (9, 294, 207) := (lc6 23 rfl rfl)
theorem mlL_205 : mlP (9, 298, 208) := (lc6 15 rfl rfl)
theorem mlL_206 : mlP (9, 301, 210) := (lc6 31 rfl rfl)
theorem mlL_207 : mlP (9, 304, 212) := (lc6 39 rfl rfl)
theorem mlL_208 : mlP (9, 308, 248) := (lc6 43 rfl rfl)
theorem mlL_209 : mlP (9, 317, 215) := (lc6 63 rfl rfl)
theorem mlL_210 : mlP (9, 321, 246) := (lc6 67 rfl rfl)
theorem mlL_211 : mlP (9, 335, 222) := (lc6 102 rfl rfl)
theorem mlL_212 : mlP (9, 338, 192) := (lc6 133 rfl rfl)
theorem mlL_213 : mlP (9, 345, 220) := (lc6 110 rfl rfl)
theorem mlL_214 : mlP (9, 352, 226) := (lc6 106 rfl rfl)
theorem mlL_215 : mlP (9, 355, 223) := (lc6 125 rfl rfl)
theorem mlL_216 : mlP (9, 361, 224) := (lc6 129 rfl rfl)
theorem mlL_217 : mlP (9, 368, 225) := (lc6 116 rfl rfl)
theorem mlL_218 : mlP (9, 372, 227) := (lc6 120 rfl rfl)
theorem mlL_219 : mlP (9, 375, 221) := (lc6 98 rfl rfl)
theorem mlL_220 : mlP (9, 383, 228) := (lc6 94 rfl rfl)
theorem mlL_221 : mlP (9, 387, 230) := (lc6 137 rfl rfl)
theorem mlL_222 : mlP (9, 390, 231) := (lc6 145 rfl rfl)
theorem mlL_223 : mlP (9, 395, 234) := (lc6 157 rfl rfl)
theorem mlL_224 : mlP (9, 398, 235) := (lc6 165 rfl rfl)
theorem mlL_225 : mlP (9, 401, 237) := (lc6 169 rfl rfl)
theorem mlL_226 : mlP (10, 122, 245) := (lc6 70 rfl rfl)
theorem mlL_227 : mlP (11, 59, 247) := (lc6 46 rfl rfl)
theorem mlL_c0 : ∀ q ∈ [(1, 7, 2), (1, 13, 3), (2, 36, 104), (2, 40, 61), (2, 44, 62), (2, 47, 98), (2, 51, 65), (2, 55, 4), (2, 58, 67), (2, 62, 101), (2, 66, 99), (2, 69, 7), (2, 75, 64), (2, 79, 102), (2, 82, 10), (2, 85, 11), (2, 88, 12), (2, 91, 5), (2, 95, 66), (2, 98, 13), (2, 101, 63), (3, 54, 101), (3, 58, 18), (3, 62, 99)], mlP q := List.forall_mem_cons.mpr ⟨mlL_0, List.forall_mem_cons.mpr ⟨mlL_1, List.forall_mem_cons.mpr ⟨mlL_2, List.forall_mem_cons.mpr ⟨mlL_3, List.forall_mem_cons.mpr ⟨mlL_4, List.forall_mem_cons.mpr ⟨mlL_5, List.forall_mem_cons.mpr ⟨mlL_6, List.forall_mem_cons.mpr ⟨mlL_7, List.forall_mem_cons.mpr ⟨mlL_8, List.forall_mem_cons.mpr ⟨mlL_9, List.forall_mem_cons.mpr ⟨mlL_10, List.forall_mem_cons.mpr ⟨mlL_11, List.forall_mem_cons.mpr ⟨mlL_12, List.forall_mem_cons.mpr ⟨mlL_13, List.forall_mem_cons.mpr ⟨mlL_14, List.forall_mem_cons.mpr ⟨mlL_15, List.forall_mem_cons.mpr ⟨mlL_16, List.forall_mem_cons.mpr ⟨mlL_17, List.forall_mem_cons.mpr ⟨mlL_18, List.forall_mem_cons.mpr ⟨mlL_19, List.forall_mem_cons.mpr ⟨mlL_20, List.forall_mem_cons.mpr ⟨mlL_21, List.forall_mem_cons.mpr ⟨mlL_22, List.forall_mem_cons.mpr ⟨mlL_23, fun _ h => absurd h List.not_mem_nil⟩⟩⟩⟩⟩⟩⟩⟩⟩⟩⟩⟩⟩⟩⟩⟩⟩⟩⟩⟩⟩⟩⟩⟩
theorem mlL_c1 : ∀ q ∈ [(3, 64, 20), (3, 67, 21), (3, 70, 29), (3, 73, 100), (3, 76, 22), (3, 79, 251), (3, 84, 23), (3, 87, 24), (3, 90, 26), (3, 96, 250), (3, 100, 30), (3, 103, 28), (3, 107, 32), (3, 111, 33), (3, 114, 34), (3, 118, 38), (3, 122, 249), (3, 128, 39), (3, 131, 40), (3, 134, 97), (3, 137, 106), (3, 140, 45), (3, 143, 48), (3, 146, 46)], mlP q := List.forall_mem_cons.mpr ⟨mlL_24, List.forall_mem_cons.mpr ⟨mlL_25, List.forall_mem_cons.mpr ⟨mlL_26, List.forall_mem_cons.mpr ⟨mlL_27, List.forall_mem_cons.mpr ⟨mlL_28, List.forall_mem_cons.mpr ⟨mlL_29, List.forall_mem_cons.mpr ⟨mlL_30, List.forall_mem_cons.mpr ⟨mlL_31, List.forall_mem_cons.mpr ⟨mlL_32, List.forall_mem_cons.mpr ⟨mlL_33, List.forall_mem_cons.mpr ⟨mlL_34, List.forall_mem_cons.mpr ⟨mlL_35, List.forall_mem_cons.mpr ⟨mlL_36, List.forall_mem_cons.mpr ⟨mlL_37, List.forall_mem_cons.mpr ⟨mlL_38, List.forall_mem_cons.mpr ⟨mlL_39, List.forall_mem_cons.mpr ⟨mlL_40, List.forall_mem_cons.mpr ⟨mlL_41, List.forall_mem_cons.mpr ⟨mlL_42, List.forall_mem_cons.mpr ⟨mlL_43, List.forall_mem_cons.mpr ⟨mlL_44, List.forall_mem_cons.mpr ⟨mlL_45, List.forall_mem_cons.mpr ⟨mlL_46, List.forall_mem_cons.mpr ⟨mlL_47, fun _ h => absurd h List.not_mem_nil⟩⟩⟩⟩⟩⟩⟩⟩⟩⟩⟩⟩⟩⟩⟩⟩⟩⟩⟩⟩⟩⟩⟩⟩
theorem mlL_c2 : ∀ q ∈ [(3, 150, 47), (3, 153, 43), (4, 18, 61), (4, 22, 50), (4, 24, 49), (4, 28, 63), (4, 32, 64), (4, 36, 55), (4, 40, 101), (4, 44, 60), (5, 9, 60), (5, 13, 61), (5, 17, 252), (6, 20, 252), (6, 26, 251), (6, 29, 253), (6, 41, 103), (7, 51, 81), (7, 55, 84), (7, 59, 82), (7, 63, 86), (7, 66, 97), (7, 71, 88), (7, 75, 252)], mlP q := List.forall_mem_cons.mpr ⟨mlL_48, List.forall_mem_cons.mpr ⟨mlL_49, List.forall_mem_cons.mpr ⟨mlL_50, List.forall_mem_cons.mpr ⟨mlL_51, List.forall_mem_cons.mpr ⟨mlL_52, List.forall_mem_cons.mpr ⟨mlL_53, List.forall_mem_cons.mpr ⟨mlL_54, List.forall_mem_cons.mpr ⟨mlL_55, List.forall_mem_cons.mpr ⟨mlL_56, List.forall_mem_cons.mpr ⟨mlL_57, List.forall_mem_cons.mpr ⟨mlL_58, List.forall_mem_cons.mpr ⟨mlL_59, List.forall_mem_cons.mpr ⟨mlL_60, List.forall_mem_cons.mpr ⟨mlL_61, List.forall_mem_cons.mpr ⟨mlL_62, List.forall_mem_cons.mpr ⟨mlL_63, List.forall_mem_cons.mpr ⟨mlL_64, List.forall_mem_cons.mpr ⟨mlL_65, List.forall_mem_cons.mpr ⟨mlL_66, List.forall_mem_cons.mpr ⟨mlL_67, List.forall_mem_cons.mpr ⟨mlL_68, List.forall_mem_cons.mpr ⟨mlL_69, List.forall_mem_cons.mpr ⟨mlL_70, List.forall_mem_cons.mpr ⟨mlL_71, fun _ h => absurd h List.not_mem_nil⟩⟩⟩⟩⟩⟩⟩⟩⟩⟩⟩⟩⟩⟩⟩⟩⟩⟩⟩⟩⟩⟩⟩⟩
theorem mlL_c3 : ∀ q ∈ [(7, 81, 89), (7, 84, 90), (7, 87, 92), (7, 90, 93), (7, 93, 94), (7, 97, 50), (7, 102, 53), (7, 106, 91), (7, 109, 52), (7, 113, 251), (7, 116, 51), (7, 120, 54), (7, 124, 55), (7, 127, 95), (7, 131, 101), (7, 134, 6), (7, 140, 49), (7, 144, 67), (7, 148, 64), (8, 13, 98), (8, 17, 99), (8, 21, 104), (8, 25, 97), (0, 79, 96)], mlP q := List.forall_mem_cons.mpr ⟨mlL_72, List.forall_mem_cons.mpr ⟨mlL_73, List.forall_mem_cons.mpr ⟨mlL_74, List.forall_mem_cons.mpr ⟨mlL_75, List.forall_mem_cons.mpr ⟨mlL_76, List.forall_mem_cons.mpr ⟨mlL_77, List.forall_mem_cons.mpr ⟨mlL_78, List.forall_mem_cons.mpr ⟨mlL_79, List.forall_mem_cons.mpr ⟨mlL_80, List.forall_mem_cons.mpr ⟨mlL_81, List.forall_mem_cons.mpr ⟨mlL_82, List.forall_mem_cons.mpr ⟨mlL_83, List.forall_mem_cons.mpr ⟨mlL_84, List.forall_mem_cons.mpr ⟨mlL_85, List.forall_mem_cons.mpr ⟨mlL_86, List.forall_mem_cons.mpr ⟨mlL_87, List.forall_mem_cons.mpr ⟨mlL_88, List.forall_mem_cons.mpr ⟨mlL_89, List.forall_mem_cons.mpr ⟨mlL_90, List.forall_mem_cons.mpr ⟨mlL_91, List.forall_mem_cons.mpr ⟨mlL_92, List.forall_mem_cons.mpr ⟨mlL_93, List.forall_mem_cons.mpr ⟨mlL_94, List.forall_mem_cons.mpr ⟨mlL_95, fun _ h => absurd h List.not_mem_nil⟩⟩⟩⟩⟩⟩⟩⟩⟩⟩⟩⟩⟩⟩⟩⟩⟩⟩⟩⟩⟩⟩⟩⟩
theorem mlL_c4 : ∀ q ∈ [(0, 83, 97), (0, 86, 101), (0, 89, 99), (0, 92, 102), (0, 95, 103), (0, 98, 105), (0, 101, 106), (0, 104, 104), (0, 108, 58), (0, 114, 4), (0, 118, 59), (0, 122, 5), (0, 126, 6), (0, 130, 8), (0, 133, 9), (0, 136, 115), (0, 139, 68), (0, 142, 18), (0, 146, 19), (0, 150, 16), (0, 154, 25), (0, 157, 30), (0, 160, 29), (0, 163, 31)], mlP q := List.forall_mem_cons.mpr ⟨mlL_96, List.forall_mem_cons.mpr ⟨mlL_97, List.forall_mem_cons.mpr ⟨mlL_98, List.forall_mem_cons.mpr ⟨mlL_99, List.forall_mem_cons.mpr ⟨mlL_100, List.forall_mem_cons.mpr ⟨mlL_101, List.forall_mem_cons.mpr ⟨mlL_102, List.forall_mem_cons.mpr ⟨mlL_103, List.forall_mem_cons.mpr ⟨mlL_104, List.forall_mem_cons.mpr ⟨mlL_105, List.forall_mem_cons.mpr ⟨mlL_106, List.forall_mem_cons.mpr ⟨mlL_107, List.forall_mem_cons.mpr ⟨mlL_108, List.forall_mem_cons.mpr ⟨mlL_109, List.forall_mem_cons.mpr ⟨mlL_110, List.forall_mem_cons.mpr ⟨mlL_111, List.forall_mem_cons.mpr ⟨mlL_112, List.forall_mem_cons.mpr ⟨mlL_113, List.forall_mem_cons.mpr ⟨mlL_114, List.forall_mem_cons.mpr ⟨mlL_115, List.forall_mem_cons.mpr ⟨mlL_116, List.forall_mem_cons.mpr ⟨mlL_117, List.forall_mem_cons.mpr ⟨mlL_118, List.forall_mem_cons.mpr ⟨mlL_119, fun _ h => absurd h List.not_mem_nil⟩⟩⟩⟩⟩⟩⟩⟩⟩⟩⟩⟩⟩⟩⟩⟩⟩⟩⟩⟩⟩⟩⟩⟩
theorem mlL_c5 : ∀ q ∈ [(0, 166, 17), (0, 169, 24), (0, 172, 27), (0, 176, 34), (0, 180, 249), (0, 184, 35), (0, 187, 36), (0, 190, 37), (0, 193, 41), (0, 196, 42), (0, 199, 43), (0, 203, 44), (0, 206, 128), (0, 210, 0), (0, 217, 131), (0, 221, 1), (0, 225, 11), (0, 229, 78), (0, 232, 77), (0, 235, 83), (0, 238, 85), (0, 241, 87), (0, 245, 79), (0, 248, 80)], mlP q := List.forall_mem_cons.mpr ⟨mlL_120, List.forall_mem_cons.mpr ⟨mlL_121, List.forall_mem_cons.mpr ⟨mlL_122, List.forall_mem_cons.mpr ⟨mlL_123, List.forall_mem_cons.mpr ⟨mlL_124, List.forall_mem_cons.mpr ⟨mlL_125, List.forall_mem_cons.mpr ⟨mlL_126, List.forall_mem_cons.mpr ⟨mlL_127, List.forall_mem_cons.mpr ⟨mlL_128, List.forall_mem_cons.mpr ⟨mlL_129, List.forall_mem_cons.mpr ⟨mlL_130, List.forall_mem_cons.mpr ⟨mlL_131, List.forall_mem_cons.mpr ⟨mlL_132, List.forall_mem_cons.mpr ⟨mlL_133, List.forall_mem_cons.mpr ⟨mlL_134, List.forall_mem_cons.mpr ⟨mlL_135, List.forall_mem_cons.mpr ⟨mlL_136, List.forall_mem_cons.mpr ⟨mlL_137, List.forall_mem_cons.mpr ⟨mlL_138, List.forall_mem_cons.mpr ⟨mlL_139, List.forall_mem_cons.mpr ⟨mlL_140, List.forall_mem_cons.mpr ⟨mlL_141, List.forall_mem_cons.mpr ⟨mlL_142, List.forall_mem_cons.mpr ⟨mlL_143, fun _ h => absurd h List.not_mem_nil⟩⟩⟩⟩⟩⟩⟩⟩⟩⟩⟩⟩⟩⟩⟩⟩⟩⟩⟩⟩⟩⟩⟩⟩
theorem mlL_c6 : ∀ q ∈ [(0, 252, 52), (0, 256, 56), (0, 259, 57), (0, 262, 49), (0, 266, 60), (0, 270, 137), (0, 274, 69), (0, 275, 71), (0, 279, 72), (0, 282, 74), (0, 285, 76), (0, 288, 75), (0, 291, 73), (0, 294, 14), (0, 297, 15), (0, 300, 145), (0, 304, 70), (0, 307, 147), (9, 137, 152), (9, 148, 156), (9, 113, 150), (9, 123, 151), (9, 127, 153), (9, 133, 148)], mlP q := List.forall_mem_cons.mpr ⟨mlL_144, List.forall_mem_cons.mpr ⟨mlL_145, List.forall_mem_cons.mpr ⟨mlL_146, List.forall_mem_cons.mpr ⟨mlL_147, List.forall_mem_cons.mpr ⟨mlL_148, List.forall_mem_cons.mpr ⟨mlL_149, List.forall_mem_cons.mpr ⟨mlL_150, List.forall_mem_cons.mpr ⟨mlL_151, List.forall_mem_cons.mpr ⟨mlL_152, List.forall_mem_cons.mpr ⟨mlL_153, List.forall_mem_cons.mpr ⟨mlL_154, List.forall_mem_cons.mpr ⟨mlL_155, List.forall_mem_cons.mpr ⟨mlL_156, List.forall_mem_cons.mpr ⟨mlL_157, List.forall_mem_cons.mpr ⟨mlL_158, List.forall_mem_cons.mpr ⟨mlL_159, List.forall_mem_cons.mpr ⟨mlL_160, List.forall_mem_cons.mpr ⟨mlL_161, List.forall_mem_cons.mpr ⟨mlL_162, List.forall_mem_cons.mpr ⟨mlL_163, List.forall_mem_cons.mpr ⟨mlL_164, List.forall_mem_cons.mpr ⟨mlL_165, List.forall_mem_cons.mpr ⟨mlL_166, List.forall_mem_cons.mpr ⟨mlL_167, fun _ h => absurd h List.not_mem_nil⟩⟩⟩⟩⟩⟩⟩⟩⟩⟩⟩⟩⟩⟩⟩⟩⟩⟩⟩⟩⟩⟩⟩⟩
theorem mlL_c7 : ∀ q ∈ [(9, 142, 154), (9, 145, 155), (9, 152, 157), (9, 155, 160), (9, 165, 162), (9, 171, 164), (9, 175, 165), (9, 179, 161), (9, 183, 166), (9, 187, 168), (9, 190, 170), (9, 193, 171), (9, 197, 172), (9, 200, 173), (9, 203, 175), (9, 208, 174), (9, 211, 178), (9, 214, 177), (9, 217, 179), (9, 220, 180), (9, 225, 181), (9, 228, 184), (9, 231, 185), (9, 241, 188)], mlP q := List.forall_mem_cons.mpr ⟨mlL_168, List.forall_mem_cons.mpr ⟨mlL_169, List.forall_mem_cons.mpr ⟨mlL_170, List.forall_mem_cons.mpr ⟨mlL_171, List.forall_mem_cons.mpr ⟨mlL_172, List.forall_mem_cons.mpr ⟨mlL_173, List.forall_mem_cons.mpr ⟨mlL_174, List.forall_mem_cons.mpr ⟨mlL_175, List.forall_mem_cons.mpr ⟨mlL_176, List.forall_mem_cons.mpr ⟨mlL_177, List.forall_mem_cons.mpr ⟨mlL_178, List.forall_mem_cons.mpr ⟨mlL_179, List.forall_mem_cons.mpr ⟨mlL_180, List.forall_mem_cons.mpr ⟨mlL_181, List.forall_mem_cons.mpr ⟨mlL_182, List.forall_mem_cons.mpr ⟨mlL_183, List.forall_mem_cons.mpr ⟨mlL_184, List.forall_mem_cons.mpr ⟨mlL_185, List.forall_mem_cons.mpr ⟨mlL_186, List.forall_mem_cons.mpr ⟨mlL_187, List.forall_mem_cons.mpr ⟨mlL_188, List.forall_mem_cons.mpr ⟨mlL_189, List.forall_mem_cons.mpr ⟨mlL_190, List.forall_mem_cons.mpr ⟨mlL_191, fun _ h => absurd h List.not_mem_nil⟩⟩⟩⟩⟩⟩⟩⟩⟩⟩⟩⟩⟩⟩⟩⟩⟩⟩⟩⟩⟩⟩⟩⟩
theorem mlL_c8 : ∀ q ∈ [(9, 247, 187), (9, 250, 250), (9, 256, 190), (9, 259, 191), (9, 263, 198), (9, 267, 200), (9, 271, 197), (9, 275, 201), (9, 279, 199), (9, 283, 204), (9, 287, 183), (9, 291, 206), (9, 294, 207), (9, 298, 208), (9, 301, 210), (9, 304, 212), (9, 308, 248), (9, 317, 215), (9, 321, 246), (9, 335, 222), (9, 338, 192), (9, 345, 220), (9, 352, 226), (9, 355, 223)], mlP q := List.forall_mem_cons.mpr ⟨mlL_192, List.forall_mem_cons.mpr ⟨mlL_193, List.forall_mem_cons.mpr ⟨mlL_194, List.forall_mem_cons.mpr ⟨mlL_195, List.forall_mem_cons.mpr ⟨mlL_196, List.forall_mem_cons.mpr ⟨mlL_197, List.forall_mem_cons.mpr ⟨mlL_198, List.forall_mem_cons.mpr ⟨mlL_199, List.forall_mem_cons.mpr ⟨mlL_200, List.forall_mem_cons.mpr ⟨mlL_201, List.forall_mem_cons.mpr ⟨mlL_202, List.forall_mem_cons.mpr ⟨mlL_203, List.forall_mem_cons.mpr ⟨mlL_204, List.forall_mem_cons.mpr ⟨mlL_205, List.forall_mem_cons.mpr ⟨mlL_206, List.forall_mem_cons.mpr ⟨mlL_207, List.forall_mem_cons.mpr ⟨mlL_208, List.forall_mem_cons.mpr ⟨mlL_209, List.forall_mem_cons.mpr ⟨mlL_210, List.forall_mem_cons.mpr ⟨mlL_211, List.forall_mem_cons.mpr ⟨mlL_212, List.forall_mem_cons.mpr ⟨mlL_213, List.forall_mem_cons.mpr ⟨mlL_214, List.forall_mem_cons.mpr ⟨mlL_215, fun _ h => absurd h List.not_mem_nil⟩⟩⟩⟩⟩⟩⟩⟩⟩⟩⟩⟩⟩⟩⟩⟩⟩⟩⟩⟩⟩⟩⟩⟩
theorem mlL_c9 : ∀ q ∈ [(9, 361, 224), (9, 368, 225), (9, 372, 227), (9, 375, 221), (9, 383, 228), (9, 387, 230), (9, 390, 231), (9, 395, 234), (9, 398, 235), (9, 401, 237), (10, 122, 245), (11, 59, 247)], mlP q := List.forall_mem_cons.mpr ⟨mlL_216, List.forall_mem_cons.mpr ⟨mlL_217, List.forall_mem_cons.mpr ⟨mlL_218, List.forall_mem_cons.mpr ⟨mlL_219, List.forall_mem_cons.mpr ⟨mlL_220, List.forall_mem_cons.mpr ⟨mlL_221, List.forall_mem_cons.mpr ⟨mlL_222, List.forall_mem_cons.mpr ⟨mlL_223, List.forall_mem_cons.mpr ⟨mlL_224, List.forall_mem_cons.mpr ⟨mlL_225, List.forall_mem_cons.mpr ⟨mlL_226, List.forall_mem_cons.mpr ⟨mlL_227, fun _ h => absurd h List.not_mem_nil⟩⟩⟩⟩⟩⟩⟩⟩⟩⟩⟩⟩
set_option maxRecDepth 100000 in
theorem mlL_ok : ∀ q ∈ mlL, mlP q := by
  show ∀ q ∈ ([(1, 7, 2), (1, 13, 3), (2, 36, 104), (2, 40, 61), (2, 44, 62), (2, 47, 98), (2, 51, 65), (2, 55, 4), (2, 58, 67), (2, 62, 101), (2, 66, 99), (2, 69, 7), (2, 75, 64), (2, 79, 102), (2, 82, 10), (2, 85, 11), (2, 88, 12), (2, 91, 5), (2, 95, 66), (2, 98, 13), (2, 101, 63), (3, 54, 101), (3, 58, 18), (3, 62, 99)] ++ ([(3, 64, 20), (3, 67, 21), (3, 70, 29), (3, 73, 100), (3, 76, 22), (3, 79, 251), (3, 84, 23), (3, 87, 24), (3, 90, 26), (3, 96, 250), (3, 100, 30), (3, 103, 28), (3, 107, 32), (3, 111, 33), (3, 114, 34), (3, 118, 38), (3, 122, 249), (3, 128, 39), (3, 131, 40), (3, 134, 97), (3, 137, 106), (3, 140, 45), (3, 143, 48), (3, 146, 46)] ++ ([(3, 150, 47), (3, 153, 43), (4, 18, 61), (4, 22, 50), (4, 24, 49), (4, 28, 63), (4, 32, 64), (4, 36, 55), (4, 40, 101), (4, 44, 60), (5, 9, 60), (5, 13, 61), (5, 17, 252), (6, 20, 252), (6, 26, 251), (6, 29, 253), (6, 41, 103), (7, 51, 81), (7, 55, 84), (7, 59, 82), (7, 63, 86), (7, 66, 97), (7, 71, 88), (7, 75, 252)] ++ ([(7, 81, 89), (7, 84, 90), (7, 87, 92), (7, 90, 93), (7, 93, 94), (7, 97, 50), (7, 102, 53), (7, 106, 91), (7, 109, 52), (7, 113, 251), (7, 116, 51), (7, 120, 54), (7, 124, 55), (7, 127, 95), (7, 131, 101), (7, 134, 6), (7, 140, 49), (7, 144, 67), (7, 148, 64), (8, 13, 98), (8, 17, 99), (8, 21, 104), (8, 25, 97), (0, 79, 96)] ++ ([(0, 83, 97), (0, 86, 101), (0, 89, 99), (0, 92, 102), (0, 95, 103), (0, 98, 105), (0, 101, 106), (0, 104, 104), (0, 108, 58), (0, 114, 4), (0, 118, 59), (0, 122, 5), (0, 126, 6), (0, 130, 8), (0, 133, 9), (0, 136, 115), (0, 139, 68), (0, 142, 18), (0, 146, 19), (0, 150, 16), (0, 154, 25), (0, 157, 30), (0, 160, 29), (0, 163, 31)] ++ ([(0, 166, 17), (0, 169, 24), (0, 172, 27), (0, 176, 34), (0, 180, 249), (0, 184, 35), (0, 187, 36), (0, 190, 37), (0, 193, 41), (0, 196, 42), (0, 199, 43), (0, 203, 44), (0, 206, 128), (0, 210, 0), (0, 217, 131), (0, 221, 1), (0, 225, 11), (0, 229, 78), (0, 232, 77), (0, 235, 83), (0, 238, 85), (0, 241, 87), (0, 245, 79), (0, 248, 80)] ++ ([(0, 252, 52), (0, 256, 56), (0, 259, 57), (0, 262, 49), (0, 266, 60), (0, 270, 137), (0, 274, 69), (0, 275, 71), (0, 279, 72), (0, 282, 74), (0, 285, 76), (0, 288, 75), (0, 291, 73), (0, 294, 14), (0, 297, 15), (0, 300, 145), (0, 304, 70), (0, 307, 147), (9, 137, 152), (9, 148, 156), (9, 113, 150), (9, 123, 151), (9, 127, 153), (9, 133, 148)] ++ ([(9, 142, 154), (9, 145, 155), (9, 152, 157), (9, 155, 160), (9, 165, 162), (9, 171, 164), (9, 175, 165), (9, 179, 161), (9, 183, 166), (9, 187, 168), (9, 190, 170), (9, 193, 171), (9, 197, 172), (9, 200, 173), (9, 203, 175), (9, 208, 174), (9, 211, 178), (9, 214, 177), (9, 217, 179), (9, 220, 180), (9, 225, 181), (9, 228, 184), (9, 231, 185), (9, 241, 188)] ++ ([(9, 247, 187), (9, 250, 250), (9, 256, 190), (9, 259, 191), (9, 263, 198), (9, 267, 200), (9, 271, 197), (9, 275, 201), (9, 279, 199), (9, 283, 204), (9, 287, 183), (9, 291, 206), (9, 294, 207), (9, 298, 208), (9, 301, 210), (9, 304, 212), (9, 308, 248), (9, 317, 215), (9, 321, 246), (9, 335, 222), (9, 338, 192), (9, 345, 220), (9, 352, 226), (9, 355, 223)] ++ ([(9, 361, 224), (9, 368, 225), (9, 372, 227), (9, 375, 221), (9, 383, 228), (9, 387, 230), (9, 390, 231), (9, 395, 234), (9, 398, 235), (9, 401, 237), (10, 122, 245), (11, 59, 247)]))))))))) : List (Nat × Nat × Nat)), mlP q
  exact List.forall_mem_append.mpr ⟨mlL_c0, List.forall_mem_append.mpr ⟨mlL_c1, List.forall_mem_append.mpr ⟨mlL_c2, List.forall_mem_append.mpr ⟨mlL_c3, List.forall_mem_append.mpr ⟨mlL_c4, List.forall_mem_append.mpr ⟨mlL_c5, List.forall_mem_append.mpr ⟨mlL_c6, List.forall_mem_append.mpr ⟨mlL_c7, List.forall_mem_append.mpr ⟨mlL_c8, mlL_c9⟩⟩⟩⟩⟩⟩⟩⟩⟩
def fTl (c : Nat) : u_T := match c with
  | 0 => fT0
  | 1 => fT1
  | 2 => fT2
  | 3 => fT3
  | 4 => fT4
  | 5 => fT5
  | _ => fT6
def fYl (c : Nat) : Nat → FieldType := match c with
  | 0 => fY0
  | 1 => fY1
  | 2 => fY2
  | 3 => fY3
  | 4 => fY4
  | 5 => fY5
  | _ => fY6
def pC (c : Nat) : String := match c with
  | 0 => "TypesInside"
  | 1 => "TypesInside$Counts"
  | 2 => "TypesInside$Group"
  | 3 => "TypesInside$Mix"
  | 4 => "TypesInside$Shelf"
  | 5 => "TypesInside$Sums"
  | _ => "TypesInsideModel"
def ciO (c : Nat) : Nat := ([0, 2, 3, 4, 6, 7, 9] : List Nat).getD c 99
def flP (q : Nat × Nat × Nat × Nat) : Prop := Jvm.Cond.fieldLink (pCn q.1) q.2.1 (fTl q.2.2.1 q.2.2.2).1 (fTl q.2.2.1 q.2.2.2).2.1 (fTl q.2.2.1 q.2.2.2).2.2.1 ∈ LW
def flL : List (Nat × Nat × Nat × Nat) := [(2, 15, 1, 0), (2, 29, 1, 3), (2, 33, 1, 4), (2, 25, 1, 2), (2, 22, 1, 1), (3, 7, 2, 0), (3, 13, 2, 1), (3, 16, 2, 2), (3, 19, 2, 3), (3, 34, 2, 7), (3, 37, 2, 8), (3, 28, 2, 5), (3, 24, 2, 4), (3, 31, 2, 6), (3, 41, 2, 9), (3, 44, 2, 10), (3, 48, 2, 11), (3, 51, 2, 12), (4, 13, 3, 0), (6, 9, 4, 0), (6, 13, 4, 1), (6, 16, 4, 2), (7, 13, 5, 1), (7, 9, 5, 0), (7, 21, 5, 2), (7, 28, 5, 4), (7, 32, 5, 5), (7, 25, 5, 3), (7, 38, 5, 6), (7, 42, 5, 7), (7, 47, 5, 8), (0, 12, 0, 0), (0, 49, 0, 5), (0, 21, 0, 1), (0, 28, 0, 2), (0, 35, 0, 3), (0, 43, 0, 4), (0, 55, 0, 6), (0, 65, 0, 7), (0, 69, 0, 8), (0, 73, 0, 9), (0, 59, 0, 10), (0, 62, 0, 11), (9, 11, 6, 0), (9, 120, 6, 3), (9, 15, 6, 1), (9, 18, 6, 2), (9, 28, 6, 6), (9, 25, 6, 5), (9, 21, 6, 4), (9, 37, 6, 9), (9, 34, 6, 8), (9, 43, 6, 11), (9, 31, 6, 7), (9, 40, 6, 10), (9, 47, 6, 12), (9, 50, 6, 13), (9, 56, 6, 16), (9, 235, 6, 14), (9, 53, 6, 15), (9, 238, 6, 18), (9, 59, 6, 17), (9, 244, 6, 21), (9, 349, 6, 28), (9, 71, 6, 29), (9, 74, 6, 30), (9, 62, 6, 19), (9, 65, 6, 20), (9, 329, 6, 23), (9, 68, 6, 22), (9, 332, 6, 24), (9, 341, 6, 25), (9, 77, 6, 31), (9, 80, 6, 32), (9, 358, 6, 27), (9, 380, 6, 26), (9, 83, 6, 33), (9, 86, 6, 34), (9, 89, 6, 35), (9, 92, 6, 36), (9, 95, 6, 37), (9, 98, 6, 38), (9, 404, 6, 39), (9, 101, 6, 40), (9, 104, 6, 41), (9, 107, 6, 42), (9, 110, 6, 43)]
theorem flL_0 : flP (2, 15, 1, 0) := (lc1 37 rfl rfl)
theorem flL_1 : flP (2, 29, 1, 3) := (lc1 40 rfl rfl)
theorem flL_2 : flP (2, 33, 1, 4) := (lc1 41 rfl rfl)
theorem flL_3 : flP (2, 25, 1, 2) := (lc1 39 rfl rfl)
theorem flL_4 : flP (2, 22, 1, 1) := (lc1 38 rfl rfl)
theorem flL_5 : flP (3, 7, 2, 0) := (lc1 60 rfl rfl)
theorem flL_6 : flP (3, 13, 2, 1) := (lc1 61 rfl rfl)
theorem flL_7 : flP (3, 16, 2, 2) := (lc1 62 rfl rfl)
theorem flL_8 : flP (3, 19, 2, 3) := (lc1 63 rfl rfl)
theorem flL_9 : flP (3, 34, 2, 7) := (lc1 67 rfl rfl)
theorem flL_10 : flP (3, 37, 2, 8) := (lc1 68 rfl rfl)
theorem flL_11 : flP (3, 28, 2, 5) := (lc1 65 rfl rfl)
theorem flL_12 : flP (3, 24, 2, 4) := (lc1 64 rfl rfl)
theorem flL_13 : flP (3, 31, 2, 6) := (lc1 66 rfl rfl)
theorem flL_14 : flP (3, 41, 2, 9) := (lc1 69 rfl rfl)
theorem flL_15 : flP (3, 44, 2, 10) := (lc1 70 rfl rfl)
theorem flL_16 : flP (3, 48, 2, 11) := (lc1 71 rfl rfl)
theorem flL_17 : flP (3, 51, 2, 12) := (lc1 72 rfl rfl)
theorem flL_18 : flP (4, 13, 3, 0) := (lc1 118 rfl rfl)
theorem flL_19 : flP (6, 9, 4, 0) := (lc1 163 rfl rfl)
theorem flL_20 : flP (6, 13, 4, 1) := (lc1 164 rfl rfl)
theorem flL_21 : flP (6, 16, 4, 2) := (lc1 165 rfl rfl)
theorem flL_22 : flP (7, 13, 5, 1) := (lc1 123 rfl rfl)
theorem flL_23 : flP (7, 9, 5, 0) := (lc1 122 rfl rfl)
theorem flL_24 : flP (7, 21, 5, 2) := (lc1 124 rfl rfl)
theorem flL_25 : flP (7, 28, 5, 4) := (lc1 126 rfl rfl)
theorem flL_26 : flP (7, 32, 5, 5) := (lc1 127 rfl rfl)
theorem flL_27 : flP (7, 25, 5, 3) := (lc1 125 rfl rfl)
theorem flL_28 : flP (7, 38, 5, 6) := (lc1 128 rfl rfl)
theorem flL_29 : flP (7, 42, 5, 7) := (lc1 129 rfl rfl)
theorem flL_30 : flP (7, 47, 5, 8) := (lc1 130 rfl rfl)
theorem flL_31 : flP (0, 12, 0, 0) := (lc1 173 rfl rfl)
theorem flL_32 : flP (0, 49, 0, 5) := (lc1 178 rfl rfl)
theorem flL_33 : flP (0, 21, 0, 1) := (lc1 174 rfl rfl)
theorem flL_34 : flP (0, 28, 0, 2) := (lc1 175 rfl rfl)
theorem flL_35 : flP (0, 35, 0, 3) := (lc1 176 rfl rfl)
theorem flL_36 : flP (0, 43, 0, 4) := (lc1 177 rfl rfl)
theorem flL_37 : flP (0, 55, 0, 6) := (lc1 179 rfl rfl)
theorem flL_38 : flP (0, 65, 0, 7) := (lc1 180 rfl rfl)
theorem flL_39 : flP (0, 69, 0, 8) := (lc1 181 rfl rfl)
theorem flL_40 : flP (0, 73, 0, 9) := (lc1 182 rfl rfl)
theorem flL_41 : flP (0, 59, 0, 10) := (lc1 183 rfl rfl)
theorem flL_42 : flP (0, 62, 0, 11) := (lc1 184 rfl rfl)
theorem flL_43 : flP (9, 11, 6, 0) := (lc4 138 rfl rfl)
theorem flL_44 : flP (9, 120, 6, 3) := (lc4 141 rfl rfl)
theorem flL_45 : flP (9, 15, 6, 1) := (lc4 139 rfl rfl)
theorem flL_46 : flP (9, 18, 6, 2) := (lc4 140 rfl rfl)
theorem flL_47 : flP (9, 28, 6, 6) := (lc4 144 rfl rfl)
theorem flL_48 : flP (9, 25, 6, 5) := (lc4 143 rfl rfl)
theorem flL_49 : flP (9, 21, 6, 4) := (lc4 142 rfl rfl)
theorem flL_50 : flP (9, 37, 6, 9) := (lc4 147 rfl rfl)
theorem flL_51 : flP (9, 34, 6, 8) := (lc4 146 rfl rfl)
theorem flL_52 : flP (9, 43, 6, 11) := (lc4 149 rfl rfl)
theorem flL_53 : flP (9, 31, 6, 7) := (lc4 145 rfl rfl)
theorem flL_54 : flP (9, 40, 6, 10) := (lc4 148 rfl rfl)
theorem flL_55 : flP (9, 47, 6, 12) := (lc4 150 rfl rfl)
theorem flL_56 : flP (9, 50, 6, 13) := (lc4 151 rfl rfl)
theorem flL_57 : flP (9, 56, 6, 16) := (lc4 154 rfl rfl)
theorem flL_58 : flP (9, 235, 6, 14) := (lc4 152 rfl rfl)
theorem flL_59 : flP (9, 53, 6, 15) := (lc4 153 rfl rfl)
theorem flL_60 : flP (9, 238, 6, 18) := (lc4 156 rfl rfl)
theorem flL_61 : flP (9, 59, 6, 17) := (lc4 155 rfl rfl)
theorem flL_62 : flP (9, 244, 6, 21) := (lc4 159 rfl rfl)
theorem flL_63 : flP (9, 349, 6, 28) := (lc4 166 rfl rfl)
theorem flL_64 : flP (9, 71, 6, 29) := (lc4 167 rfl rfl)
theorem flL_65 : flP (9, 74, 6, 30) := (lc4 168 rfl rfl)
theorem flL_66 : flP (9, 62, 6, 19) := (lc4 157 rfl rfl)
theorem flL_67 : flP (9, 65, 6, 20) := (lc4 158 rfl rfl)
theorem flL_68 : flP (9, 329, 6, 23) := (lc4 161 rfl rfl)
theorem flL_69 : flP (9, 68, 6, 22) := (lc4 160 rfl rfl)
theorem flL_70 : flP (9, 332, 6, 24) := (lc4 162 rfl rfl)
theorem flL_71 : flP (9, 341, 6, 25) := (lc4 163 rfl rfl)
theorem flL_72 : flP (9, 77, 6, 31) := (lc4 169 rfl rfl)
theorem flL_73 : flP (9, 80, 6, 32) := (lc4 170 rfl rfl)
theorem flL_74 : flP (9, 358, 6, 27) := (lc4 165 rfl rfl)
theorem flL_75 : flP (9, 380, 6, 26) := (lc4 164 rfl rfl)
theorem flL_76 : flP (9, 83, 6, 33) := (lc4 171 rfl rfl)
theorem flL_77 : flP (9, 86, 6, 34) := (lc4 172 rfl rfl)
theorem flL_78 : flP (9, 89, 6, 35) := (lc4 173 rfl rfl)
theorem flL_79 : flP (9, 92, 6, 36) := (lc4 174 rfl rfl)
theorem flL_80 : flP (9, 95, 6, 37) := (lc4 175 rfl rfl)
theorem flL_81 : flP (9, 98, 6, 38) := (lc4 176 rfl rfl)
theorem flL_82 : flP (9, 404, 6, 39) := (lc4 177 rfl rfl)
theorem flL_83 : flP (9, 101, 6, 40) := (lc4 178 rfl rfl)
theorem flL_84 : flP (9, 104, 6, 41) := (lc4 179 rfl rfl)
theorem flL_85 : flP (9, 107, 6, 42) := (lc4 180 rfl rfl)
theorem flL_86 : flP (9, 110, 6, 43) := (lc4 181 rfl rfl)
theorem flL_c0 : ∀ q ∈ [(2, 15, 1, 0), (2, 29, 1, 3), (2, 33, 1, 4), (2, 25, 1, 2), (2, 22, 1, 1), (3, 7, 2, 0), (3, 13, 2, 1), (3, 16, 2, 2), (3, 19, 2, 3), (3, 34, 2, 7), (3, 37, 2, 8), (3, 28, 2, 5), (3, 24, 2, 4), (3, 31, 2, 6), (3, 41, 2, 9), (3, 44, 2, 10), (3, 48, 2, 11), (3, 51, 2, 12), (4, 13, 3, 0), (6, 9, 4, 0), (6, 13, 4, 1), (6, 16, 4, 2), (7, 13, 5, 1), (7, 9, 5, 0)], flP q := List.forall_mem_cons.mpr ⟨flL_0, List.forall_mem_cons.mpr ⟨flL_1, List.forall_mem_cons.mpr ⟨flL_2, List.forall_mem_cons.mpr ⟨flL_3, List.forall_mem_cons.mpr ⟨flL_4, List.forall_mem_cons.mpr ⟨flL_5, List.forall_mem_cons.mpr ⟨flL_6, List.forall_mem_cons.mpr ⟨flL_7, List.forall_mem_cons.mpr ⟨flL_8, List.forall_mem_cons.mpr ⟨flL_9, List.forall_mem_cons.mpr ⟨flL_10, List.forall_mem_cons.mpr ⟨flL_11, List.forall_mem_cons.mpr ⟨flL_12, List.forall_mem_cons.mpr ⟨flL_13, List.forall_mem_cons.mpr ⟨flL_14, List.forall_mem_cons.mpr ⟨flL_15, List.forall_mem_cons.mpr ⟨flL_16, List.forall_mem_cons.mpr ⟨flL_17, List.forall_mem_cons.mpr ⟨flL_18, List.forall_mem_cons.mpr ⟨flL_19, List.forall_mem_cons.mpr ⟨flL_20, List.forall_mem_cons.mpr ⟨flL_21, List.forall_mem_cons.mpr ⟨flL_22, List.forall_mem_cons.mpr ⟨flL_23, fun _ h => absurd h List.not_mem_nil⟩⟩⟩⟩⟩⟩⟩⟩⟩⟩⟩⟩⟩⟩⟩⟩⟩⟩⟩⟩⟩⟩⟩⟩
theorem flL_c1 : ∀ q ∈ [(7, 21, 5, 2), (7, 28, 5, 4), (7, 32, 5, 5), (7, 25, 5, 3), (7, 38, 5, 6), (7, 42, 5, 7), (7, 47, 5, 8), (0, 12, 0, 0), (0, 49, 0, 5), (0, 21, 0, 1), (0, 28, 0, 2), (0, 35, 0, 3), (0, 43, 0, 4), (0, 55, 0, 6), (0, 65, 0, 7), (0, 69, 0, 8), (0, 73, 0, 9), (0, 59, 0, 10), (0, 62, 0, 11), (9, 11, 6, 0), (9, 120, 6, 3), (9, 15, 6, 1), (9, 18, 6, 2), (9, 28, 6, 6)], flP q := List.forall_mem_cons.mpr ⟨flL_24, List.forall_mem_cons.mpr ⟨flL_25, List.forall_mem_cons.mpr ⟨flL_26, List.forall_mem_cons.mpr ⟨flL_27, List.forall_mem_cons.mpr ⟨flL_28, List.forall_mem_cons.mpr ⟨flL_29, List.forall_mem_cons.mpr ⟨flL_30, List.forall_mem_cons.mpr ⟨flL_31, List.forall_mem_cons.mpr ⟨flL_32, List.forall_mem_cons.mpr ⟨flL_33, List.forall_mem_cons.mpr ⟨flL_34, List.forall_mem_cons.mpr ⟨flL_35, List.forall_mem_cons.mpr ⟨flL_36, List.forall_mem_cons.mpr ⟨flL_37, List.forall_mem_cons.mpr ⟨flL_38, List.forall_mem_cons.mpr ⟨flL_39, List.forall_mem_cons.mpr ⟨flL_40, List.forall_mem_cons.mpr ⟨flL_41, List.forall_mem_cons.mpr ⟨flL_42, List.forall_mem_cons.mpr ⟨flL_43, List.forall_mem_cons.mpr ⟨flL_44, List.forall_mem_cons.mpr ⟨flL_45, List.forall_mem_cons.mpr ⟨flL_46, List.forall_mem_cons.mpr ⟨flL_47, fun _ h => absurd h List.not_mem_nil⟩⟩⟩⟩⟩⟩⟩⟩⟩⟩⟩⟩⟩⟩⟩⟩⟩⟩⟩⟩⟩⟩⟩⟩
theorem flL_c2 : ∀ q ∈ [(9, 25, 6, 5), (9, 21, 6, 4), (9, 37, 6, 9), (9, 34, 6, 8), (9, 43, 6, 11), (9, 31, 6, 7), (9, 40, 6, 10), (9, 47, 6, 12), (9, 50, 6, 13), (9, 56, 6, 16), (9, 235, 6, 14), (9, 53, 6, 15), (9, 238, 6, 18), (9, 59, 6, 17), (9, 244, 6, 21), (9, 349, 6, 28), (9, 71, 6, 29), (9, 74, 6, 30), (9, 62, 6, 19), (9, 65, 6, 20), (9, 329, 6, 23), (9, 68, 6, 22), (9, 332, 6, 24), (9, 341, 6, 25)], flP q := List.forall_mem_cons.mpr ⟨flL_48, List.forall_mem_cons.mpr ⟨flL_49, List.forall_mem_cons.mpr ⟨flL_50, List.forall_mem_cons.mpr ⟨flL_51, List.forall_mem_cons.mpr ⟨flL_52, List.forall_mem_cons.mpr ⟨flL_53, List.forall_mem_cons.mpr ⟨flL_54, List.forall_mem_cons.mpr ⟨flL_55, List.forall_mem_cons.mpr ⟨flL_56, List.forall_mem_cons.mpr ⟨flL_57, List.forall_mem_cons.mpr ⟨flL_58, List.forall_mem_cons.mpr ⟨flL_59, List.forall_mem_cons.mpr ⟨flL_60, List.forall_mem_cons.mpr ⟨flL_61, List.forall_mem_cons.mpr ⟨flL_62, List.forall_mem_cons.mpr ⟨flL_63, List.forall_mem_cons.mpr ⟨flL_64, List.forall_mem_cons.mpr ⟨flL_65, List.forall_mem_cons.mpr ⟨flL_66, List.forall_mem_cons.mpr ⟨flL_67, List.forall_mem_cons.mpr ⟨flL_68, List.forall_mem_cons.mpr ⟨flL_69, List.forall_mem_cons.mpr ⟨flL_70, List.forall_mem_cons.mpr ⟨flL_71, fun _ h => absurd h List.not_mem_nil⟩⟩⟩⟩⟩⟩⟩⟩⟩⟩⟩⟩⟩⟩⟩⟩⟩⟩⟩⟩⟩⟩⟩⟩
theorem flL_c3 : ∀ q ∈ [(9, 77, 6, 31), (9, 80, 6, 32), (9, 358, 6, 27), (9, 380, 6, 26), (9, 83, 6, 33), (9, 86, 6, 34), (9, 89, 6, 35), (9, 92, 6, 36), (9, 95, 6, 37), (9, 98, 6, 38), (9, 404, 6, 39), (9, 101, 6, 40), (9, 104, 6, 41), (9, 107, 6, 42), (9, 110, 6, 43)], flP q := List.forall_mem_cons.mpr ⟨flL_72, List.forall_mem_cons.mpr ⟨flL_73, List.forall_mem_cons.mpr ⟨flL_74, List.forall_mem_cons.mpr ⟨flL_75, List.forall_mem_cons.mpr ⟨flL_76, List.forall_mem_cons.mpr ⟨flL_77, List.forall_mem_cons.mpr ⟨flL_78, List.forall_mem_cons.mpr ⟨flL_79, List.forall_mem_cons.mpr ⟨flL_80, List.forall_mem_cons.mpr ⟨flL_81, List.forall_mem_cons.mpr ⟨flL_82, List.forall_mem_cons.mpr ⟨flL_83, List.forall_mem_cons.mpr ⟨flL_84, List.forall_mem_cons.mpr ⟨flL_85, List.forall_mem_cons.mpr ⟨flL_86, fun _ h => absurd h List.not_mem_nil⟩⟩⟩⟩⟩⟩⟩⟩⟩⟩⟩⟩⟩⟩⟩
set_option maxRecDepth 100000 in
theorem flL_ok : ∀ q ∈ flL, flP q := by
  show ∀ q ∈ ([(2, 15, 1, 0), (2, 29, 1, 3), (2, 33, 1, 4), (2, 25, 1, 2), (2, 22, 1, 1), (3, 7, 2, 0), (3, 13, 2, 1), (3, 16, 2, 2), (3, 19, 2, 3), (3, 34, 2, 7), (3, 37, 2, 8), (3, 28, 2, 5), (3, 24, 2, 4), (3, 31, 2, 6), (3, 41, 2, 9), (3, 44, 2, 10), (3, 48, 2, 11), (3, 51, 2, 12), (4, 13, 3, 0), (6, 9, 4, 0), (6, 13, 4, 1), (6, 16, 4, 2), (7, 13, 5, 1), (7, 9, 5, 0)] ++ ([(7, 21, 5, 2), (7, 28, 5, 4), (7, 32, 5, 5), (7, 25, 5, 3), (7, 38, 5, 6), (7, 42, 5, 7), (7, 47, 5, 8), (0, 12, 0, 0), (0, 49, 0, 5), (0, 21, 0, 1), (0, 28, 0, 2), (0, 35, 0, 3), (0, 43, 0, 4), (0, 55, 0, 6), (0, 65, 0, 7), (0, 69, 0, 8), (0, 73, 0, 9), (0, 59, 0, 10), (0, 62, 0, 11), (9, 11, 6, 0), (9, 120, 6, 3), (9, 15, 6, 1), (9, 18, 6, 2), (9, 28, 6, 6)] ++ ([(9, 25, 6, 5), (9, 21, 6, 4), (9, 37, 6, 9), (9, 34, 6, 8), (9, 43, 6, 11), (9, 31, 6, 7), (9, 40, 6, 10), (9, 47, 6, 12), (9, 50, 6, 13), (9, 56, 6, 16), (9, 235, 6, 14), (9, 53, 6, 15), (9, 238, 6, 18), (9, 59, 6, 17), (9, 244, 6, 21), (9, 349, 6, 28), (9, 71, 6, 29), (9, 74, 6, 30), (9, 62, 6, 19), (9, 65, 6, 20), (9, 329, 6, 23), (9, 68, 6, 22), (9, 332, 6, 24), (9, 341, 6, 25)] ++ ([(9, 77, 6, 31), (9, 80, 6, 32), (9, 358, 6, 27), (9, 380, 6, 26), (9, 83, 6, 33), (9, 86, 6, 34), (9, 89, 6, 35), (9, 92, 6, 36), (9, 95, 6, 37), (9, 98, 6, 38), (9, 404, 6, 39), (9, 101, 6, 40), (9, 104, 6, 41), (9, 107, 6, 42), (9, 110, 6, 43)]))) : List (Nat × Nat × Nat × Nat)), flP q
  exact List.forall_mem_append.mpr ⟨flL_c0, List.forall_mem_append.mpr ⟨flL_c1, List.forall_mem_append.mpr ⟨flL_c2, flL_c3⟩⟩⟩
def gsP (q : Nat × Nat) : Prop := Jvm.Cond.fieldLink (pCn q.1) q.2 "TypesInside$Types" "NUMBERS" "[I" ∈ LW
def gsL : List (Nat × Nat) := [(8, 7)]
theorem gsL_0 : gsP (8, 7) := (lc1 217 rfl rfl)
theorem gsL_c0 : ∀ q ∈ [(8, 7)], gsP q := List.forall_mem_cons.mpr ⟨gsL_0, fun _ h => absurd h List.not_mem_nil⟩
set_option maxRecDepth 100000 in
theorem gsL_ok : ∀ q ∈ gsL, gsP q := by
  show ∀ q ∈ ([(8, 7)] : List (Nat × Nat)), gsP q
  exact gsL_c0
def ldIlP (q : Nat × Nat × Int32) : Prop := Jvm.Cond.constant (pCn q.1) q.2.1 q.2.2 ∈ LW
def ldIl : List (Nat × Nat × Int32) := [(11, 77, 2143289344)]
theorem ldIl_0 : ldIlP (11, 77, 2143289344) := (lc6 52 rfl rfl)
theorem ldIl_c0 : ∀ q ∈ [(11, 77, 2143289344)], ldIlP q := List.forall_mem_cons.mpr ⟨ldIl_0, fun _ h => absurd h List.not_mem_nil⟩
set_option maxRecDepth 100000 in
theorem ldIl_ok : ∀ q ∈ ldIl, ldIlP q := by
  show ∀ q ∈ ([(11, 77, 2143289344)] : List (Nat × Nat × Int32)), ldIlP q
  exact ldIl_c0
def ldFlP (q : Nat × Nat × UInt32) : Prop := Jvm.Cond.constantFloat (pCn q.1) q.2.1 q.2.2 ∈ LW
def ldFl : List (Nat × Nat × UInt32) := [(0, 216, 1148846080), (9, 314, 1148846080)]
theorem ldFl_0 : ldFlP (0, 216, 1148846080) := (lc3 104 rfl rfl)
theorem ldFl_1 : ldFlP (9, 314, 1148846080) := (lc6 57 rfl rfl)
theorem ldFl_c0 : ∀ q ∈ [(0, 216, 1148846080), (9, 314, 1148846080)], ldFlP q := List.forall_mem_cons.mpr ⟨ldFl_0, List.forall_mem_cons.mpr ⟨ldFl_1, fun _ h => absurd h List.not_mem_nil⟩⟩
set_option maxRecDepth 100000 in
theorem ldFl_ok : ∀ q ∈ ldFl, ldFlP q := by
  show ∀ q ∈ ([(0, 216, 1148846080), (9, 314, 1148846080)] : List (Nat × Nat × UInt32)), ldFlP q
  exact ldFl_c0
def ldJlP (q : Nat × Nat × Int64) : Prop := Jvm.Cond.constantLong (pCn q.1) q.2.1 q.2.2 ∈ LW
def ldJl : List (Nat × Nat × Int64) := [(1, 21, (-9223372036854775808)), (2, 73, (-1)), (3, 94, (-1)), (7, 100, (-1)), (0, 112, (-9223372036854775808)), (9, 131, 18), (9, 140, 6), (9, 159, (-1)), (9, 161, 30), (9, 163, 5), (9, 169, (-9223372036854775808)), (9, 206, (-5)), (9, 223, 2), (9, 315, 20), (9, 327, 127), (9, 364, 48), (9, 366, 57), (9, 378, 49), (9, 393, 3), (10, 137, 9221120237041090560), (12, 314, 6148914691236517205), (12, 316, 3689348814741910323), (12, 318, 1085102592571150095)]
theorem ldJl_0 : ldJlP (1, 21, (-9223372036854775808)) := (lc3 118 rfl rfl)
theorem ldJl_1 : ldJlP (2, 73, (-1)) := (lc2 77 rfl rfl)
theorem ldJl_2 : ldJlP (3, 94, (-1)) := (lc2 222 rfl rfl)
theorem ldJl_3 : ldJlP (7, 100, (-1)) := (lc3 184 rfl rfl)
theorem ldJl_4 : ldJlP (0, 112, (-9223372036854775808)) := (lc2 24 rfl rfl)
theorem ldJl_5 : ldJlP (9, 131, 18) := (lc5 35 rfl rfl)
theorem ldJl_6 : ldJlP (9, 140, 6) := (lc5 47 rfl rfl)
theorem ldJl_7 : ldJlP (9, 159, (-1)) := (lc5 84 rfl rfl)
theorem ldJl_8 : ldJlP (9, 161, 30) := (lc5 85 rfl rfl)
theorem ldJl_9 : ldJlP (9, 163, 5) := (lc5 80 rfl rfl)
theorem ldJl_10 : ldJlP (9, 169, (-9223372036854775808)) := (lc5 86 rfl rfl)
theorem ldJl_11 : ldJlP (9, 206, (-5)) := (lc5 116 rfl rfl)
theorem ldJl_12 : ldJlP (9, 223, 2) := (lc5 145 rfl rfl)
theorem ldJl_13 : ldJlP (9, 315, 20) := (lc6 62 rfl rfl)
theorem ldJl_14 : ldJlP (9, 327, 127) := (lc6 89 rfl rfl)
theorem ldJl_15 : ldJlP (9, 364, 48) := (lc6 114 rfl rfl)
theorem ldJl_16 : ldJlP (9, 366, 57) := (lc6 115 rfl rfl)
theorem ldJl_17 : ldJlP (9, 378, 49) := (lc6 124 rfl rfl)
theorem ldJl_18 : ldJlP (9, 393, 3) := (lc6 160 rfl rfl)
theorem ldJl_19 : ldJlP (10, 137, 9221120237041090560) := (lc6 76 rfl rfl)
theorem ldJl_20 : ldJlP (12, 314, 6148914691236517205) := (lc3 9 rfl rfl)
theorem ldJl_21 : ldJlP (12, 316, 3689348814741910323) := (lc3 10 rfl rfl)
theorem ldJl_22 : ldJlP (12, 318, 1085102592571150095) := (lc3 11 rfl rfl)
theorem ldJl_c0 : ∀ q ∈ [(1, 21, (-9223372036854775808)), (2, 73, (-1)), (3, 94, (-1)), (7, 100, (-1)), (0, 112, (-9223372036854775808)), (9, 131, 18), (9, 140, 6), (9, 159, (-1)), (9, 161, 30), (9, 163, 5), (9, 169, (-9223372036854775808)), (9, 206, (-5)), (9, 223, 2), (9, 315, 20), (9, 327, 127), (9, 364, 48), (9, 366, 57), (9, 378, 49), (9, 393, 3), (10, 137, 9221120237041090560), (12, 314, 6148914691236517205), (12, 316, 3689348814741910323), (12, 318, 1085102592571150095)], ldJlP q := List.forall_mem_cons.mpr ⟨ldJl_0, List.forall_mem_cons.mpr ⟨ldJl_1, List.forall_mem_cons.mpr ⟨ldJl_2, List.forall_mem_cons.mpr ⟨ldJl_3, List.forall_mem_cons.mpr ⟨ldJl_4, List.forall_mem_cons.mpr ⟨ldJl_5, List.forall_mem_cons.mpr ⟨ldJl_6, List.forall_mem_cons.mpr ⟨ldJl_7, List.forall_mem_cons.mpr ⟨ldJl_8, List.forall_mem_cons.mpr ⟨ldJl_9, List.forall_mem_cons.mpr ⟨ldJl_10, List.forall_mem_cons.mpr ⟨ldJl_11, List.forall_mem_cons.mpr ⟨ldJl_12, List.forall_mem_cons.mpr ⟨ldJl_13, List.forall_mem_cons.mpr ⟨ldJl_14, List.forall_mem_cons.mpr ⟨ldJl_15, List.forall_mem_cons.mpr ⟨ldJl_16, List.forall_mem_cons.mpr ⟨ldJl_17, List.forall_mem_cons.mpr ⟨ldJl_18, List.forall_mem_cons.mpr ⟨ldJl_19, List.forall_mem_cons.mpr ⟨ldJl_20, List.forall_mem_cons.mpr ⟨ldJl_21, List.forall_mem_cons.mpr ⟨ldJl_22, fun _ h => absurd h List.not_mem_nil⟩⟩⟩⟩⟩⟩⟩⟩⟩⟩⟩⟩⟩⟩⟩⟩⟩⟩⟩⟩⟩⟩⟩
set_option maxRecDepth 100000 in
theorem ldJl_ok : ∀ q ∈ ldJl, ldJlP q := by
  show ∀ q ∈ ([(1, 21, (-9223372036854775808)), (2, 73, (-1)), (3, 94, (-1)), (7, 100, (-1)), (0, 112, (-9223372036854775808)), (9, 131, 18), (9, 140, 6), (9, 159, (-1)), (9, 161, 30), (9, 163, 5), (9, 169, (-9223372036854775808)), (9, 206, (-5)), (9, 223, 2), (9, 315, 20), (9, 327, 127), (9, 364, 48), (9, 366, 57), (9, 378, 49), (9, 393, 3), (10, 137, 9221120237041090560), (12, 314, 6148914691236517205), (12, 316, 3689348814741910323), (12, 318, 1085102592571150095)] : List (Nat × Nat × Int64)), ldJlP q
  exact ldJl_c0
def ldDlP (q : Nat × Nat × UInt64) : Prop := Jvm.Cond.constantDouble (pCn q.1) q.2.1 q.2.2 ∈ LW
def ldDl : List (Nat × Nat × UInt64) := [(1, 17, 4710765210229538816), (1, 19, 4841369599423283200), (1, 23, 4611686018427387904)]
theorem ldDl_0 : ldDlP (1, 17, 4710765210229538816) := (lc3 99 rfl rfl)
theorem ldDl_1 : ldDlP (1, 19, 4841369599423283200) := (lc3 117 rfl rfl)
theorem ldDl_2 : ldDlP (1, 23, 4611686018427387904) := (lc3 95 rfl rfl)
theorem ldDl_c0 : ∀ q ∈ [(1, 17, 4710765210229538816), (1, 19, 4841369599423283200), (1, 23, 4611686018427387904)], ldDlP q := List.forall_mem_cons.mpr ⟨ldDl_0, List.forall_mem_cons.mpr ⟨ldDl_1, List.forall_mem_cons.mpr ⟨ldDl_2, fun _ h => absurd h List.not_mem_nil⟩⟩⟩
set_option maxRecDepth 100000 in
theorem ldDl_ok : ∀ q ∈ ldDl, ldDlP q := by
  show ∀ q ∈ ([(1, 17, 4710765210229538816), (1, 19, 4841369599423283200), (1, 23, 4611686018427387904)] : List (Nat × Nat × UInt64)), ldDlP q
  exact ldDl_c0
def nvN (k : Nat) : MethodName := match k with
  | 1000 => arraycopyName
  | 1001 => ⟨"java/lang/Float", "floatToRawIntBits", "(F)I"⟩
  | _ => ⟨"java/lang/Double", "doubleToRawLongBits", "(D)J"⟩
def nlP (q : Nat × Nat × Nat) : Prop := Jvm.Cond.methodLink (pCn q.2.1) q.2.2 (nvN q.1) ∈ LW
def nlL : List (Nat × Nat × Nat) := [(1000, 6, 35), (1002, 10, 134), (1001, 11, 74)]
theorem nlL_0 : nlP (1000, 6, 35) := (lc4 109 rfl rfl)
theorem nlL_1 : nlP (1002, 10, 134) := (lc6 73 rfl rfl)
theorem nlL_2 : nlP (1001, 11, 74) := (lc6 49 rfl rfl)
theorem nlL_c0 : ∀ q ∈ [(1000, 6, 35), (1002, 10, 134), (1001, 11, 74)], nlP q := List.forall_mem_cons.mpr ⟨nlL_0, List.forall_mem_cons.mpr ⟨nlL_1, List.forall_mem_cons.mpr ⟨nlL_2, fun _ h => absurd h List.not_mem_nil⟩⟩⟩
set_option maxRecDepth 100000 in
theorem nlL_ok : ∀ q ∈ nlL, nlP q := by
  show ∀ q ∈ ([(1000, 6, 35), (1002, 10, 134), (1001, 11, 74)] : List (Nat × Nat × Nat)), nlP q
  exact nlL_c0
theorem nvnative1000 : Jvm.Cond.native (nvN 1000) ∈ LW := (lc4 111 rfl rfl)
theorem nvstatic1000 : Jvm.Cond.static (nvN 1000) ∈ LW := (lc4 110 rfl rfl)
theorem nvini1000 : Jvm.Cond.initialized "java/lang/System" ∈ LW := (lc1 17 rfl rfl)
theorem nvnative1001 : Jvm.Cond.native (nvN 1001) ∈ LW := (lc6 51 rfl rfl)
theorem nvstatic1001 : Jvm.Cond.static (nvN 1001) ∈ LW := (lc6 50 rfl rfl)
theorem nvini1001 : Jvm.Cond.initialized "java/lang/Float" ∈ LW := (lc1 14 rfl rfl)
theorem nvnative1002 : Jvm.Cond.native (nvN 1002) ∈ LW := (lc6 75 rfl rfl)
theorem nvstatic1002 : Jvm.Cond.static (nvN 1002) ∈ LW := (lc6 74 rfl rfl)
theorem nvini1002 : Jvm.Cond.initialized "java/lang/Double" ∈ LW := (lc1 15 rfl rfl)
/-- what is so of each method -/
def mwP (c : Nat) : Prop := Jvm.Cond.code (pY c) (pB c) (pM c) (pR c) ∈ LW ∧ Jvm.Cond.initialized (pY c).cls ∈ LW ∧ (pY c).cls = pCn (pO c) ∧ (pS c = true → Jvm.Cond.static (pY c) ∈ LW) ∧ (pS c = false → Jvm.Cond.instanceMethod (pY c) ∈ LW ∧ Jvm.Cond.selects (pY c).cls (pY c) (pY c) ∈ LW) ∧ plainFor (pY c) = true ∧ ((pY c).cls ≠ "java/lang/invoke/MethodHandle" ∧ (pY c).cls ≠ "java/lang/invoke/VarHandle" ∧ (parseMethodDescriptor (pY c).desc).map (fun d => d.parameters.length) = some (pNp c)) ∧ pM c ≤ 45
def mwL : List Nat := [0, 1, 2, 3, 4, 5, 6, 7, 8, 9, 10, 11, 12, 13, 14, 15, 16, 17, 18, 19, 20, 21, 22, 23, 24, 25, 26, 27, 28, 29, 30, 31, 32, 33, 34, 35, 36, 37, 38, 39, 40, 41, 42, 43, 44, 45, 46, 47, 48, 49, 50, 51, 52, 53, 54, 55, 56, 57, 58, 59, 60, 61, 62, 63, 64, 65, 66, 67, 68, 69, 70, 71, 72, 73, 74, 75, 76, 77, 78, 79, 80, 81, 82, 83, 84, 85, 86, 87, 88, 89, 90, 91, 92, 93, 94, 95, 96, 97, 98, 99, 100, 101, 102, 103, 104, 105, 106, 107, 108, 109, 110, 111, 112, 113, 114, 115, 116, 117, 118, 119, 120, 121, 122, 123, 124, 125, 126, 127, 128, 129, 130, 131, 132, 133, 134, 135, 136, 137, 138, 139, 140, 141, 142, 143, 144, 145, 146, 147, 148, 149, 150, 151, 152, 153, 154, 155, 156, 157, 158, 159, 160, 161, 162, 163, 164, 165, 166, 167, 168, 169, 170, 171, 172, 173, 174, 175, 176, 177, 178, 179, 180, 181, 182, 183, 184, 185, 186, 187, 188, 189, 190, 191, 192, 193, 194, 195, 196, 197, 198, 199, 200, 201, 202, 203, 204, 205, 206, 207, 208, 209, 210, 211, 212, 213, 214, 215, 216, 217, 218, 219, 220, 221, 222, 223, 224, 225, 226, 227, 228, 229, 230, 231, 232, 233, 234, 235, 236, 237, 238, 239, 240, 241, 242, 243, 244, 245, 246, 247, 248, 249, 250, 251, 252, 253]
theorem mwL_0 : mwP 0 := ⟨(lc3 91 rfl rfl), (lc1 13 rfl rfl), rfl, (fun _ => (lc3 90 rfl rfl)), (fun e => by cases e), plainFor_of_name (by decide +kernel), ⟨by decide +kernel, by decide +kernel, by decide +kernel⟩, by decide⟩
theorem mwL_1 : mwP 1 := ⟨(lc3 116 rfl rfl), (lc1 13 rfl rfl), rfl, (fun _ => (lc3 115 rfl rfl)), (fun e => by cases e), plainFor_of_name (by decide +kernel), ⟨by decide +kernel, by decide +kernel, by decide +kernel⟩, by decide⟩
theorem mwL_2 : mwP 2 := ⟨(lc3 94 rfl rfl), (lc1 13 rfl rfl), rfl, (fun _ => (lc3 93 rfl rfl)), (fun e => by cases e), plainFor_of_name (by decide +kernel), ⟨by decide +kernel, by decide +kernel, by decide +kernel⟩, by decide⟩
theorem mwL_3 : mwP 3 := ⟨(lc3 98 rfl rfl), (lc1 13 rfl rfl), rfl, (fun _ => (lc3 97 rfl rfl)), (fun e => by cases e), plainFor_of_name (by decide +kernel), ⟨by decide +kernel, by decide +kernel, by decide +kernel⟩, by decide⟩
theorem mwL_4 : mwP 4 := ⟨(lc2 28 rfl rfl), (lc1 2 rfl rfl), rfl, (fun e => by cases e), (fun _ => ⟨(lc2 26 rfl rfl), (lc2 27 rfl rfl)⟩), plainFor_of_name (by decide +kernel), ⟨by decide +kernel, by decide +kernel, by decide +kernel⟩, by decide⟩
theorem mwL_5 : mwP 5 := ⟨(lc2 42 rfl rfl), (lc1 2 rfl rfl), rfl, (fun e => by cases e), (fun _ => ⟨(lc2 40 rfl rfl), (lc2 41 rfl rfl)⟩), plainFor_of_name (by decide +kernel), ⟨by decide +kernel, by decide +kernel, by decide +kernel⟩, by decide⟩
theorem mwL_6 : mwP 6 := ⟨(lc2 69 rfl rfl), (lc1 2 rfl rfl), rfl, (fun e => by cases e), (fun _ => ⟨(lc2 67 rfl rfl), (lc2 68 rfl rfl)⟩), plainFor_of_name (by decide +kernel), ⟨by decide +kernel, by decide +kernel, by decide +kernel⟩, by decide⟩
theorem mwL_7 : mwP 7 := ⟨(lc2 75 rfl rfl), (lc1 2 rfl rfl), rfl, (fun e => by cases e), (fun _ => ⟨(lc2 74 rfl rfl), (ls1 0 rfl)⟩), plainFor_of_name (by decide +kernel), ⟨by decide +kernel, by decide +kernel, by decide +kernel⟩, by decide⟩
theorem mwL_8 : mwP 8 := ⟨(lc2 87 rfl rfl), (lc1 2 rfl rfl), rfl, (fun _ => (lc2 86 rfl rfl)), (fun e => by cases e), plainFor_of_name (by decide +kernel), ⟨by decide +kernel, by decide +kernel, by decide +kernel⟩, by decide⟩
theorem mwL_9 : mwP 9 := ⟨(lc2 91 rfl rfl), (lc1 2 rfl rfl), rfl, (fun e => by cases e), (fun _ => ⟨(lc2 89 rfl rfl), (lc2 90 rfl rfl)⟩), plainFor_of_name (by decide +kernel), ⟨by decide +kernel, by decide +kernel, by decide +kernel⟩, by decide⟩
theorem mwL_10 : mwP 10 := ⟨(lc2 95 rfl rfl), (lc1 2 rfl rfl), rfl, (fun e => by cases e), (fun _ => ⟨(lc2 94 rfl rfl), (ls1 1 rfl)⟩), plainFor_of_name (by decide +kernel), ⟨by decide +kernel, by decide +kernel, by decide +kernel⟩, by decide⟩
theorem mwL_11 : mwP 11 := ⟨(lc2 99 rfl rfl), (lc1 2 rfl rfl), rfl, (fun _ => (lc2 98 rfl rfl)), (fun e => by cases e), plainFor_of_name (by decide +kernel), ⟨by decide +kernel, by decide +kernel, by decide +kernel⟩, by decide⟩
theorem mwL_12 : mwP 12 := ⟨(lc2 106 rfl rfl), (lc1 2 rfl rfl), rfl, (fun e => by cases e), (fun _ => ⟨(lc2 105 rfl rfl), (ls1 2 rfl)⟩), plainFor_of_name (by decide +kernel), ⟨by decide +kernel, by decide +kernel, by decide +kernel⟩, by decide⟩
theorem mwL_13 : mwP 13 := ⟨(lc2 110 rfl rfl), (lc1 2 rfl rfl), rfl, (fun e => by cases e), (fun _ => ⟨(lc2 109 rfl rfl), (ls1 3 rfl)⟩), plainFor_of_name (by decide +kernel), ⟨by decide +kernel, by decide +kernel, by decide +kernel⟩, by decide⟩
theorem mwL_14 : mwP 14 := ⟨(lc4 97 rfl rfl), (lc1 3 rfl rfl), rfl, (fun e => by cases e), (fun _ => ⟨(lc4 95 rfl rfl), (lc4 96 rfl rfl)⟩), plainFor_of_name (by decide +kernel), ⟨by decide +kernel, by decide +kernel, by decide +kernel⟩, by decide⟩
theorem mwL_15 : mwP 15 := ⟨(lc4 101 rfl rfl), (lc1 3 rfl rfl), rfl, (fun e => by cases e), (fun _ => ⟨(lc4 99 rfl rfl), (lc4 100 rfl rfl)⟩), plainFor_of_name (by decide +kernel), ⟨by decide +kernel, by decide +kernel, by decide +kernel⟩, by decide⟩
theorem mwL_16 : mwP 16 := ⟨(lc2 174 rfl rfl), (lc1 3 rfl rfl), rfl, (fun e => by cases e), (fun _ => ⟨(lc2 172 rfl rfl), (lc2 173 rfl rfl)⟩), plainFor_of_name (by decide +kernel), ⟨by decide +kernel, by decide +kernel, by decide +kernel⟩, by decide⟩
theorem mwL_17 : mwP 17 := ⟨(lc2 208 rfl rfl), (lc1 3 rfl rfl), rfl, (fun e => by cases e), (fun _ => ⟨(lc2 206 rfl rfl), (lc2 207 rfl rfl)⟩), plainFor_of_name (by decide +kernel), ⟨by decide +kernel, by decide +kernel, by decide +kernel⟩, by decide⟩
theorem mwL_18 : mwP 18 := ⟨(lc2 130 rfl rfl), (lc1 3 rfl rfl), rfl, (fun _ => (lc2 129 rfl rfl)), (fun e => by cases e), plainFor_of_name (by decide +kernel), ⟨by decide +kernel, by decide +kernel, by decide +kernel⟩, by decide⟩
theorem mwL_19 : mwP 19 := ⟨(lc2 135 rfl rfl), (lc1 3 rfl rfl), rfl, (fun e => by cases e), (fun _ => ⟨(lc2 133 rfl rfl), (lc2 134 rfl rfl)⟩), plainFor_of_name (by decide +kernel), ⟨by decide +kernel, by decide +kernel, by decide +kernel⟩, by decide⟩
theorem mwL_20 : mwP 20 := ⟨(lc2 141 rfl rfl), (lc1 3 rfl rfl), rfl, (fun e => by cases e), (fun _ => ⟨(lc2 140 rfl rfl), (ls1 4 rfl)⟩), plainFor_of_name (by decide +kernel), ⟨by decide +kernel, by decide +kernel, by decide +kernel⟩, by decide⟩
theorem mwL_21 : mwP 21 := ⟨(lc2 148 rfl rfl), (lc1 3 rfl rfl), rfl, (fun e => by cases e), (fun _ => ⟨(lc2 147 rfl rfl), (ls1 5 rfl)⟩), plainFor_of_name (by decide +kernel), ⟨by decide +kernel, by decide +kernel, by decide +kernel⟩, by decide⟩
theorem mwL_22 : mwP 22 := ⟨(lc2 152 rfl rfl), (lc1 3 rfl rfl), rfl, (fun e => by cases e), (fun _ => ⟨(lc2 151 rfl rfl), (ls1 6 rfl)⟩), plainFor_of_name (by decide +kernel), ⟨by decide +kernel, by decide +kernel, by decide +kernel⟩, by decide⟩
theorem mwL_23 : mwP 23 := ⟨(lc2 159 rfl rfl), (lc1 3 rfl rfl), rfl, (fun e => by cases e), (fun _ => ⟨(lc2 158 rfl rfl), (ls1 7 rfl)⟩), plainFor_of_name (by decide +kernel), ⟨by decide +kernel, by decide +kernel, by decide +kernel⟩, by decide⟩
theorem mwL_24 : mwP 24 := ⟨(lc2 163 rfl rfl), (lc1 3 rfl rfl), rfl, (fun e => by cases e), (fun _ => ⟨(lc2 161 rfl rfl), (lc2 162 rfl rfl)⟩), plainFor_of_name (by decide +kernel), ⟨by decide +kernel, by decide +kernel, by decide +kernel⟩, by decide⟩
theorem mwL_25 : mwP 25 := ⟨(lc2 182 rfl rfl), (lc1 3 rfl rfl), rfl, (fun e => by cases e), (fun _ => ⟨(lc2 180 rfl rfl), (lc2 181 rfl rfl)⟩), plainFor_of_name (by decide +kernel), ⟨by decide +kernel, by decide +kernel, by decide +kernel⟩, by decide⟩
theorem mwL_26 : mwP 26 := ⟨(lc2 221 rfl rfl), (lc1 3 rfl rfl), rfl, (fun e => by cases e), (fun _ => ⟨(lc2 220 rfl rfl), (ls1 8 rfl)⟩), plainFor_of_name (by decide +kernel), ⟨by decide +kernel, by decide +kernel, by decide +kernel⟩, by decide⟩
theorem mwL_27 : mwP 27 := ⟨(lc2 217 rfl rfl), (lc1 3 rfl rfl), rfl, (fun e => by cases e), (fun _ => ⟨(lc2 215 rfl rfl), (lc2 216 rfl rfl)⟩), plainFor_of_name (by decide +kernel), ⟨by decide +kernel, by decide +kernel, by decide +kernel⟩, by decide⟩
theorem mwL_28 : mwP 28 := ⟨(lc2 229 rfl rfl), (lc1 3 rfl rfl), rfl, (fun _ => (lc2 228 rfl rfl)), (fun e => by cases e), plainFor_of_name (by decide +kernel), ⟨by decide +kernel, by decide +kernel, by decide +kernel⟩, by decide⟩
theorem mwL_29 : mwP 29 := ⟨(lc2 167 rfl rfl), (lc1 3 rfl rfl), rfl, (fun e => by cases e), (fun _ => ⟨(lc2 165 rfl rfl), (lc2 166 rfl rfl)⟩), plainFor_of_name (by decide +kernel), ⟨by decide +kernel, by decide +kernel, by decide +kernel⟩, by decide⟩
theorem mwL_30 : mwP 30 := ⟨(lc2 186 rfl rfl), (lc1 3 rfl rfl), rfl, (fun e => by cases e), (fun _ => ⟨(lc2 184 rfl rfl), (lc2 185 rfl rfl)⟩), plainFor_of_name (by decide +kernel), ⟨by decide +kernel, by decide +kernel, by decide +kernel⟩, by decide⟩
theorem mwL_31 : mwP 31 := ⟨(lc2 199 rfl rfl), (lc1 3 rfl rfl), rfl, (fun e => by cases e), (fun _ => ⟨(lc2 197 rfl rfl), (lc2 198 rfl rfl)⟩), plainFor_of_name (by decide +kernel), ⟨by decide +kernel, by decide +kernel, by decide +kernel⟩, by decide⟩
theorem mwL_32 : mwP 32 := ⟨(lc2 237 rfl rfl), (lc1 3 rfl rfl), rfl, (fun e => by cases e), (fun _ => ⟨(lc2 236 rfl rfl), (ls1 10 rfl)⟩), plainFor_of_name (by decide +kernel), ⟨by decide +kernel, by decide +kernel, by decide +kernel⟩, by decide⟩
theorem mwL_33 : mwP 33 := ⟨(lc2 233 rfl rfl), (lc1 3 rfl rfl), rfl, (fun e => by cases e), (fun _ => ⟨(lc2 232 rfl rfl), (ls1 9 rfl)⟩), plainFor_of_name (by decide +kernel), ⟨by decide +kernel, by decide +kernel, by decide +kernel⟩, by decide⟩
theorem mwL_34 : mwP 34 := ⟨(lc2 226 rfl rfl), (lc1 3 rfl rfl), rfl, (fun e => by cases e), (fun _ => ⟨(lc2 224 rfl rfl), (lc2 225 rfl rfl)⟩), plainFor_of_name (by decide +kernel), ⟨by decide +kernel, by decide +kernel, by decide +kernel⟩, by decide⟩
theorem mwL_35 : mwP 35 := ⟨(lc3 15 rfl rfl), (lc1 3 rfl rfl), rfl, (fun e => by cases e), (fun _ => ⟨(lc3 13 rfl rfl), (lc3 14 rfl rfl)⟩), plainFor_of_name (by decide +kernel), ⟨by decide +kernel, by decide +kernel, by decide +kernel⟩, by decide⟩
theorem mwL_36 : mwP 36 := ⟨(lc3 20 rfl rfl), (lc1 3 rfl rfl), rfl, (fun e => by cases e), (fun _ => ⟨(lc3 18 rfl rfl), (lc3 19 rfl rfl)⟩), plainFor_of_name (by decide +kernel), ⟨by decide +kernel, by decide +kernel, by decide +kernel⟩, by decide⟩
theorem mwL_37 : mwP 37 := ⟨(lc3 39 rfl rfl), (lc1 3 rfl rfl), rfl, (fun e => by cases e), (fun _ => ⟨(lc3 37 rfl rfl), (lc3 38 rfl rfl)⟩), plainFor_of_name (by decide +kernel), ⟨by decide +kernel, by decide +kernel, by decide +kernel⟩, by decide⟩
theorem mwL_38 : mwP 38 := ⟨(lc3 24 rfl rfl), (lc1 3 rfl rfl), rfl, (fun e => by cases e), (fun _ => ⟨(lc3 23 rfl rfl), (ls1 11 rfl)⟩), plainFor_of_name (by decide +kernel), ⟨by decide +kernel, by decide +kernel, by decide +kernel⟩, by decide⟩
theorem mwL_39 : mwP 39 := ⟨(lc3 29 rfl rfl), (lc1 3 rfl rfl), rfl, (fun e => by cases e), (fun _ => ⟨(lc3 28 rfl rfl), (ls1 12 rfl)⟩), plainFor_of_name (by decide +kernel), ⟨by decide +kernel, by decide +kernel, by decide +kernel⟩, by decide⟩
theorem mwL_40 : mwP 40 := ⟨(lc3 33 rfl rfl), (lc1 3 rfl rfl), rfl, (fun e => by cases e), (fun _ => ⟨(lc3 32 rfl rfl), (ls1 13 rfl)⟩), plainFor_of_name (by decide +kernel), ⟨by decide +kernel, by decide +kernel, by decide +kernel⟩, by decide⟩
theorem mwL_41 : mwP 41 := ⟨(lc3 47 rfl rfl), (lc1 3 rfl rfl), rfl, (fun e => by cases e), (fun _ => ⟨(lc3 45 rfl rfl), (lc3 46 rfl rfl)⟩), plainFor_of_name (by decide +kernel), ⟨by decide +kernel, by decide +kernel, by decide +kernel⟩, by decide⟩
theorem mwL_42 : mwP 42 := ⟨(lc3 71 rfl rfl), (lc1 3 rfl rfl), rfl, (fun e => by cases e), (fun _ => ⟨(lc3 69 rfl rfl), (lc3 70 rfl rfl)⟩), plainFor_of_name (by decide +kernel), ⟨by decide +kernel, by decide +kernel, by decide +kernel⟩, by decide⟩
theorem mwL_43 : mwP 43 := ⟨(lc3 63 rfl rfl), (lc1 3 rfl rfl), rfl, (fun e => by cases e), (fun _ => ⟨(lc3 61 rfl rfl), (lc3 62 rfl rfl)⟩), plainFor_of_name (by decide +kernel), ⟨by decide +kernel, by decide +kernel, by decide +kernel⟩, by decide⟩
theorem mwL_44 : mwP 44 := ⟨(lc3 80 rfl rfl), (lc1 3 rfl rfl), rfl, (fun e => by cases e), (fun _ => ⟨(lc3 78 rfl rfl), (lc3 79 rfl rfl)⟩), plainFor_of_name (by decide +kernel), ⟨by decide +kernel, by decide +kernel, by decide +kernel⟩, by decide⟩
theorem mwL_45 : mwP 45 := ⟨(lc3 51 rfl rfl), (lc1 3 rfl rfl), rfl, (fun e => by cases e), (fun _ => ⟨(lc3 50 rfl rfl), (ls1 14 rfl)⟩), plainFor_of_name (by decide +kernel), ⟨by decide +kernel, by decide +kernel, by decide +kernel⟩, by decide⟩
theorem mwL_46 : mwP 46 := ⟨(lc3 55 rfl rfl), (lc1 3 rfl rfl), rfl, (fun e => by cases e), (fun _ => ⟨(lc3 54 rfl rfl), (ls1 15 rfl)⟩), plainFor_of_name (by decide +kernel), ⟨by decide +kernel, by decide +kernel, by decide +kernel⟩, by decide⟩
theorem mwL_47 : mwP 47 := ⟨(lc3 59 rfl rfl), (lc1 3 rfl rfl), rfl, (fun e => by cases e), (fun _ => ⟨(lc3 58 rfl rfl), (ls2 0 rfl)⟩), plainFor_of_name (by decide +kernel), ⟨by decide +kernel, by decide +kernel, by decide +kernel⟩, by decide⟩
theorem mwL_48 : mwP 48 := ⟨(lc3 67 rfl rfl), (lc1 3 rfl rfl), rfl, (fun e => by cases e), (fun _ => ⟨(lc3 66 rfl rfl), (ls2 1 rfl)⟩), plainFor_of_name (by decide +kernel), ⟨by decide +kernel, by decide +kernel, by decide +kernel⟩, by decide⟩
theorem mwL_49 : mwP 49 := ⟨(lc3 192 rfl rfl), (lc1 5 rfl rfl), rfl, (fun e => by cases e), (fun _ => ⟨(lc3 190 rfl rfl), (lc3 191 rfl rfl)⟩), plainFor_of_name (by decide +kernel), ⟨by decide +kernel, by decide +kernel, by decide +kernel⟩, by decide⟩
theorem mwL_50 : mwP 50 := ⟨(lc3 177 rfl rfl), (lc1 5 rfl rfl), rfl, (fun e => by cases e), (fun _ => ⟨(lc3 175 rfl rfl), (lc3 176 rfl rfl)⟩), plainFor_of_name (by decide +kernel), ⟨by decide +kernel, by decide +kernel, by decide +kernel⟩, by decide⟩
theorem mwL_51 : mwP 51 := ⟨(lc3 215 rfl rfl), (lc1 5 rfl rfl), rfl, (fun e => by cases e), (fun _ => ⟨(lc3 213 rfl rfl), (lc3 214 rfl rfl)⟩), plainFor_of_name (by decide +kernel), ⟨by decide +kernel, by decide +kernel, by decide +kernel⟩, by decide⟩
theorem mwL_52 : mwP 52 := ⟨(lc3 209 rfl rfl), (lc1 5 rfl rfl), rfl, (fun e => by cases e), (fun _ => ⟨(lc3 207 rfl rfl), (lc3 208 rfl rfl)⟩), plainFor_of_name (by decide +kernel), ⟨by decide +kernel, by decide +kernel, by decide +kernel⟩, by decide⟩
theorem mwL_53 : mwP 53 := ⟨(lc3 188 rfl rfl), (lc1 5 rfl rfl), rfl, (fun e => by cases e), (fun _ => ⟨(lc3 186 rfl rfl), (lc3 187 rfl rfl)⟩), plainFor_of_name (by decide +kernel), ⟨by decide +kernel, by decide +kernel, by decide +kernel⟩, by decide⟩
theorem mwL_54 : mwP 54 := ⟨(lc3 224 rfl rfl), (lc1 5 rfl rfl), rfl, (fun e => by cases e), (fun _ => ⟨(lc3 222 rfl rfl), (lc3 223 rfl rfl)⟩), plainFor_of_name (by decide +kernel), ⟨by decide +kernel, by decide +kernel, by decide +kernel⟩, by decide⟩
theorem mwL_55 : mwP 55 := ⟨(lc3 228 rfl rfl), (lc1 5 rfl rfl), rfl, (fun e => by cases e), (fun _ => ⟨(lc3 226 rfl rfl), (lc3 227 rfl rfl)⟩), plainFor_of_name (by decide +kernel), ⟨by decide +kernel, by decide +kernel, by decide +kernel⟩, by decide⟩
theorem mwL_56 : mwP 56 := ⟨(lc4 17 rfl rfl), (lc1 5 rfl rfl), rfl, (fun e => by cases e), (fun _ => ⟨(lc4 15 rfl rfl), (lc4 16 rfl rfl)⟩), plainFor_of_name (by decide +kernel), ⟨by decide +kernel, by decide +kernel, by decide +kernel⟩, by decide⟩
theorem mwL_57 : mwP 57 := ⟨(lc4 25 rfl rfl), (lc1 5 rfl rfl), rfl, (fun e => by cases e), (fun _ => ⟨(lc4 23 rfl rfl), (lc4 24 rfl rfl)⟩), plainFor_of_name (by decide +kernel), ⟨by decide +kernel, by decide +kernel, by decide +kernel⟩, by decide⟩
theorem mwL_58 : mwP 58 := ⟨(lc2 23 rfl rfl), (lc1 9 rfl rfl), rfl, (fun _ => (lc2 22 rfl rfl)), (fun e => by cases e), plainFor_of_name (by decide +kernel), ⟨by decide +kernel, by decide +kernel, by decide +kernel⟩, by decide⟩
theorem mwL_59 : mwP 59 := ⟨(lc2 31 rfl rfl), (lc1 9 rfl rfl), rfl, (fun _ => (lc2 30 rfl rfl)), (fun e => by cases e), plainFor_of_name (by decide +kernel), ⟨by decide +kernel, by decide +kernel, by decide +kernel⟩, by decide⟩
theorem mwL_60 : mwP 60 := ⟨(lc2 34 rfl rfl), (lc1 9 rfl rfl), rfl, (fun _ => (lc2 33 rfl rfl)), (fun e => by cases e), plainFor_of_name (by decide +kernel), ⟨by decide +kernel, by decide +kernel, by decide +kernel⟩, by decide⟩
theorem mwL_61 : mwP 61 := ⟨(lc2 46 rfl rfl), (lc1 9 rfl rfl), rfl, (fun _ => (lc2 45 rfl rfl)), (fun e => by cases e), plainFor_of_name (by decide +kernel), ⟨by decide +kernel, by decide +kernel, by decide +kernel⟩, by decide⟩
theorem mwL_62 : mwP 62 := ⟨(lc2 49 rfl rfl), (lc1 9 rfl rfl), rfl, (fun _ => (lc2 48 rfl rfl)), (fun e => by cases e), plainFor_of_name (by decide +kernel), ⟨by decide +kernel, by decide +kernel, by decide +kernel⟩, by decide⟩
theorem mwL_63 : mwP 63 := ⟨(lc2 113 rfl rfl), (lc1 9 rfl rfl), rfl, (fun _ => (lc2 112 rfl rfl)), (fun e => by cases e), plainFor_of_name (by decide +kernel), ⟨by decide +kernel, by decide +kernel, by decide +kernel⟩, by decide⟩
theorem mwL_64 : mwP 64 := ⟨(lc2 80 rfl rfl), (lc1 9 rfl rfl), rfl, (fun _ => (lc2 79 rfl rfl)), (fun e => by cases e), plainFor_of_name (by decide +kernel), ⟨by decide +kernel, by decide +kernel, by decide +kernel⟩, by decide⟩
theorem mwL_65 : mwP 65 := ⟨(lc2 54 rfl rfl), (lc1 9 rfl rfl), rfl, (fun _ => (lc2 53 rfl rfl)), (fun e => by cases e), plainFor_of_name (by decide +kernel), ⟨by decide +kernel, by decide +kernel, by decide +kernel⟩, by decide⟩
theorem mwL_66 : mwP 66 := ⟨(lc2 102 rfl rfl), (lc1 9 rfl rfl), rfl, (fun _ => (lc2 101 rfl rfl)), (fun e => by cases e), plainFor_of_name (by decide +kernel), ⟨by decide +kernel, by decide +kernel, by decide +kernel⟩, by decide⟩
theorem mwL_67 : mwP 67 := ⟨(lc2 58 rfl rfl), (lc1 9 rfl rfl), rfl, (fun _ => (lc2 57 rfl rfl)), (fun e => by cases e), plainFor_of_name (by decide +kernel), ⟨by decide +kernel, by decide +kernel, by decide +kernel⟩, by decide⟩
theorem mwL_68 : mwP 68 := ⟨(lc2 123 rfl rfl), (lc1 9 rfl rfl), rfl, (fun _ => (lc2 122 rfl rfl)), (fun e => by cases e), plainFor_of_name (by decide +kernel), ⟨by decide +kernel, by decide +kernel, by decide +kernel⟩, by decide⟩
theorem mwL_69 : mwP 69 := ⟨(lc4 43 rfl rfl), (lc1 6 rfl rfl), rfl, (fun e => by cases e), (fun _ => ⟨(lc4 41 rfl rfl), (lc4 42 rfl rfl)⟩), plainFor_of_name (by decide +kernel), ⟨by decide +kernel, by decide +kernel, by decide +kernel⟩, by decide⟩
theorem mwL_70 : mwP 70 := ⟨(lc4 108 rfl rfl), (lc1 6 rfl rfl), rfl, (fun e => by cases e), (fun _ => ⟨(lc4 106 rfl rfl), (lc4 107 rfl rfl)⟩), plainFor_of_name (by decide +kernel), ⟨by decide +kernel, by decide +kernel, by decide +kernel⟩, by decide⟩
theorem mwL_71 : mwP 71 := ⟨(lc4 56 rfl rfl), (lc1 6 rfl rfl), rfl, (fun e => by cases e), (fun _ => ⟨(lc4 54 rfl rfl), (lc4 55 rfl rfl)⟩), plainFor_of_name (by decide +kernel), ⟨by decide +kernel, by decide +kernel, by decide +kernel⟩, by decide⟩
theorem mwL_72 : mwP 72 := ⟨(lc4 60 rfl rfl), (lc1 6 rfl rfl), rfl, (fun e => by cases e), (fun _ => ⟨(lc4 58 rfl rfl), (lc4 59 rfl rfl)⟩), plainFor_of_name (by decide +kernel), ⟨by decide +kernel, by decide +kernel, by decide +kernel⟩, by decide⟩
theorem mwL_73 : mwP 73 := ⟨(lc4 85 rfl rfl), (lc1 6 rfl rfl), rfl, (fun e => by cases e), (fun _ => ⟨(lc4 83 rfl rfl), (lc4 84 rfl rfl)⟩), plainFor_of_name (by decide +kernel), ⟨by decide +kernel, by decide +kernel, by decide +kernel⟩, by decide⟩
theorem mwL_74 : mwP 74 := ⟨(lc4 64 rfl rfl), (lc1 6 rfl rfl), rfl, (fun e => by cases e), (fun _ => ⟨(lc4 62 rfl rfl), (lc4 63 rfl rfl)⟩), plainFor_of_name (by decide +kernel), ⟨by decide +kernel, by decide +kernel, by decide +kernel⟩, by decide⟩
theorem mwL_75 : mwP 75 := ⟨(lc4 77 rfl rfl), (lc1 6 rfl rfl), rfl, (fun e => by cases e), (fun _ => ⟨(lc4 75 rfl rfl), (lc4 76 rfl rfl)⟩), plainFor_of_name (by decide +kernel), ⟨by decide +kernel, by decide +kernel, by decide +kernel⟩, by decide⟩
theorem mwL_76 : mwP 76 := ⟨(lc4 69 rfl rfl), (lc1 6 rfl rfl), rfl, (fun e => by cases e), (fun _ => ⟨(lc4 67 rfl rfl), (lc4 68 rfl rfl)⟩), plainFor_of_name (by decide +kernel), ⟨by decide +kernel, by decide +kernel, by decide +kernel⟩, by decide⟩
theorem mwL_77 : mwP 77 := ⟨(lc3 138 rfl rfl), (lc1 4 rfl rfl), rfl, (fun e => by cases e), (fun _ => ⟨(lc3 136 rfl rfl), (lc3 137 rfl rfl)⟩), plainFor_of_name (by decide +kernel), ⟨by decide +kernel, by decide +kernel, by decide +kernel⟩, by decide⟩
theorem mwL_78 : mwP 78 := ⟨(lc3 134 rfl rfl), (lc1 4 rfl rfl), rfl, (fun e => by cases e), (fun _ => ⟨(lc3 132 rfl rfl), (lc3 133 rfl rfl)⟩), plainFor_of_name (by decide +kernel), ⟨by decide +kernel, by decide +kernel, by decide +kernel⟩, by decide⟩
theorem mwL_79 : mwP 79 := ⟨(lc4 8 rfl rfl), (lc1 4 rfl rfl), rfl, (fun e => by cases e), (fun _ => ⟨(lc4 6 rfl rfl), (lc4 7 rfl rfl)⟩), plainFor_of_name (by decide +kernel), ⟨by decide +kernel, by decide +kernel, by decide +kernel⟩, by decide⟩
theorem mwL_80 : mwP 80 := ⟨(lc4 12 rfl rfl), (lc1 4 rfl rfl), rfl, (fun e => by cases e), (fun _ => ⟨(lc4 10 rfl rfl), (lc4 11 rfl rfl)⟩), plainFor_of_name (by decide +kernel), ⟨by decide +kernel, by decide +kernel, by decide +kernel⟩, by decide⟩
theorem mwL_81 : mwP 81 := ⟨(lc3 150 rfl rfl), (lc1 4 rfl rfl), rfl, (fun e => by cases e), (fun _ => ⟨(lc3 149 rfl rfl), (ls2 4 rfl)⟩), plainFor_of_name (by decide +kernel), ⟨by decide +kernel, by decide +kernel, by decide +kernel⟩, by decide⟩
theorem mwL_82 : mwP 82 := ⟨(lc3 156 rfl rfl), (lc1 4 rfl rfl), rfl, (fun _ => (lc3 155 rfl rfl)), (fun e => by cases e), plainFor_of_name (by decide +kernel), ⟨by decide +kernel, by decide +kernel, by decide +kernel⟩, by decide⟩
theorem mwL_83 : mwP 83 := ⟨(lc3 146 rfl rfl), (lc1 4 rfl rfl), rfl, (fun e => by cases e), (fun _ => ⟨(lc3 144 rfl rfl), (lc3 145 rfl rfl)⟩), plainFor_of_name (by decide +kernel), ⟨by decide +kernel, by decide +kernel, by decide +kernel⟩, by decide⟩
theorem mwL_84 : mwP 84 := ⟨(lc3 153 rfl rfl), (lc1 4 rfl rfl), rfl, (fun _ => (lc3 152 rfl rfl)), (fun e => by cases e), plainFor_of_name (by decide +kernel), ⟨by decide +kernel, by decide +kernel, by decide +kernel⟩, by decide⟩
theorem mwL_85 : mwP 85 := ⟨(lc3 160 rfl rfl), (lc1 4 rfl rfl), rfl, (fun e => by cases e), (fun _ => ⟨(lc3 158 rfl rfl), (lc3 159 rfl rfl)⟩), plainFor_of_name (by decide +kernel), ⟨by decide +kernel, by decide +kernel, by decide +kernel⟩, by decide⟩
theorem mwL_86 : mwP 86 := ⟨(lc3 164 rfl rfl), (lc1 4 rfl rfl), rfl, (fun e => by cases e), (fun _ => ⟨(lc3 163 rfl rfl), (ls2 5 rfl)⟩), plainFor_of_name (by decide +kernel), ⟨by decide +kernel, by decide +kernel, by decide +kernel⟩, by decide⟩
theorem mwL_87 : mwP 87 := ⟨(lc3 169 rfl rfl), (lc1 4 rfl rfl), rfl, (fun e => by cases e), (fun _ => ⟨(lc3 167 rfl rfl), (lc3 168 rfl rfl)⟩), plainFor_of_name (by decide +kernel), ⟨by decide +kernel, by decide +kernel, by decide +kernel⟩, by decide⟩
theorem mwL_88 : mwP 88 := ⟨(lc3 173 rfl rfl), (lc1 4 rfl rfl), rfl, (fun e => by cases e), (fun _ => ⟨(lc3 172 rfl rfl), (ls2 6 rfl)⟩), plainFor_of_name (by decide +kernel), ⟨by decide +kernel, by decide +kernel, by decide +kernel⟩, by decide⟩
theorem mwL_89 : mwP 89 := ⟨(lc3 183 rfl rfl), (lc1 4 rfl rfl), rfl, (fun e => by cases e), (fun _ => ⟨(lc3 182 rfl rfl), (ls2 7 rfl)⟩), plainFor_of_name (by decide +kernel), ⟨by decide +kernel, by decide +kernel, by decide +kernel⟩, by decide⟩
theorem mwL_90 : mwP 90 := ⟨(lc3 197 rfl rfl), (lc1 4 rfl rfl), rfl, (fun e => by cases e), (fun _ => ⟨(lc3 196 rfl rfl), (ls2 8 rfl)⟩), plainFor_of_name (by decide +kernel), ⟨by decide +kernel, by decide +kernel, by decide +kernel⟩, by decide⟩
theorem mwL_91 : mwP 91 := ⟨(lc3 201 rfl rfl), (lc1 4 rfl rfl), rfl, (fun e => by cases e), (fun _ => ⟨(lc3 200 rfl rfl), (ls2 9 rfl)⟩), plainFor_of_name (by decide +kernel), ⟨by decide +kernel, by decide +kernel, by decide +kernel⟩, by decide⟩
theorem mwL_92 : mwP 92 := ⟨(lc3 205 rfl rfl), (lc1 4 rfl rfl), rfl, (fun e => by cases e), (fun _ => ⟨(lc3 204 rfl rfl), (ls2 10 rfl)⟩), plainFor_of_name (by decide +kernel), ⟨by decide +kernel, by decide +kernel, by decide +kernel⟩, by decide⟩
theorem mwL_93 : mwP 93 := ⟨(lc3 220 rfl rfl), (lc1 4 rfl rfl), rfl, (fun e => by cases e), (fun _ => ⟨(lc3 219 rfl rfl), (ls2 11 rfl)⟩), plainFor_of_name (by decide +kernel), ⟨by decide +kernel, by decide +kernel, by decide +kernel⟩, by decide⟩
theorem mwL_94 : mwP 94 := ⟨(lc3 234 rfl rfl), (lc1 4 rfl rfl), rfl, (fun e => by cases e), (fun _ => ⟨(lc3 233 rfl rfl), (ls2 12 rfl)⟩), plainFor_of_name (by decide +kernel), ⟨by decide +kernel, by decide +kernel, by decide +kernel⟩, by decide⟩
theorem mwL_95 : mwP 95 := ⟨(lc3 239 rfl rfl), (lc1 4 rfl rfl), rfl, (fun e => by cases e), (fun _ => ⟨(lc3 238 rfl rfl), (ls2 13 rfl)⟩), plainFor_of_name (by decide +kernel), ⟨by decide +kernel, by decide +kernel, by decide +kernel⟩, by decide⟩
theorem mwL_96 : mwP 96 := ⟨(lc1 216 rfl rfl), (lc1 8 rfl rfl), rfl, (fun _ => (lc1 215 rfl rfl)), (fun e => by cases e), plainFor_of_name (by decide +kernel), ⟨by decide +kernel, by decide +kernel, by decide +kernel⟩, by decide⟩
theorem mwL_97 : mwP 97 := ⟨(lc1 225 rfl rfl), (lc1 8 rfl rfl), rfl, (fun _ => (lc1 224 rfl rfl)), (fun e => by cases e), plainFor_of_name (by decide +kernel), ⟨by decide +kernel, by decide +kernel, by decide +kernel⟩, by decide⟩
theorem mwL_98 : mwP 98 := ⟨(lc1 234 rfl rfl), (lc1 8 rfl rfl), rfl, (fun _ => (lc1 233 rfl rfl)), (fun e => by cases e), plainFor_of_name (by decide +kernel), ⟨by decide +kernel, by decide +kernel, by decide +kernel⟩, by decide⟩
theorem mwL_99 : mwP 99 := ⟨(lc1 231 rfl rfl), (lc1 8 rfl rfl), rfl, (fun _ => (lc1 230 rfl rfl)), (fun e => by cases e), plainFor_of_name (by decide +kernel), ⟨by decide +kernel, by decide +kernel, by decide +kernel⟩, by decide⟩
theorem mwL_100 : mwP 100 := ⟨(lc2 144 rfl rfl), (lc1 8 rfl rfl), rfl, (fun _ => (lc2 143 rfl rfl)), (fun e => by cases e), plainFor_of_name (by decide +kernel), ⟨by decide +kernel, by decide +kernel, by decide +kernel⟩, by decide⟩
theorem mwL_101 : mwP 101 := ⟨(lc1 228 rfl rfl), (lc1 8 rfl rfl), rfl, (fun _ => (lc1 227 rfl rfl)), (fun e => by cases e), plainFor_of_name (by decide +kernel), ⟨by decide +kernel, by decide +kernel, by decide +kernel⟩, by decide⟩
theorem mwL_102 : mwP 102 := ⟨(lc1 237 rfl rfl), (lc1 8 rfl rfl), rfl, (fun _ => (lc1 236 rfl rfl)), (fun e => by cases e), plainFor_of_name (by decide +kernel), ⟨by decide +kernel, by decide +kernel, by decide +kernel⟩, by decide⟩
theorem mwL_103 : mwP 103 := ⟨(lc2 0 rfl rfl), (lc1 8 rfl rfl), rfl, (fun _ => (lc1 239 rfl rfl)), (fun e => by cases e), plainFor_of_name (by decide +kernel), ⟨by decide +kernel, by decide +kernel, by decide +kernel⟩, by decide⟩
theorem mwL_104 : mwP 104 := ⟨(lc2 7 rfl rfl), (lc1 8 rfl rfl), rfl, (fun _ => (lc2 6 rfl rfl)), (fun e => by cases e), plainFor_of_name (by decide +kernel), ⟨by decide +kernel, by decide +kernel, by decide +kernel⟩, by decide⟩
theorem mwL_105 : mwP 105 := ⟨(lc2 4 rfl rfl), (lc1 8 rfl rfl), rfl, (fun _ => (lc2 3 rfl rfl)), (fun e => by cases e), plainFor_of_name (by decide +kernel), ⟨by decide +kernel, by decide +kernel, by decide +kernel⟩, by decide⟩
theorem mwL_106 : mwP 106 := ⟨(lc2 10 rfl rfl), (lc1 8 rfl rfl), rfl, (fun _ => (lc2 9 rfl rfl)), (fun e => by cases e), plainFor_of_name (by decide +kernel), ⟨by decide +kernel, by decide +kernel, by decide +kernel⟩, by decide⟩
theorem mwL_107 : mwP 107 := ⟨(lc1 213 rfl rfl), (lc1 1 rfl rfl), rfl, (fun e => by cases e), (fun _ => ⟨(lc1 211 rfl rfl), (lc1 212 rfl rfl)⟩), plainFor_of_name (by decide +kernel), ⟨by decide +kernel, by decide +kernel, by decide +kernel⟩, by decide⟩
theorem mwL_108 : mwP 108 := ⟨(lc1 222 rfl rfl), (lc1 1 rfl rfl), rfl, (fun e => by cases e), (fun _ => ⟨(lc1 220 rfl rfl), (lc1 221 rfl rfl)⟩), plainFor_of_name (by decide +kernel), ⟨by decide +kernel, by decide +kernel, by decide +kernel⟩, by decide⟩
theorem mwL_109 : mwP 109 := ⟨(lc2 15 rfl rfl), (lc1 1 rfl rfl), rfl, (fun e => by cases e), (fun _ => ⟨(lc2 13 rfl rfl), (lc2 14 rfl rfl)⟩), plainFor_of_name (by decide +kernel), ⟨by decide +kernel, by decide +kernel, by decide +kernel⟩, by decide⟩
theorem mwL_110 : mwP 110 := ⟨(lc2 20 rfl rfl), (lc1 1 rfl rfl), rfl, (fun e => by cases e), (fun _ => ⟨(lc2 18 rfl rfl), (lc2 19 rfl rfl)⟩), plainFor_of_name (by decide +kernel), ⟨by decide +kernel, by decide +kernel, by decide +kernel⟩, by decide⟩
theorem mwL_111 : mwP 111 := ⟨(lc2 38 rfl rfl), (lc1 1 rfl rfl), rfl, (fun e => by cases e), (fun _ => ⟨(lc2 36 rfl rfl), (lc2 37 rfl rfl)⟩), plainFor_of_name (by decide +kernel), ⟨by decide +kernel, by decide +kernel, by decide +kernel⟩, by decide⟩
theorem mwL_112 : mwP 112 := ⟨(lc2 65 rfl rfl), (lc1 1 rfl rfl), rfl, (fun e => by cases e), (fun _ => ⟨(lc2 63 rfl rfl), (lc2 64 rfl rfl)⟩), plainFor_of_name (by decide +kernel), ⟨by decide +kernel, by decide +kernel, by decide +kernel⟩, by decide⟩
theorem mwL_113 : mwP 113 := ⟨(lc2 84 rfl rfl), (lc1 1 rfl rfl), rfl, (fun e => by cases e), (fun _ => ⟨(lc2 82 rfl rfl), (lc2 83 rfl rfl)⟩), plainFor_of_name (by decide +kernel), ⟨by decide +kernel, by decide +kernel, by decide +kernel⟩, by decide⟩
theorem mwL_114 : mwP 114 := ⟨(lc2 117 rfl rfl), (lc1 1 rfl rfl), rfl, (fun e => by cases e), (fun _ => ⟨(lc2 115 rfl rfl), (lc2 116 rfl rfl)⟩), plainFor_of_name (by decide +kernel), ⟨by decide +kernel, by decide +kernel, by decide +kernel⟩, by decide⟩
theorem mwL_115 : mwP 115 := ⟨(lc2 120 rfl rfl), (lc1 1 rfl rfl), rfl, (fun _ => (lc2 119 rfl rfl)), (fun e => by cases e), plainFor_of_name (by decide +kernel), ⟨by decide +kernel, by decide +kernel, by decide +kernel⟩, by decide⟩
theorem mwL_116 : mwP 116 := ⟨(lc2 127 rfl rfl), (lc1 1 rfl rfl), rfl, (fun e => by cases e), (fun _ => ⟨(lc2 125 rfl rfl), (lc2 126 rfl rfl)⟩), plainFor_of_name (by decide +kernel), ⟨by decide +kernel, by decide +kernel, by decide +kernel⟩, by decide⟩
theorem mwL_117 : mwP 117 := ⟨(lc2 178 rfl rfl), (lc1 1 rfl rfl), rfl, (fun e => by cases e), (fun _ => ⟨(lc2 176 rfl rfl), (lc2 177 rfl rfl)⟩), plainFor_of_name (by decide +kernel), ⟨by decide +kernel, by decide +kernel, by decide +kernel⟩, by decide⟩
theorem mwL_118 : mwP 118 := ⟨(lc2 190 rfl rfl), (lc1 1 rfl rfl), rfl, (fun e => by cases e), (fun _ => ⟨(lc2 188 rfl rfl), (lc2 189 rfl rfl)⟩), plainFor_of_name (by decide +kernel), ⟨by decide +kernel, by decide +kernel, by decide +kernel⟩, by decide⟩
theorem mwL_119 : mwP 119 := ⟨(lc2 195 rfl rfl), (lc1 1 rfl rfl), rfl, (fun e => by cases e), (fun _ => ⟨(lc2 193 rfl rfl), (lc2 194 rfl rfl)⟩), plainFor_of_name (by decide +kernel), ⟨by decide +kernel, by decide +kernel, by decide +kernel⟩, by decide⟩
theorem mwL_120 : mwP 120 := ⟨(lc2 204 rfl rfl), (lc1 1 rfl rfl), rfl, (fun e => by cases e), (fun _ => ⟨(lc2 202 rfl rfl), (lc2 203 rfl rfl)⟩), plainFor_of_name (by decide +kernel), ⟨by decide +kernel, by decide +kernel, by decide +kernel⟩, by decide⟩
theorem mwL_121 : mwP 121 := ⟨(lc2 213 rfl rfl), (lc1 1 rfl rfl), rfl, (fun e => by cases e), (fun _ => ⟨(lc2 211 rfl rfl), (lc2 212 rfl rfl)⟩), plainFor_of_name (by decide +kernel), ⟨by decide +kernel, by decide +kernel, by decide +kernel⟩, by decide⟩
theorem mwL_122 : mwP 122 := ⟨(lc3 1 rfl rfl), (lc1 1 rfl rfl), rfl, (fun e => by cases e), (fun _ => ⟨(lc2 239 rfl rfl), (lc3 0 rfl rfl)⟩), plainFor_of_name (by decide +kernel), ⟨by decide +kernel, by decide +kernel, by decide +kernel⟩, by decide⟩
theorem mwL_123 : mwP 123 := ⟨(lc3 5 rfl rfl), (lc1 1 rfl rfl), rfl, (fun e => by cases e), (fun _ => ⟨(lc3 3 rfl rfl), (lc3 4 rfl rfl)⟩), plainFor_of_name (by decide +kernel), ⟨by decide +kernel, by decide +kernel, by decide +kernel⟩, by decide⟩
theorem mwL_124 : mwP 124 := ⟨(lc3 43 rfl rfl), (lc1 1 rfl rfl), rfl, (fun e => by cases e), (fun _ => ⟨(lc3 41 rfl rfl), (lc3 42 rfl rfl)⟩), plainFor_of_name (by decide +kernel), ⟨by decide +kernel, by decide +kernel, by decide +kernel⟩, by decide⟩
theorem mwL_125 : mwP 125 := ⟨(lc3 76 rfl rfl), (lc1 1 rfl rfl), rfl, (fun e => by cases e), (fun _ => ⟨(lc3 74 rfl rfl), (lc3 75 rfl rfl)⟩), plainFor_of_name (by decide +kernel), ⟨by decide +kernel, by decide +kernel, by decide +kernel⟩, by decide⟩
theorem mwL_126 : mwP 126 := ⟨(lc3 84 rfl rfl), (lc1 1 rfl rfl), rfl, (fun e => by cases e), (fun _ => ⟨(lc3 82 rfl rfl), (lc3 83 rfl rfl)⟩), plainFor_of_name (by decide +kernel), ⟨by decide +kernel, by decide +kernel, by decide +kernel⟩, by decide⟩
theorem mwL_127 : mwP 127 := ⟨(lc3 103 rfl rfl), (lc1 1 rfl rfl), rfl, (fun e => by cases e), (fun _ => ⟨(lc3 101 rfl rfl), (lc3 102 rfl rfl)⟩), plainFor_of_name (by decide +kernel), ⟨by decide +kernel, by decide +kernel, by decide +kernel⟩, by decide⟩
theorem mwL_128 : mwP 128 := ⟨(lc3 88 rfl rfl), (lc1 1 rfl rfl), rfl, (fun e => by cases e), (fun _ => ⟨(lc3 87 rfl rfl), (ls2 2 rfl)⟩), plainFor_of_name (by decide +kernel), ⟨by decide +kernel, by decide +kernel, by decide +kernel⟩, by decide⟩
theorem mwL_129 : mwP 129 := ⟨(lc3 108 rfl rfl), (lc1 1 rfl rfl), rfl, (fun e => by cases e), (fun _ => ⟨(lc3 106 rfl rfl), (lc3 107 rfl rfl)⟩), plainFor_of_name (by decide +kernel), ⟨by decide +kernel, by decide +kernel, by decide +kernel⟩, by decide⟩
theorem mwL_130 : mwP 130 := ⟨(lc3 122 rfl rfl), (lc1 1 rfl rfl), rfl, (fun e => by cases e), (fun _ => ⟨(lc3 120 rfl rfl), (lc3 121 rfl rfl)⟩), plainFor_of_name (by decide +kernel), ⟨by decide +kernel, by decide +kernel, by decide +kernel⟩, by decide⟩
theorem mwL_131 : mwP 131 := ⟨(lc3 112 rfl rfl), (lc1 1 rfl rfl), rfl, (fun e => by cases e), (fun _ => ⟨(lc3 111 rfl rfl), (ls2 3 rfl)⟩), plainFor_of_name (by decide +kernel), ⟨by decide +kernel, by decide +kernel, by decide +kernel⟩, by decide⟩
theorem mwL_132 : mwP 132 := ⟨(lc3 126 rfl rfl), (lc1 1 rfl rfl), rfl, (fun e => by cases e), (fun _ => ⟨(lc3 124 rfl rfl), (lc3 125 rfl rfl)⟩), plainFor_of_name (by decide +kernel), ⟨by decide +kernel, by decide +kernel, by decide +kernel⟩, by decide⟩
theorem mwL_133 : mwP 133 := ⟨(lc3 130 rfl rfl), (lc1 1 rfl rfl), rfl, (fun e => by cases e), (fun _ => ⟨(lc3 128 rfl rfl), (lc3 129 rfl rfl)⟩), plainFor_of_name (by decide +kernel), ⟨by decide +kernel, by decide +kernel, by decide +kernel⟩, by decide⟩
theorem mwL_134 : mwP 134 := ⟨(lc3 142 rfl rfl), (lc1 1 rfl rfl), rfl, (fun e => by cases e), (fun _ => ⟨(lc3 140 rfl rfl), (lc3 141 rfl rfl)⟩), plainFor_of_name (by decide +kernel), ⟨by decide +kernel, by decide +kernel, by decide +kernel⟩, by decide⟩
theorem mwL_135 : mwP 135 := ⟨(lc4 21 rfl rfl), (lc1 1 rfl rfl), rfl, (fun e => by cases e), (fun _ => ⟨(lc4 19 rfl rfl), (lc4 20 rfl rfl)⟩), plainFor_of_name (by decide +kernel), ⟨by decide +kernel, by decide +kernel, by decide +kernel⟩, by decide⟩
theorem mwL_136 : mwP 136 := ⟨(lc4 31 rfl rfl), (lc1 1 rfl rfl), rfl, (fun e => by cases e), (fun _ => ⟨(lc4 29 rfl rfl), (lc4 30 rfl rfl)⟩), plainFor_of_name (by decide +kernel), ⟨by decide +kernel, by decide +kernel, by decide +kernel⟩, by decide⟩
theorem mwL_137 : mwP 137 := ⟨(lc4 39 rfl rfl), (lc1 1 rfl rfl), rfl, (fun e => by cases e), (fun _ => ⟨(lc4 38 rfl rfl), (ls2 14 rfl)⟩), plainFor_of_name (by decide +kernel), ⟨by decide +kernel, by decide +kernel, by decide +kernel⟩, by decide⟩
theorem mwL_138 : mwP 138 := ⟨(lc4 35 rfl rfl), (lc1 1 rfl rfl), rfl, (fun e => by cases e), (fun _ => ⟨(lc4 33 rfl rfl), (lc4 34 rfl rfl)⟩), plainFor_of_name (by decide +kernel), ⟨by decide +kernel, by decide +kernel, by decide +kernel⟩, by decide⟩
theorem mwL_139 : mwP 139 := ⟨(lc4 52 rfl rfl), (lc1 1 rfl rfl), rfl, (fun e => by cases e), (fun _ => ⟨(lc4 50 rfl rfl), (lc4 51 rfl rfl)⟩), plainFor_of_name (by decide +kernel), ⟨by decide +kernel, by decide +kernel, by decide +kernel⟩, by decide⟩
theorem mwL_140 : mwP 140 := ⟨(lc4 73 rfl rfl), (lc1 1 rfl rfl), rfl, (fun e => by cases e), (fun _ => ⟨(lc4 71 rfl rfl), (lc4 72 rfl rfl)⟩), plainFor_of_name (by decide +kernel), ⟨by decide +kernel, by decide +kernel, by decide +kernel⟩, by decide⟩
theorem mwL_141 : mwP 141 := ⟨(lc4 81 rfl rfl), (lc1 1 rfl rfl), rfl, (fun e => by cases e), (fun _ => ⟨(lc4 79 rfl rfl), (lc4 80 rfl rfl)⟩), plainFor_of_name (by decide +kernel), ⟨by decide +kernel, by decide +kernel, by decide +kernel⟩, by decide⟩
theorem mwL_142 : mwP 142 := ⟨(lc4 89 rfl rfl), (lc1 1 rfl rfl), rfl, (fun e => by cases e), (fun _ => ⟨(lc4 87 rfl rfl), (lc4 88 rfl rfl)⟩), plainFor_of_name (by decide +kernel), ⟨by decide +kernel, by decide +kernel, by decide +kernel⟩, by decide⟩
theorem mwL_143 : mwP 143 := ⟨(lc4 93 rfl rfl), (lc1 1 rfl rfl), rfl, (fun e => by cases e), (fun _ => ⟨(lc4 91 rfl rfl), (lc4 92 rfl rfl)⟩), plainFor_of_name (by decide +kernel), ⟨by decide +kernel, by decide +kernel, by decide +kernel⟩, by decide⟩
theorem mwL_144 : mwP 144 := ⟨(lc4 115 rfl rfl), (lc1 1 rfl rfl), rfl, (fun e => by cases e), (fun _ => ⟨(lc4 113 rfl rfl), (lc4 114 rfl rfl)⟩), plainFor_of_name (by decide +kernel), ⟨by decide +kernel, by decide +kernel, by decide +kernel⟩, by decide⟩
theorem mwL_145 : mwP 145 := ⟨(lc4 104 rfl rfl), (lc1 1 rfl rfl), rfl, (fun _ => (lc4 103 rfl rfl)), (fun e => by cases e), plainFor_of_name (by decide +kernel), ⟨by decide +kernel, by decide +kernel, by decide +kernel⟩, by decide⟩
theorem mwL_146 : mwP 146 := ⟨(lc4 119 rfl rfl), (lc1 1 rfl rfl), rfl, (fun e => by cases e), (fun _ => ⟨(lc4 117 rfl rfl), (lc4 118 rfl rfl)⟩), plainFor_of_name (by decide +kernel), ⟨by decide +kernel, by decide +kernel, by decide +kernel⟩, by decide⟩
theorem mwL_147 : mwP 147 := ⟨(lc4 123 rfl rfl), (lc1 1 rfl rfl), rfl, (fun e => by cases e), (fun _ => ⟨(lc4 122 rfl rfl), (ls2 15 rfl)⟩), plainFor_of_name (by decide +kernel), ⟨by decide +kernel, by decide +kernel, by decide +kernel⟩, by decide⟩
theorem mwL_148 : mwP 148 := ⟨(lc5 38 rfl rfl), (lc1 7 rfl rfl), rfl, (fun _ => (lc5 37 rfl rfl)), (fun e => by cases e), plainFor_of_name (by decide +kernel), ⟨by decide +kernel, by decide +kernel, by decide +kernel⟩, by decide⟩
theorem mwL_149 : mwP 149 := ⟨(lc5 75 rfl rfl), (lc1 7 rfl rfl), rfl, (fun e => by cases e), (fun _ => ⟨(lc5 73 rfl rfl), (lc5 74 rfl rfl)⟩), plainFor_of_name (by decide +kernel), ⟨by decide +kernel, by decide +kernel, by decide +kernel⟩, by decide⟩
theorem mwL_150 : mwP 150 := ⟨(lc4 133 rfl rfl), (lc1 7 rfl rfl), rfl, (fun e => by cases e), (fun _ => ⟨(lc4 132 rfl rfl), (ls3 0 rfl)⟩), plainFor_of_name (by decide +kernel), ⟨by decide +kernel, by decide +kernel, by decide +kernel⟩, by decide⟩
theorem mwL_151 : mwP 151 := ⟨(lc5 55 rfl rfl), (lc1 7 rfl rfl), rfl, (fun e => by cases e), (fun _ => ⟨(lc5 54 rfl rfl), (ls3 4 rfl)⟩), plainFor_of_name (by decide +kernel), ⟨by decide +kernel, by decide +kernel, by decide +kernel⟩, by decide⟩
theorem mwL_152 : mwP 152 := ⟨(lc5 46 rfl rfl), (lc1 7 rfl rfl), rfl, (fun e => by cases e), (fun _ => ⟨(lc5 45 rfl rfl), (ls3 2 rfl)⟩), plainFor_of_name (by decide +kernel), ⟨by decide +kernel, by decide +kernel, by decide +kernel⟩, by decide⟩
theorem mwL_153 : mwP 153 := ⟨(lc5 51 rfl rfl), (lc1 7 rfl rfl), rfl, (fun e => by cases e), (fun _ => ⟨(lc5 50 rfl rfl), (ls3 3 rfl)⟩), plainFor_of_name (by decide +kernel), ⟨by decide +kernel, by decide +kernel, by decide +kernel⟩, by decide⟩
theorem mwL_154 : mwP 154 := ⟨(lc5 59 rfl rfl), (lc1 7 rfl rfl), rfl, (fun e => by cases e), (fun _ => ⟨(lc5 58 rfl rfl), (ls3 5 rfl)⟩), plainFor_of_name (by decide +kernel), ⟨by decide +kernel, by decide +kernel, by decide +kernel⟩, by decide⟩
theorem mwL_155 : mwP 155 := ⟨(lc5 63 rfl rfl), (lc1 7 rfl rfl), rfl, (fun e => by cases e), (fun _ => ⟨(lc5 62 rfl rfl), (ls3 6 rfl)⟩), plainFor_of_name (by decide +kernel), ⟨by decide +kernel, by decide +kernel, by decide +kernel⟩, by decide⟩
theorem mwL_156 : mwP 156 := ⟨(lc5 67 rfl rfl), (lc1 7 rfl rfl), rfl, (fun e => by cases e), (fun _ => ⟨(lc5 66 rfl rfl), (ls3 7 rfl)⟩), plainFor_of_name (by decide +kernel), ⟨by decide +kernel, by decide +kernel, by decide +kernel⟩, by decide⟩
theorem mwL_157 : mwP 157 := ⟨(lc5 71 rfl rfl), (lc1 7 rfl rfl), rfl, (fun e => by cases e), (fun _ => ⟨(lc5 70 rfl rfl), (ls3 8 rfl)⟩), plainFor_of_name (by decide +kernel), ⟨by decide +kernel, by decide +kernel, by decide +kernel⟩, by decide⟩
theorem mwL_158 : mwP 158 := ⟨(lc5 34 rfl rfl), (lc1 7 rfl rfl), rfl, (fun e => by cases e), (fun _ => ⟨(lc5 32 rfl rfl), (lc5 33 rfl rfl)⟩), plainFor_of_name (by decide +kernel), ⟨by decide +kernel, by decide +kernel, by decide +kernel⟩, by decide⟩
theorem mwL_159 : mwP 159 := ⟨(lc5 42 rfl rfl), (lc1 7 rfl rfl), rfl, (fun e => by cases e), (fun _ => ⟨(lc5 40 rfl rfl), (lc5 41 rfl rfl)⟩), plainFor_of_name (by decide +kernel), ⟨by decide +kernel, by decide +kernel, by decide +kernel⟩, by decide⟩
theorem mwL_160 : mwP 160 := ⟨(lc5 99 rfl rfl), (lc1 7 rfl rfl), rfl, (fun _ => (lc5 98 rfl rfl)), (fun e => by cases e), plainFor_of_name (by decide +kernel), ⟨by decide +kernel, by decide +kernel, by decide +kernel⟩, by decide⟩
theorem mwL_161 : mwP 161 := ⟨(lc5 96 rfl rfl), (lc1 7 rfl rfl), rfl, (fun _ => (lc5 95 rfl rfl)), (fun e => by cases e), plainFor_of_name (by decide +kernel), ⟨by decide +kernel, by decide +kernel, by decide +kernel⟩, by decide⟩
theorem mwL_162 : mwP 162 := ⟨(lc5 83 rfl rfl), (lc1 7 rfl rfl), rfl, (fun _ => (lc5 82 rfl rfl)), (fun e => by cases e), plainFor_of_name (by decide +kernel), ⟨by decide +kernel, by decide +kernel, by decide +kernel⟩, by decide⟩
theorem mwL_163 : mwP 163 := ⟨(lc4 137 rfl rfl), (lc1 7 rfl rfl), rfl, (fun e => by cases e), (fun _ => ⟨(lc4 136 rfl rfl), (ls3 1 rfl)⟩), plainFor_of_name (by decide +kernel), ⟨by decide +kernel, by decide +kernel, by decide +kernel⟩, by decide⟩
theorem mwL_164 : mwP 164 := ⟨(lc5 89 rfl rfl), (lc1 7 rfl rfl), rfl, (fun _ => (lc5 88 rfl rfl)), (fun e => by cases e), plainFor_of_name (by decide +kernel), ⟨by decide +kernel, by decide +kernel, by decide +kernel⟩, by decide⟩
theorem mwL_165 : mwP 165 := ⟨(lc5 93 rfl rfl), (lc1 7 rfl rfl), rfl, (fun e => by cases e), (fun _ => ⟨(lc5 92 rfl rfl), (ls3 9 rfl)⟩), plainFor_of_name (by decide +kernel), ⟨by decide +kernel, by decide +kernel, by decide +kernel⟩, by decide⟩
theorem mwL_166 : mwP 166 := ⟨(lc5 111 rfl rfl), (lc1 7 rfl rfl), rfl, (fun e => by cases e), (fun _ => ⟨(lc5 110 rfl rfl), (ls3 11 rfl)⟩), plainFor_of_name (by decide +kernel), ⟨by decide +kernel, by decide +kernel, by decide +kernel⟩, by decide⟩
theorem mwL_167 : mwP 167 := ⟨(lc5 79 rfl rfl), (lc1 7 rfl rfl), rfl, (fun e => by cases e), (fun _ => ⟨(lc5 77 rfl rfl), (lc5 78 rfl rfl)⟩), plainFor_of_name (by decide +kernel), ⟨by decide +kernel, by decide +kernel, by decide +kernel⟩, by decide⟩
theorem mwL_168 : mwP 168 := ⟨(lc5 107 rfl rfl), (lc1 7 rfl rfl), rfl, (fun e => by cases e), (fun _ => ⟨(lc5 106 rfl rfl), (ls3 10 rfl)⟩), plainFor_of_name (by decide +kernel), ⟨by decide +kernel, by decide +kernel, by decide +kernel⟩, by decide⟩
theorem mwL_169 : mwP 169 := ⟨(lc5 103 rfl rfl), (lc1 7 rfl rfl), rfl, (fun e => by cases e), (fun _ => ⟨(lc5 101 rfl rfl), (lc5 102 rfl rfl)⟩), plainFor_of_name (by decide +kernel), ⟨by decide +kernel, by decide +kernel, by decide +kernel⟩, by decide⟩
theorem mwL_170 : mwP 170 := ⟨(lc5 132 rfl rfl), (lc1 7 rfl rfl), rfl, (fun e => by cases e), (fun _ => ⟨(lc5 131 rfl rfl), (ls3 15 rfl)⟩), plainFor_of_name (by decide +kernel), ⟨by decide +kernel, by decide +kernel, by decide +kernel⟩, by decide⟩
theorem mwL_171 : mwP 171 := ⟨(lc5 136 rfl rfl), (lc1 7 rfl rfl), rfl, (fun e => by cases e), (fun _ => ⟨(lc5 135 rfl rfl), (ls4 0 rfl)⟩), plainFor_of_name (by decide +kernel), ⟨by decide +kernel, by decide +kernel, by decide +kernel⟩, by decide⟩
theorem mwL_172 : mwP 172 := ⟨(lc5 128 rfl rfl), (lc1 7 rfl rfl), rfl, (fun e => by cases e), (fun _ => ⟨(lc5 127 rfl rfl), (ls3 14 rfl)⟩), plainFor_of_name (by decide +kernel), ⟨by decide +kernel, by decide +kernel, by decide +kernel⟩, by decide⟩
theorem mwL_173 : mwP 173 := ⟨(lc5 124 rfl rfl), (lc1 7 rfl rfl), rfl, (fun e => by cases e), (fun _ => ⟨(lc5 123 rfl rfl), (ls3 13 rfl)⟩), plainFor_of_name (by decide +kernel), ⟨by decide +kernel, by decide +kernel, by decide +kernel⟩, by decide⟩
theorem mwL_174 : mwP 174 := ⟨(lc5 120 rfl rfl), (lc1 7 rfl rfl), rfl, (fun e => by cases e), (fun _ => ⟨(lc5 119 rfl rfl), (ls3 12 rfl)⟩), plainFor_of_name (by decide +kernel), ⟨by decide +kernel, by decide +kernel, by decide +kernel⟩, by decide⟩
theorem mwL_175 : mwP 175 := ⟨(lc5 140 rfl rfl), (lc1 7 rfl rfl), rfl, (fun e => by cases e), (fun _ => ⟨(lc5 139 rfl rfl), (ls4 1 rfl)⟩), plainFor_of_name (by decide +kernel), ⟨by decide +kernel, by decide +kernel, by decide +kernel⟩, by decide⟩
theorem mwL_176 : mwP 176 := ⟨(lc5 115 rfl rfl), (lc1 7 rfl rfl), rfl, (fun e => by cases e), (fun _ => ⟨(lc5 113 rfl rfl), (lc5 114 rfl rfl)⟩), plainFor_of_name (by decide +kernel), ⟨by decide +kernel, by decide +kernel, by decide +kernel⟩, by decide⟩
theorem mwL_177 : mwP 177 := ⟨(lc5 153 rfl rfl), (lc1 7 rfl rfl), rfl, (fun e => by cases e), (fun _ => ⟨(lc5 152 rfl rfl), (ls4 3 rfl)⟩), plainFor_of_name (by decide +kernel), ⟨by decide +kernel, by decide +kernel, by decide +kernel⟩, by decide⟩
theorem mwL_178 : mwP 178 := ⟨(lc5 161 rfl rfl), (lc1 7 rfl rfl), rfl, (fun e => by cases e), (fun _ => ⟨(lc5 160 rfl rfl), (ls4 5 rfl)⟩), plainFor_of_name (by decide +kernel), ⟨by decide +kernel, by decide +kernel, by decide +kernel⟩, by decide⟩
theorem mwL_179 : mwP 179 := ⟨(lc5 157 rfl rfl), (lc1 7 rfl rfl), rfl, (fun e => by cases e), (fun _ => ⟨(lc5 156 rfl rfl), (ls4 4 rfl)⟩), plainFor_of_name (by decide +kernel), ⟨by decide +kernel, by decide +kernel, by decide +kernel⟩, by decide⟩
theorem mwL_180 : mwP 180 := ⟨(lc5 165 rfl rfl), (lc1 7 rfl rfl), rfl, (fun e => by cases e), (fun _ => ⟨(lc5 164 rfl rfl), (ls4 6 rfl)⟩), plainFor_of_name (by decide +kernel), ⟨by decide +kernel, by decide +kernel, by decide +kernel⟩, by decide⟩
theorem mwL_181 : mwP 181 := ⟨(lc5 149 rfl rfl), (lc1 7 rfl rfl), rfl, (fun e => by cases e), (fun _ => ⟨(lc5 148 rfl rfl), (ls4 2 rfl)⟩), plainFor_of_name (by decide +kernel), ⟨by decide +kernel, by decide +kernel, by decide +kernel⟩, by decide⟩
theorem mwL_182 : mwP 182 := ⟨(lc5 144 rfl rfl), (lc1 7 rfl rfl), rfl, (fun e => by cases e), (fun _ => ⟨(lc5 142 rfl rfl), (lc5 143 rfl rfl)⟩), plainFor_of_name (by decide +kernel), ⟨by decide +kernel, by decide +kernel, by decide +kernel⟩, by decide⟩
theorem mwL_183 : mwP 183 := ⟨(lc6 10 rfl rfl), (lc1 7 rfl rfl), rfl, (fun e => by cases e), (fun _ => ⟨(lc6 9 rfl rfl), (ls4 15 rfl)⟩), plainFor_of_name (by decide +kernel), ⟨by decide +kernel, by decide +kernel, by decide +kernel⟩, by decide⟩
theorem mwL_184 : mwP 184 := ⟨(lc5 172 rfl rfl), (lc1 7 rfl rfl), rfl, (fun _ => (lc5 171 rfl rfl)), (fun e => by cases e), plainFor_of_name (by decide +kernel), ⟨by decide +kernel, by decide +kernel, by decide +kernel⟩, by decide⟩
theorem mwL_185 : mwP 185 := ⟨(lc5 176 rfl rfl), (lc1 7 rfl rfl), rfl, (fun e => by cases e), (fun _ => ⟨(lc5 175 rfl rfl), (ls4 7 rfl)⟩), plainFor_of_name (by decide +kernel), ⟨by decide +kernel, by decide +kernel, by decide +kernel⟩, by decide⟩
theorem mwL_186 : mwP 186 := ⟨(lc5 169 rfl rfl), (lc1 7 rfl rfl), rfl, (fun e => by cases e), (fun _ => ⟨(lc5 167 rfl rfl), (lc5 168 rfl rfl)⟩), plainFor_of_name (by decide +kernel), ⟨by decide +kernel, by decide +kernel, by decide +kernel⟩, by decide⟩
theorem mwL_187 : mwP 187 := ⟨(lc5 187 rfl rfl), (lc1 7 rfl rfl), rfl, (fun e => by cases e), (fun _ => ⟨(lc5 186 rfl rfl), (ls4 8 rfl)⟩), plainFor_of_name (by decide +kernel), ⟨by decide +kernel, by decide +kernel, by decide +kernel⟩, by decide⟩
theorem mwL_188 : mwP 188 := ⟨(lc5 183 rfl rfl), (lc1 7 rfl rfl), rfl, (fun _ => (lc5 182 rfl rfl)), (fun e => by cases e), plainFor_of_name (by decide +kernel), ⟨by decide +kernel, by decide +kernel, by decide +kernel⟩, by decide⟩
theorem mwL_189 : mwP 189 := ⟨(lc5 180 rfl rfl), (lc1 7 rfl rfl), rfl, (fun e => by cases e), (fun _ => ⟨(lc5 178 rfl rfl), (lc5 179 rfl rfl)⟩), plainFor_of_name (by decide +kernel), ⟨by decide +kernel, by decide +kernel, by decide +kernel⟩, by decide⟩
theorem mwL_190 : mwP 190 := ⟨(lc5 195 rfl rfl), (lc1 7 rfl rfl), rfl, (fun e => by cases e), (fun _ => ⟨(lc5 194 rfl rfl), (ls4 9 rfl)⟩), plainFor_of_name (by decide +kernel), ⟨by decide +kernel, by decide +kernel, by decide +kernel⟩, by decide⟩
theorem mwL_191 : mwP 191 := ⟨(lc5 199 rfl rfl), (lc1 7 rfl rfl), rfl, (fun e => by cases e), (fun _ => ⟨(lc5 198 rfl rfl), (ls4 10 rfl)⟩), plainFor_of_name (by decide +kernel), ⟨by decide +kernel, by decide +kernel, by decide +kernel⟩, by decide⟩
theorem mwL_192 : mwP 192 := ⟨(lc6 136 rfl rfl), (lc1 7 rfl rfl), rfl, (fun e => by cases e), (fun _ => ⟨(lc6 135 rfl rfl), (ls5 15 rfl)⟩), plainFor_of_name (by decide +kernel), ⟨by decide +kernel, by decide +kernel, by decide +kernel⟩, by decide⟩
theorem mwL_193 : mwP 193 := ⟨(lc5 191 rfl rfl), (lc1 7 rfl rfl), rfl, (fun e => by cases e), (fun _ => ⟨(lc5 189 rfl rfl), (lc5 190 rfl rfl)⟩), plainFor_of_name (by decide +kernel), ⟨by decide +kernel, by decide +kernel, by decide +kernel⟩, by decide⟩
theorem mwL_194 : mwP 194 := ⟨(lc5 204 rfl rfl), (lc1 7 rfl rfl), rfl, (fun e => by cases e), (fun _ => ⟨(lc5 202 rfl rfl), (lc5 203 rfl rfl)⟩), plainFor_of_name (by decide +kernel), ⟨by decide +kernel, by decide +kernel, by decide +kernel⟩, by decide⟩
theorem mwL_195 : mwP 195 := ⟨(lc5 208 rfl rfl), (lc1 7 rfl rfl), rfl, (fun e => by cases e), (fun _ => ⟨(lc5 206 rfl rfl), (lc5 207 rfl rfl)⟩), plainFor_of_name (by decide +kernel), ⟨by decide +kernel, by decide +kernel, by decide +kernel⟩, by decide⟩
theorem mwL_196 : mwP 196 := ⟨(lc5 212 rfl rfl), (lc1 7 rfl rfl), rfl, (fun e => by cases e), (fun _ => ⟨(lc5 210 rfl rfl), (lc5 211 rfl rfl)⟩), plainFor_of_name (by decide +kernel), ⟨by decide +kernel, by decide +kernel, by decide +kernel⟩, by decide⟩
theorem mwL_197 : mwP 197 := ⟨(lc5 220 rfl rfl), (lc1 7 rfl rfl), rfl, (fun e => by cases e), (fun _ => ⟨(lc5 219 rfl rfl), (ls4 11 rfl)⟩), plainFor_of_name (by decide +kernel), ⟨by decide +kernel, by decide +kernel, by decide +kernel⟩, by decide⟩
theorem mwL_198 : mwP 198 := ⟨(lc5 227 rfl rfl), (lc1 7 rfl rfl), rfl, (fun _ => (lc5 226 rfl rfl)), (fun e => by cases e), plainFor_of_name (by decide +kernel), ⟨by decide +kernel, by decide +kernel, by decide +kernel⟩, by decide⟩
theorem mwL_199 : mwP 199 := ⟨(lc6 2 rfl rfl), (lc1 7 rfl rfl), rfl, (fun _ => (lc6 1 rfl rfl)), (fun e => by cases e), plainFor_of_name (by decide +kernel), ⟨by decide +kernel, by decide +kernel, by decide +kernel⟩, by decide⟩
theorem mwL_200 : mwP 200 := ⟨(lc5 231 rfl rfl), (lc1 7 rfl rfl), rfl, (fun e => by cases e), (fun _ => ⟨(lc5 230 rfl rfl), (ls4 13 rfl)⟩), plainFor_of_name (by decide +kernel), ⟨by decide +kernel, by decide +kernel, by decide +kernel⟩, by decide⟩
theorem mwL_201 : mwP 201 := ⟨(lc5 224 rfl rfl), (lc1 7 rfl rfl), rfl, (fun e => by cases e), (fun _ => ⟨(lc5 223 rfl rfl), (ls4 12 rfl)⟩), plainFor_of_name (by decide +kernel), ⟨by decide +kernel, by decide +kernel, by decide +kernel⟩, by decide⟩
theorem mwL_202 : mwP 202 := ⟨(lc5 216 rfl rfl), (lc1 7 rfl rfl), rfl, (fun e => by cases e), (fun _ => ⟨(lc5 214 rfl rfl), (lc5 215 rfl rfl)⟩), plainFor_of_name (by decide +kernel), ⟨by decide +kernel, by decide +kernel, by decide +kernel⟩, by decide⟩
theorem mwL_203 : mwP 203 := ⟨(lc5 235 rfl rfl), (lc1 7 rfl rfl), rfl, (fun e => by cases e), (fun _ => ⟨(lc5 233 rfl rfl), (lc5 234 rfl rfl)⟩), plainFor_of_name (by decide +kernel), ⟨by decide +kernel, by decide +kernel, by decide +kernel⟩, by decide⟩
theorem mwL_204 : mwP 204 := ⟨(lc6 6 rfl rfl), (lc1 7 rfl rfl), rfl, (fun e => by cases e), (fun _ => ⟨(lc6 5 rfl rfl), (ls4 14 rfl)⟩), plainFor_of_name (by decide +kernel), ⟨by decide +kernel, by decide +kernel, by decide +kernel⟩, by decide⟩
theorem mwL_205 : mwP 205 := ⟨(lc5 239 rfl rfl), (lc1 7 rfl rfl), rfl, (fun e => by cases e), (fun _ => ⟨(lc5 237 rfl rfl), (lc5 238 rfl rfl)⟩), plainFor_of_name (by decide +kernel), ⟨by decide +kernel, by decide +kernel, by decide +kernel⟩, by decide⟩
theorem mwL_206 : mwP 206 := ⟨(lc6 22 rfl rfl), (lc1 7 rfl rfl), rfl, (fun e => by cases e), (fun _ => ⟨(lc6 21 rfl rfl), (ls5 1 rfl)⟩), plainFor_of_name (by decide +kernel), ⟨by decide +kernel, by decide +kernel, by decide +kernel⟩, by decide⟩
theorem mwL_207 : mwP 207 := ⟨(lc6 26 rfl rfl), (lc1 7 rfl rfl), rfl, (fun e => by cases e), (fun _ => ⟨(lc6 25 rfl rfl), (ls5 2 rfl)⟩), plainFor_of_name (by decide +kernel), ⟨by decide +kernel, by decide +kernel, by decide +kernel⟩, by decide⟩
theorem mwL_208 : mwP 208 := ⟨(lc6 18 rfl rfl), (lc1 7 rfl rfl), rfl, (fun e => by cases e), (fun _ => ⟨(lc6 17 rfl rfl), (ls5 0 rfl)⟩), plainFor_of_name (by decide +kernel), ⟨by decide +kernel, by decide +kernel, by decide +kernel⟩, by decide⟩
theorem mwL_209 : mwP 209 := ⟨(lc6 14 rfl rfl), (lc1 7 rfl rfl), rfl, (fun e => by cases e), (fun _ => ⟨(lc6 12 rfl rfl), (lc6 13 rfl rfl)⟩), plainFor_of_name (by decide +kernel), ⟨by decide +kernel, by decide +kernel, by decide +kernel⟩, by decide⟩
theorem mwL_210 : mwP 210 := ⟨(lc6 34 rfl rfl), (lc1 7 rfl rfl), rfl, (fun e => by cases e), (fun _ => ⟨(lc6 33 rfl rfl), (ls5 3 rfl)⟩), plainFor_of_name (by decide +kernel), ⟨by decide +kernel, by decide +kernel, by decide +kernel⟩, by decide⟩
theorem mwL_211 : mwP 211 := ⟨(lc6 30 rfl rfl), (lc1 7 rfl rfl), rfl, (fun e => by cases e), (fun _ => ⟨(lc6 28 rfl rfl), (lc6 29 rfl rfl)⟩), plainFor_of_name (by decide +kernel), ⟨by decide +kernel, by decide +kernel, by decide +kernel⟩, by decide⟩
theorem mwL_212 : mwP 212 := ⟨(lc6 42 rfl rfl), (lc1 7 rfl rfl), rfl, (fun e => by cases e), (fun _ => ⟨(lc6 41 rfl rfl), (ls5 4 rfl)⟩), plainFor_of_name (by decide +kernel), ⟨by decide +kernel, by decide +kernel, by decide +kernel⟩, by decide⟩
theorem mwL_213 : mwP 213 := ⟨(lc6 38 rfl rfl), (lc1 7 rfl rfl), rfl, (fun e => by cases e), (fun _ => ⟨(lc6 36 rfl rfl), (lc6 37 rfl rfl)⟩), plainFor_of_name (by decide +kernel), ⟨by decide +kernel, by decide +kernel, by decide +kernel⟩, by decide⟩
theorem mwL_214 : mwP 214 := ⟨(lc6 56 rfl rfl), (lc1 7 rfl rfl), rfl, (fun e => by cases e), (fun _ => ⟨(lc6 54 rfl rfl), (lc6 55 rfl rfl)⟩), plainFor_of_name (by decide +kernel), ⟨by decide +kernel, by decide +kernel, by decide +kernel⟩, by decide⟩
theorem mwL_215 : mwP 215 := ⟨(lc6 66 rfl rfl), (lc1 7 rfl rfl), rfl, (fun e => by cases e), (fun _ => ⟨(lc6 65 rfl rfl), (ls5 5 rfl)⟩), plainFor_of_name (by decide +kernel), ⟨by decide +kernel, by decide +kernel, by decide +kernel⟩, by decide⟩
theorem mwL_216 : mwP 216 := ⟨(lc6 61 rfl rfl), (lc1 7 rfl rfl), rfl, (fun e => by cases e), (fun _ => ⟨(lc6 59 rfl rfl), (lc6 60 rfl rfl)⟩), plainFor_of_name (by decide +kernel), ⟨by decide +kernel, by decide +kernel, by decide +kernel⟩, by decide⟩
theorem mwL_217 : mwP 217 := ⟨(lc6 80 rfl rfl), (lc1 7 rfl rfl), rfl, (fun e => by cases e), (fun _ => ⟨(lc6 78 rfl rfl), (lc6 79 rfl rfl)⟩), plainFor_of_name (by decide +kernel), ⟨by decide +kernel, by decide +kernel, by decide +kernel⟩, by decide⟩
theorem mwL_218 : mwP 218 := ⟨(lc6 84 rfl rfl), (lc1 7 rfl rfl), rfl, (fun e => by cases e), (fun _ => ⟨(lc6 82 rfl rfl), (lc6 83 rfl rfl)⟩), plainFor_of_name (by decide +kernel), ⟨by decide +kernel, by decide +kernel, by decide +kernel⟩, by decide⟩
theorem mwL_219 : mwP 219 := ⟨(lc6 88 rfl rfl), (lc1 7 rfl rfl), rfl, (fun e => by cases e), (fun _ => ⟨(lc6 86 rfl rfl), (lc6 87 rfl rfl)⟩), plainFor_of_name (by decide +kernel), ⟨by decide +kernel, by decide +kernel, by decide +kernel⟩, by decide⟩
theorem mwL_220 : mwP 220 := ⟨(lc6 113 rfl rfl), (lc1 7 rfl rfl), rfl, (fun e => by cases e), (fun _ => ⟨(lc6 112 rfl rfl), (ls5 10 rfl)⟩), plainFor_of_name (by decide +kernel), ⟨by decide +kernel, by decide +kernel, by decide +kernel⟩, by decide⟩
theorem mwL_221 : mwP 221 := ⟨(lc6 101 rfl rfl), (lc1 7 rfl rfl), rfl, (fun e => by cases e), (fun _ => ⟨(lc6 100 rfl rfl), (ls5 7 rfl)⟩), plainFor_of_name (by decide +kernel), ⟨by decide +kernel, by decide +kernel, by decide +kernel⟩, by decide⟩
theorem mwL_222 : mwP 222 := ⟨(lc6 105 rfl rfl), (lc1 7 rfl rfl), rfl, (fun e => by cases e), (fun _ => ⟨(lc6 104 rfl rfl), (ls5 8 rfl)⟩), plainFor_of_name (by decide +kernel), ⟨by decide +kernel, by decide +kernel, by decide +kernel⟩, by decide⟩
theorem mwL_223 : mwP 223 := ⟨(lc6 128 rfl rfl), (lc1 7 rfl rfl), rfl, (fun e => by cases e), (fun _ => ⟨(lc6 127 rfl rfl), (ls5 13 rfl)⟩), plainFor_of_name (by decide +kernel), ⟨by decide +kernel, by decide +kernel, by decide +kernel⟩, by decide⟩
theorem mwL_224 : mwP 224 := ⟨(lc6 132 rfl rfl), (lc1 7 rfl rfl), rfl, (fun e => by cases e), (fun _ => ⟨(lc6 131 rfl rfl), (ls5 14 rfl)⟩), plainFor_of_name (by decide +kernel), ⟨by decide +kernel, by decide +kernel, by decide +kernel⟩, by decide⟩
theorem mwL_225 : mwP 225 := ⟨(lc6 119 rfl rfl), (lc1 7 rfl rfl), rfl, (fun e => by cases e), (fun _ => ⟨(lc6 118 rfl rfl), (ls5 11 rfl)⟩), plainFor_of_name (by decide +kernel), ⟨by decide +kernel, by decide +kernel, by decide +kernel⟩, by decide⟩
theorem mwL_226 : mwP 226 := ⟨(lc6 109 rfl rfl), (lc1 7 rfl rfl), rfl, (fun e => by cases e), (fun _ => ⟨(lc6 108 rfl rfl), (ls5 9 rfl)⟩), plainFor_of_name (by decide +kernel), ⟨by decide +kernel, by decide +kernel, by decide +kernel⟩, by decide⟩
theorem mwL_227 : mwP 227 := ⟨(lc6 123 rfl rfl), (lc1 7 rfl rfl), rfl, (fun e => by cases e), (fun _ => ⟨(lc6 122 rfl rfl), (ls5 12 rfl)⟩), plainFor_of_name (by decide +kernel), ⟨by decide +kernel, by decide +kernel, by decide +kernel⟩, by decide⟩
theorem mwL_228 : mwP 228 := ⟨(lc6 97 rfl rfl), (lc1 7 rfl rfl), rfl, (fun e => by cases e), (fun _ => ⟨(lc6 96 rfl rfl), (ls5 6 rfl)⟩), plainFor_of_name (by decide +kernel), ⟨by decide +kernel, by decide +kernel, by decide +kernel⟩, by decide⟩
theorem mwL_229 : mwP 229 := ⟨(lc6 93 rfl rfl), (lc1 7 rfl rfl), rfl, (fun e => by cases e), (fun _ => ⟨(lc6 91 rfl rfl), (lc6 92 rfl rfl)⟩), plainFor_of_name (by decide +kernel), ⟨by decide +kernel, by decide +kernel, by decide +kernel⟩, by decide⟩
theorem mwL_230 : mwP 230 := ⟨(lc6 140 rfl rfl), (lc1 7 rfl rfl), rfl, (fun e => by cases e), (fun _ => ⟨(lc6 139 rfl rfl), (ls6 0 rfl)⟩), plainFor_of_name (by decide +kernel), ⟨by decide +kernel, by decide +kernel, by decide +kernel⟩, by decide⟩
theorem mwL_231 : mwP 231 := ⟨(lc6 148 rfl rfl), (lc1 7 rfl rfl), rfl, (fun e => by cases e), (fun _ => ⟨(lc6 147 rfl rfl), (ls6 1 rfl)⟩), plainFor_of_name (by decide +kernel), ⟨by decide +kernel, by decide +kernel, by decide +kernel⟩, by decide⟩
theorem mwL_232 : mwP 232 := ⟨(lc6 144 rfl rfl), (lc1 7 rfl rfl), rfl, (fun e => by cases e), (fun _ => ⟨(lc6 142 rfl rfl), (lc6 143 rfl rfl)⟩), plainFor_of_name (by decide +kernel), ⟨by decide +kernel, by decide +kernel, by decide +kernel⟩, by decide⟩
theorem mwL_233 : mwP 233 := ⟨(lc6 152 rfl rfl), (lc1 7 rfl rfl), rfl, (fun e => by cases e), (fun _ => ⟨(lc6 150 rfl rfl), (lc6 151 rfl rfl)⟩), plainFor_of_name (by decide +kernel), ⟨by decide +kernel, by decide +kernel, by decide +kernel⟩, by decide⟩
theorem mwL_234 : mwP 234 := ⟨(lc6 159 rfl rfl), (lc1 7 rfl rfl), rfl, (fun _ => (lc6 158 rfl rfl)), (fun e => by cases e), plainFor_of_name (by decide +kernel), ⟨by decide +kernel, by decide +kernel, by decide +kernel⟩, by decide⟩
theorem mwL_235 : mwP 235 := ⟨(lc6 168 rfl rfl), (lc1 7 rfl rfl), rfl, (fun e => by cases e), (fun _ => ⟨(lc6 167 rfl rfl), (ls6 2 rfl)⟩), plainFor_of_name (by decide +kernel), ⟨by decide +kernel, by decide +kernel, by decide +kernel⟩, by decide⟩
theorem mwL_236 : mwP 236 := ⟨(lc6 156 rfl rfl), (lc1 7 rfl rfl), rfl, (fun e => by cases e), (fun _ => ⟨(lc6 154 rfl rfl), (lc6 155 rfl rfl)⟩), plainFor_of_name (by decide +kernel), ⟨by decide +kernel, by decide +kernel, by decide +kernel⟩, by decide⟩
theorem mwL_237 : mwP 237 := ⟨(lc6 172 rfl rfl), (lc1 7 rfl rfl), rfl, (fun e => by cases e), (fun _ => ⟨(lc6 171 rfl rfl), (ls6 3 rfl)⟩), plainFor_of_name (by decide +kernel), ⟨by decide +kernel, by decide +kernel, by decide +kernel⟩, by decide⟩
theorem mwL_238 : mwP 238 := ⟨(lc6 164 rfl rfl), (lc1 7 rfl rfl), rfl, (fun e => by cases e), (fun _ => ⟨(lc6 162 rfl rfl), (lc6 163 rfl rfl)⟩), plainFor_of_name (by decide +kernel), ⟨by decide +kernel, by decide +kernel, by decide +kernel⟩, by decide⟩
theorem mwL_239 : mwP 239 := ⟨(lc6 176 rfl rfl), (lc1 7 rfl rfl), rfl, (fun e => by cases e), (fun _ => ⟨(lc6 174 rfl rfl), (lc6 175 rfl rfl)⟩), plainFor_of_name (by decide +kernel), ⟨by decide +kernel, by decide +kernel, by decide +kernel⟩, by decide⟩
theorem mwL_240 : mwP 240 := ⟨(lc6 180 rfl rfl), (lc1 7 rfl rfl), rfl, (fun e => by cases e), (fun _ => ⟨(lc6 178 rfl rfl), (lc6 179 rfl rfl)⟩), plainFor_of_name (by decide +kernel), ⟨by decide +kernel, by decide +kernel, by decide +kernel⟩, by decide⟩
theorem mwL_241 : mwP 241 := ⟨(lc6 184 rfl rfl), (lc1 7 rfl rfl), rfl, (fun e => by cases e), (fun _ => ⟨(lc6 182 rfl rfl), (lc6 183 rfl rfl)⟩), plainFor_of_name (by decide +kernel), ⟨by decide +kernel, by decide +kernel, by decide +kernel⟩, by decide⟩
theorem mwL_242 : mwP 242 := ⟨(lc6 188 rfl rfl), (lc1 7 rfl rfl), rfl, (fun e => by cases e), (fun _ => ⟨(lc6 186 rfl rfl), (lc6 187 rfl rfl)⟩), plainFor_of_name (by decide +kernel), ⟨by decide +kernel, by decide +kernel, by decide +kernel⟩, by decide⟩
theorem mwL_243 : mwP 243 := ⟨(lc6 192 rfl rfl), (lc1 7 rfl rfl), rfl, (fun e => by cases e), (fun _ => ⟨(lc6 190 rfl rfl), (lc6 191 rfl rfl)⟩), plainFor_of_name (by decide +kernel), ⟨by decide +kernel, by decide +kernel, by decide +kernel⟩, by decide⟩
theorem mwL_244 : mwP 244 := ⟨(lc6 196 rfl rfl), (lc1 7 rfl rfl), rfl, (fun e => by cases e), (fun _ => ⟨(lc6 194 rfl rfl), (lc6 195 rfl rfl)⟩), plainFor_of_name (by decide +kernel), ⟨by decide +kernel, by decide +kernel, by decide +kernel⟩, by decide⟩
theorem mwL_245 : mwP 245 := ⟨(lc6 72 rfl rfl), (lc1 15 rfl rfl), rfl, (fun _ => (lc6 71 rfl rfl)), (fun e => by cases e), plainFor_of_name (by decide +kernel), ⟨by decide +kernel, by decide +kernel, by decide +kernel⟩, by decide⟩
theorem mwL_246 : mwP 246 := ⟨(lc6 69 rfl rfl), (lc1 15 rfl rfl), rfl, (fun _ => (lc6 68 rfl rfl)), (fun e => by cases e), plainFor_of_name (by decide +kernel), ⟨by decide +kernel, by decide +kernel, by decide +kernel⟩, by decide⟩
theorem mwL_247 : mwP 247 := ⟨(lc6 48 rfl rfl), (lc1 14 rfl rfl), rfl, (fun _ => (lc6 47 rfl rfl)), (fun e => by cases e), by decide +kernel, ⟨by decide +kernel, by decide +kernel, by decide +kernel⟩, by decide⟩
theorem mwL_248 : mwP 248 := ⟨(lc6 45 rfl rfl), (lc1 14 rfl rfl), rfl, (fun _ => (lc6 44 rfl rfl)), (fun e => by cases e), by decide +kernel, ⟨by decide +kernel, by decide +kernel, by decide +kernel⟩, by decide⟩
theorem mwL_249 : mwP 249 := ⟨(lc3 8 rfl rfl), (lc1 12 rfl rfl), rfl, (fun _ => (lc3 7 rfl rfl)), (fun e => by cases e), plainFor_of_name (by decide +kernel), ⟨by decide +kernel, by decide +kernel, by decide +kernel⟩, by decide⟩
theorem mwL_250 : mwP 250 := ⟨(lc2 170 rfl rfl), (lc1 10 rfl rfl), rfl, (fun _ => (lc2 169 rfl rfl)), (fun e => by cases e), by decide +kernel, ⟨by decide +kernel, by decide +kernel, by decide +kernel⟩, by decide⟩
theorem mwL_251 : mwP 251 := ⟨(lc2 155 rfl rfl), (lc1 10 rfl rfl), rfl, (fun _ => (lc2 154 rfl rfl)), (fun e => by cases e), by decide +kernel, ⟨by decide +kernel, by decide +kernel, by decide +kernel⟩, by decide⟩
theorem mwL_252 : mwP 252 := ⟨(lc2 61 rfl rfl), (lc1 10 rfl rfl), rfl, (fun _ => (lc2 60 rfl rfl)), (fun e => by cases e), by decide +kernel, ⟨by decide +kernel, by decide +kernel, by decide +kernel⟩, by decide⟩
theorem mwL_253 : mwP 253 := ⟨(lc4 48 rfl rfl), (lc1 16 rfl rfl), rfl, (fun _ => (lc4 47 rfl rfl)), (fun e => by cases e), plainFor_of_name (by decide +kernel), ⟨by decide +kernel, by decide +kernel, by decide +kernel⟩, by decide⟩
theorem mwL_c0 : ∀ q ∈ [0, 1, 2, 3, 4, 5, 6, 7, 8, 9, 10, 11, 12, 13, 14, 15, 16, 17, 18, 19, 20, 21, 22, 23], mwP q := List.forall_mem_cons.mpr ⟨mwL_0, List.forall_mem_cons.mpr ⟨mwL_1, List.forall_mem_cons.mpr ⟨mwL_2, List.forall_mem_cons.mpr ⟨mwL_3, List.forall_mem_cons.mpr ⟨mwL_4, List.forall_mem_cons.mpr ⟨mwL_5, List.forall_mem_cons.mpr ⟨mwL_6, List.forall_mem_cons.mpr ⟨mwL_7, List.forall_mem_cons.mpr ⟨mwL_8, List.forall_mem_cons.mpr ⟨mwL_9, List.forall_mem_cons.mpr ⟨mwL_10, List.forall_mem_cons.mpr ⟨mwL_11, List.forall_mem_cons.mpr ⟨mwL_12, List.forall_mem_cons.mpr ⟨mwL_13, List.forall_mem_cons.mpr ⟨mwL_14, List.forall_mem_cons.mpr ⟨mwL_15, List.forall_mem_cons.mpr ⟨mwL_16, List.forall_mem_cons.mpr ⟨mwL_17, List.forall_mem_cons.mpr ⟨mwL_18, List.forall_mem_cons.mpr ⟨mwL_19, List.forall_mem_cons.mpr ⟨mwL_20, List.forall_mem_cons.mpr ⟨mwL_21, List.forall_mem_cons.mpr ⟨mwL_22, List.forall_mem_cons.mpr ⟨mwL_23, fun _ h => absurd h List.not_mem_nil⟩⟩⟩⟩⟩⟩⟩⟩⟩⟩⟩⟩⟩⟩⟩⟩⟩⟩⟩⟩⟩⟩⟩⟩
theorem mwL_c1 : ∀ q ∈ [24, 25, 26, 27, 28, 29, 30, 31, 32, 33, 34, 35, 36, 37, 38, 39, 40, 41, 42, 43, 44, 45, 46, 47], mwP q := List.forall_mem_cons.mpr ⟨mwL_24, List.forall_mem_cons.mpr ⟨mwL_25, List.forall_mem_cons.mpr ⟨mwL_26, List.forall_mem_cons.mpr ⟨mwL_27, List.forall_mem_cons.mpr ⟨mwL_28, List.forall_mem_cons.mpr ⟨mwL_29, List.forall_mem_cons.mpr ⟨mwL_30, List.forall_mem_cons.mpr ⟨mwL_31, List.forall_mem_cons.mpr ⟨mwL_32, List.forall_mem_cons.mpr ⟨mwL_33, List.forall_mem_cons.mpr ⟨mwL_34, List.forall_mem_cons.mpr ⟨mwL_35, List.forall_mem_cons.mpr ⟨mwL_36, List.forall_mem_cons.mpr ⟨mwL_37, List.forall_mem_cons.mpr ⟨mwL_38, List.forall_mem_cons.mpr ⟨mwL_39, List.forall_mem_cons.mpr ⟨mwL_40, List.forall_mem_cons.mpr ⟨mwL_41, List.forall_mem_cons.mpr ⟨mwL_42, List.forall_mem_cons.mpr ⟨mwL_43, List.forall_mem_cons.mpr ⟨mwL_44, List.forall_mem_cons.mpr ⟨mwL_45, List.forall_mem_cons.mpr ⟨mwL_46, List.forall_mem_cons.mpr ⟨mwL_47, fun _ h => absurd h List.not_mem_nil⟩⟩⟩⟩⟩⟩⟩⟩⟩⟩⟩⟩⟩⟩⟩⟩⟩⟩⟩⟩⟩⟩⟩⟩
theorem mwL_c2 : ∀ q ∈ [48, 49, 50, 51, 52, 53, 54, 55, 56, 57, 58, 59, 60, 61, 62, 63, 64, 65, 66, 67, 68, 69, 70, 71], mwP q := List.forall_mem_cons.mpr ⟨mwL_48, List.forall_mem_cons.mpr ⟨mwL_49, List.forall_mem_cons.mpr ⟨mwL_50, List.forall_mem_cons.mpr ⟨mwL_51, List.forall_mem_cons.mpr ⟨mwL_52, List.forall_mem_cons.mpr ⟨mwL_53, List.forall_mem_cons.mpr ⟨mwL_54, List.forall_mem_cons.mpr ⟨mwL_55, List.forall_mem_cons.mpr ⟨mwL_56, List.forall_mem_cons.mpr ⟨mwL_57, List.forall_mem_cons.mpr ⟨mwL_58, List.forall_mem_cons.mpr ⟨mwL_59, List.forall_mem_cons.mpr ⟨mwL_60, List.forall_mem_cons.mpr ⟨mwL_61, List.forall_mem_cons.mpr ⟨mwL_62, List.forall_mem_cons.mpr ⟨mwL_63, List.forall_mem_cons.mpr ⟨mwL_64, List.forall_mem_cons.mpr ⟨mwL_65, List.forall_mem_cons.mpr ⟨mwL_66, List.forall_mem_cons.mpr ⟨mwL_67, List.forall_mem_cons.mpr ⟨mwL_68, List.forall_mem_cons.mpr ⟨mwL_69, List.forall_mem_cons.mpr ⟨mwL_70, List.forall_mem_cons.mpr ⟨mwL_71, fun _ h => absurd h List.not_mem_nil⟩⟩⟩⟩⟩⟩⟩⟩⟩⟩⟩⟩⟩⟩⟩⟩⟩⟩⟩⟩⟩⟩⟩⟩
theorem mwL_c3 : ∀ q ∈ [72, 73, 74, 75, 76, 77, 78, 79, 80, 81, 82, 83, 84, 85, 86, 87, 88, 89, 90, 91, 92, 93, 94, 95], mwP q := List.forall_mem_cons.mpr ⟨mwL_72, List.forall_mem_cons.mpr ⟨mwL_73, List.forall_mem_cons.mpr ⟨mwL_74, List.forall_mem_cons.mpr ⟨mwL_75, List.forall_mem_cons.mpr ⟨mwL_76, List.forall_mem_cons.mpr ⟨mwL_77, List.forall_mem_cons.mpr ⟨mwL_78, List.forall_mem_cons.mpr ⟨mwL_79, List.forall_mem_cons.mpr ⟨mwL_80, List.forall_mem_cons.mpr ⟨mwL_81, List.forall_mem_cons.mpr ⟨mwL_82, List.forall_mem_cons.mpr ⟨mwL_83, List.forall_mem_cons.mpr ⟨mwL_84, List.forall_mem_cons.mpr ⟨mwL_85, List.forall_mem_cons.mpr ⟨mwL_86, List.forall_mem_cons.mpr ⟨mwL_87, List.forall_mem_cons.mpr ⟨mwL_88, List.forall_mem_cons.mpr ⟨mwL_89, List.forall_mem_cons.mpr ⟨mwL_90, List.forall_mem_cons.mpr ⟨mwL_91, List.forall_mem_cons.mpr ⟨mwL_92, List.forall_mem_cons.mpr ⟨mwL_93, List.forall_mem_cons.mpr ⟨mwL_94, List.forall_mem_cons.mpr ⟨mwL_95, fun _ h => absurd h List.not_mem_nil⟩⟩⟩⟩⟩⟩⟩⟩⟩⟩⟩⟩⟩⟩⟩⟩⟩⟩⟩⟩⟩⟩⟩⟩
theorem mwL_c4 : ∀ q ∈ [96, 97, 98, 99, 100, 101, 102, 103, 104, 105, 106, 107, 108, 109, 110, 111, 112, 113, 114, 115, 116, 117, 118, 119], mwP q := List.forall_mem_cons.mpr ⟨mwL_96, List.forall_mem_cons.mpr ⟨mwL_97, List.forall_mem_cons.mpr ⟨mwL_98, List.forall_mem_cons.mpr ⟨mwL_99, List.forall_mem_cons.mpr ⟨mwL_100, List.forall_mem_cons.mpr ⟨mwL_101, List.forall_mem_cons.mpr ⟨mwL_102, List.forall_mem_cons.mpr ⟨mwL_103, List.forall_mem_cons.mpr ⟨mwL_104, List.forall_mem_cons.mpr ⟨mwL_105, List.forall_mem_cons.mpr ⟨mwL_106, List.forall_mem_cons.mpr ⟨mwL_107, List.forall_mem_cons.mpr ⟨mwL_108, List.forall_mem_cons.mpr ⟨mwL_109, List.forall_mem_cons.mpr ⟨mwL_110, List.forall_mem_cons.mpr ⟨mwL_111, List.forall_mem_cons.mpr ⟨mwL_112, List.forall_mem_cons.mpr ⟨mwL_113, List.forall_mem_cons.mpr ⟨mwL_114, List.forall_mem_cons.mpr ⟨mwL_115, List.forall_mem_cons.mpr ⟨mwL_116, List.forall_mem_cons.mpr ⟨mwL_117, List.forall_mem_cons.mpr ⟨mwL_118, List.forall_mem_cons.mpr ⟨mwL_119, fun _ h => absurd h List.not_mem_nil⟩⟩⟩⟩⟩⟩⟩⟩⟩⟩⟩⟩⟩⟩⟩⟩⟩⟩⟩⟩⟩⟩⟩⟩
theorem mwL_c5 : ∀ q ∈ [120, 121, 122, 123, 124, 125, 126, 127, 128, 129, 130, 131, 132, 133, 134, 135, 136, 137, 138, 139, 140, 141, 142, 143], mwP q := List.forall_mem_cons.mpr ⟨mwL_120, List.forall_mem_cons.mpr ⟨mwL_121, List.forall_mem_cons.mpr ⟨mwL_122, List.forall_mem_cons.mpr ⟨mwL_123, List.forall_mem_cons.mpr ⟨mwL_124, List.forall_mem_cons.mpr ⟨mwL_125, List.forall_mem_cons.mpr ⟨mwL_126, List.forall_mem_cons.mpr ⟨mwL_127, List.forall_mem_cons.mpr ⟨mwL_128, List.forall_mem_cons.mpr ⟨mwL_129, List.forall_mem_cons.mpr ⟨mwL_130, List.forall_mem_cons.mpr ⟨mwL_131, List.forall_mem_cons.mpr ⟨mwL_132, List.forall_mem_cons.mpr ⟨mwL_133, List.forall_mem_cons.mpr ⟨mwL_134, List.forall_mem_cons.mpr ⟨mwL_135, List.forall_mem_cons.mpr ⟨mwL_136, List.forall_mem_cons.mpr ⟨mwL_137, List.forall_mem_cons.mpr ⟨mwL_138, List.forall_mem_cons.mpr ⟨mwL_139, List.forall_mem_cons.mpr ⟨mwL_140, List.forall_mem_cons.mpr ⟨mwL_141, List.forall_mem_cons.mpr ⟨mwL_142, List.forall_mem_cons.mpr ⟨mwL_143, fun _ h => absurd h List.not_mem_nil⟩⟩⟩⟩⟩⟩⟩⟩⟩⟩⟩⟩⟩⟩⟩⟩⟩⟩⟩⟩⟩⟩⟩⟩
theorem mwL_c6 : ∀ q ∈ [144, 145, 146, 147, 148, 149, 150, 151, 152, 153, 154, 155, 156, 157, 158, 159, 160, 161, 162, 163, 164, 165, 166, 167], mwP q := List.forall_mem_cons.mpr ⟨mwL_144, List.forall_mem_cons.mpr ⟨mwL_145, List.forall_mem_cons.mpr ⟨mwL_146, List.forall_mem_cons.mpr ⟨mwL_147, List.forall_mem_cons.mpr ⟨mwL_148, List.forall_mem_cons.mpr ⟨mwL_149, List.forall_mem_cons.mpr ⟨mwL_150, List.forall_mem_cons.mpr ⟨mwL_151, List.forall_mem_cons.mpr ⟨mwL_152, List.forall_mem_cons.mpr ⟨mwL_153, List.forall_mem_cons.mpr ⟨mwL_154, List.forall_mem_cons.mpr ⟨mwL_155, List.forall_mem_cons.mpr ⟨mwL_156, List.forall_mem_cons.mpr ⟨mwL_157, List.forall_mem_cons.mpr ⟨mwL_158, List.forall_mem_cons.mpr ⟨mwL_159, List.forall_mem_cons.mpr ⟨mwL_160, List.forall_mem_cons.mpr ⟨mwL_161, List.forall_mem_cons.mpr ⟨mwL_162, List.forall_mem_cons.mpr ⟨mwL_163, List.forall_mem_cons.mpr ⟨mwL_164, List.forall_mem_cons.mpr ⟨mwL_165, List.forall_mem_cons.mpr ⟨mwL_166, List.forall_mem_cons.mpr ⟨mwL_167, fun _ h => absurd h List.not_mem_nil⟩⟩⟩⟩⟩⟩⟩⟩⟩⟩⟩⟩⟩⟩⟩⟩⟩⟩⟩⟩⟩⟩⟩⟩
theorem mwL_c7 : ∀ q ∈ [168, 169, 170, 171, 172, 173, 174, 175, 176, 177, 178, 179, 180, 181, 182, 183, 184, 185, 186, 187, 188, 189, 190, 191], mwP q := List.forall_mem_cons.mpr ⟨mwL_168, List.forall_mem_cons.mpr ⟨mwL_169, List.forall_mem_cons.mpr ⟨mwL_170, List.forall_mem_cons.mpr ⟨mwL_171, List.forall_mem_cons.mpr ⟨mwL_172, List.forall_mem_cons.mpr ⟨mwL_173, List.forall_mem_cons.mpr ⟨mwL_174, List.forall_mem_cons.mpr ⟨mwL_175, List.forall_mem_cons.mpr ⟨mwL_176, List.forall_mem_cons.mpr ⟨mwL_177, List.forall_mem_cons.mpr ⟨mwL_178, List.forall_mem_cons.mpr ⟨mwL_179, List.forall_mem_cons.mpr ⟨mwL_180, List.forall_mem_cons.mpr ⟨mwL_181, List.forall_mem_cons.mpr ⟨mwL_182, List.forall_mem_cons.mpr ⟨mwL_183, List.forall_mem_cons.mpr ⟨mwL_184, List.forall_mem_cons.mpr ⟨mwL_185, List.forall_mem_cons.mpr ⟨mwL_186, List.forall_mem_cons.mpr ⟨mwL_187, List.forall_mem_cons.mpr ⟨mwL_188, List.forall_mem_cons.mpr ⟨mwL_189, List.forall_mem_cons.mpr ⟨mwL_190, List.forall_mem_cons.mpr ⟨mwL_191, fun _ h => absurd h List.not_mem_nil⟩⟩⟩⟩⟩⟩⟩⟩⟩⟩⟩⟩⟩⟩⟩⟩⟩⟩⟩⟩⟩⟩⟩⟩
theorem mwL_c8 : ∀ q ∈ [192, 193, 194, 195, 196, 197, 198, 199, 200, 201, 202, 203, 204, 205, 206, 207, 208, 209, 210, 211, 212, 213, 214, 215], mwP q := List.forall_mem_cons.mpr ⟨mwL_192, List.forall_mem_cons.mpr ⟨mwL_193, List.forall_mem_cons.mpr ⟨mwL_194, List.forall_mem_cons.mpr ⟨mwL_195, List.forall_mem_cons.mpr ⟨mwL_196, List.forall_mem_cons.mpr ⟨mwL_197, List.forall_mem_cons.mpr ⟨mwL_198, List.forall_mem_cons.mpr ⟨mwL_199, List.forall_mem_cons.mpr ⟨mwL_200, List.forall_mem_cons.mpr ⟨mwL_201, List.forall_mem_cons.mpr ⟨mwL_202, List.forall_mem_cons.mpr ⟨mwL_203, List.forall_mem_cons.mpr ⟨mwL_204, List.forall_mem_cons.mpr ⟨mwL_205, List.forall_mem_cons.mpr ⟨mwL_206, List.forall_mem_cons.mpr ⟨mwL_207, List.forall_mem_cons.mpr ⟨mwL_208, List.forall_mem_cons.mpr ⟨mwL_209, List.forall_mem_cons.mpr ⟨mwL_210, List.forall_mem_cons.mpr ⟨mwL_211, List.forall_mem_cons.mpr ⟨mwL_212, List.forall_mem_cons.mpr ⟨mwL_213, List.forall_mem_cons.mpr ⟨mwL_214, List.forall_mem_cons.mpr ⟨mwL_215, fun _ h => absurd h List.not_mem_nil⟩⟩⟩⟩⟩⟩⟩⟩⟩⟩⟩⟩⟩⟩⟩⟩⟩⟩⟩⟩⟩⟩⟩⟩
theorem mwL_c9 : ∀ q ∈ [216, 217, 218, 219, 220, 221, 222, 223, 224, 225, 226, 227, 228, 229, 230, 231, 232, 233, 234, 235, 236, 237, 238, 239], mwP q := List.forall_mem_cons.mpr ⟨mwL_216, List.forall_mem_cons.mpr ⟨mwL_217, List.forall_mem_cons.mpr ⟨mwL_218, List.forall_mem_cons.mpr ⟨mwL_219, List.forall_mem_cons.mpr ⟨mwL_220, List.forall_mem_cons.mpr ⟨mwL_221, List.forall_mem_cons.mpr ⟨mwL_222, List.forall_mem_cons.mpr ⟨mwL_223, List.forall_mem_cons.mpr ⟨mwL_224, List.forall_mem_cons.mpr ⟨mwL_225, List.forall_mem_cons.mpr ⟨mwL_226, List.forall_mem_cons.mpr ⟨mwL_227, List.forall_mem_cons.mpr ⟨mwL_228, List.forall_mem_cons.mpr ⟨mwL_229, List.forall_mem_cons.mpr ⟨mwL_230, List.forall_mem_cons.mpr ⟨mwL_231, List.forall_mem_cons.mpr ⟨mwL_232, List.forall_mem_cons.mpr ⟨mwL_233, List.forall_mem_cons.mpr ⟨mwL_234, List.forall_mem_cons.mpr ⟨mwL_235, List.forall_mem_cons.mpr ⟨mwL_236, List.forall_mem_cons.mpr ⟨mwL_237, List.forall_mem_cons.mpr ⟨mwL_238, List.forall_mem_cons.mpr ⟨mwL_239, fun _ h => absurd h List.not_mem_nil⟩⟩⟩⟩⟩⟩⟩⟩⟩⟩⟩⟩⟩⟩⟩⟩⟩⟩⟩⟩⟩⟩⟩⟩
theorem mwL_c10 : ∀ q ∈ [240, 241, 242, 243, 244, 245, 246, 247, 248, 249, 250, 251, 252, 253], mwP q := List.forall_mem_cons.mpr ⟨mwL_240, List.forall_mem_cons.mpr ⟨mwL_241, List.forall_mem_cons.mpr ⟨mwL_242, List.forall_mem_cons.mpr ⟨mwL_243, List.forall_mem_cons.mpr ⟨mwL_244, List.forall_mem_cons.mpr ⟨mwL_245, List.forall_mem_cons.mpr ⟨mwL_246, List.forall_mem_cons.mpr ⟨mwL_247, List.forall_mem_cons.mpr ⟨mwL_248, List.forall_mem_cons.mpr ⟨mwL_249, List.forall_mem_cons.mpr ⟨mwL_250, List.forall_mem_cons.mpr ⟨mwL_251, List.forall_mem_cons.mpr ⟨mwL_252, List.forall_mem_cons.mpr ⟨mwL_253, fun _ h => absurd h List.not_mem_nil⟩⟩⟩⟩⟩⟩⟩⟩⟩⟩⟩⟩⟩⟩
set_option maxRecDepth 100000 in
theorem mwL_ok : ∀ q ∈ mwL, mwP q := by
  show ∀ q ∈ ([0, 1, 2, 3, 4, 5, 6, 7, 8, 9, 10, 11, 12, 13, 14, 15, 16, 17, 18, 19, 20, 21, 22, 23] ++ ([24, 25, 26, 27, 28, 29, 30, 31, 32, 33, 34, 35, 36, 37, 38, 39, 40, 41, 42, 43, 44, 45, 46, 47] ++ ([48, 49, 50, 51, 52, 53, 54, 55, 56, 57, 58, 59, 60, 61, 62, 63, 64, 65, 66, 67, 68, 69, 70, 71] ++ ([72, 73, 74, 75, 76, 77, 78, 79, 80, 81, 82, 83, 84, 85, 86, 87, 88, 89, 90, 91, 92, 93, 94, 95] ++ ([96, 97, 98, 99, 100, 101, 102, 103, 104, 105, 106, 107, 108, 109, 110, 111, 112, 113, 114, 115, 116, 117, 118, 119] ++ ([120, 121, 122, 123, 124, 125, 126, 127, 128, 129, 130, 131, 132, 133, 134, 135, 136, 137, 138, 139, 140, 141, 142, 143] ++ ([144, 145, 146, 147, 148, 149, 150, 151, 152, 153, 154, 155, 156, 157, 158, 159, 160, 161, 162, 163, 164, 165, 166, 167] ++ ([168, 169, 170, 171, 172, 173, 174, 175, 176, 177, 178, 179, 180, 181, 182, 183, 184, 185, 186, 187, 188, 189, 190, 191] ++ ([192, 193, 194, 195, 196, 197, 198, 199, 200, 201, 202, 203, 204, 205, 206, 207, 208, 209, 210, 211, 212, 213, 214, 215] ++ ([216, 217, 218, 219, 220, 221, 222, 223, 224, 225, 226, 227, 228, 229, 230, 231, 232, 233, 234, 235, 236, 237, 238, 239] ++ ([240, 241, 242, 243, 244, 245, 246, 247, 248, 249, 250, 251, 252, 253])))))))))) : List Nat), mwP q
  exact List.forall_mem_append.mpr ⟨mwL_c0, List.forall_mem_append.mpr ⟨mwL_c1, List.forall_mem_append.mpr ⟨mwL_c2, List.forall_mem_append.mpr ⟨mwL_c3, List.forall_mem_append.mpr ⟨mwL_c4, List.forall_mem_append.mpr ⟨mwL_c5, List.forall_mem_append.mpr ⟨mwL_c6, List.forall_mem_append.mpr ⟨mwL_c7, List.forall_mem_append.mpr ⟨mwL_c8, List.forall_mem_append.mpr ⟨mwL_c9, mwL_c10⟩⟩⟩⟩⟩⟩⟩⟩⟩⟩
theorem mw_all {c : Nat} (h : c < NM) : mwP c := mwL_ok c (by
  have h1 : mwL = List.range 254 := by decide +kernel
  rw [h1]; exact List.mem_range.mpr h)
theorem cl_at {c : Nat} (h : c < 7) : cl[c]? = some (pC c, fTl c, cN c) := by
  rcases (show c = 0 ∨ c = 1 ∨ c = 2 ∨ c = 3 ∨ c = 4 ∨ c = 5 ∨ c = 6 by omega) with rfl | rfl | rfl | rfl | rfl | rfl | rfl <;> rfl
theorem fYl_ok {c : Nat} (h : c < 7) : ∀ k, k < cN c → parseFieldDescriptor (fTl c k).2.2.1 = some (fYl c k) := by
  rcases (show c = 0 ∨ c = 1 ∨ c = 2 ∨ c = 3 ∨ c = 4 ∨ c = 5 ∨ c = 6 by omega) with rfl | rfl | rfl | rfl | rfl | rfl | rfl
  · exact fYok0
  · exact fYok1
  · exact fYok2
  · exact fYok3
  · exact fYok4
  · exact fYok5
  · exact fYok6
theorem fNm_ok {c : Nat} (h : c < 7) : ∀ a, a < cN c → ∀ b, b < cN c → a ≠ b → (fTl c a).2.1 ≠ (fTl c b).2.1 := by
  rcases (show c = 0 ∨ c = 1 ∨ c = 2 ∨ c = 3 ∨ c = 4 ∨ c = 5 ∨ c = 6 by omega) with rfl | rfl | rfl | rfl | rfl | rfl | rfl
  · exact fNm0
  · exact fNm1
  · exact fNm2
  · exact fNm3
  · exact fNm4
  · exact fNm5
  · exact fNm6
def pcs (pc : Nat) (off : Int) (t : Nat) : Bool := decide ((pc : Int) + off = (t : Int))
def swo (pc : Nat) : List Int → List Nat → Bool
  | [], [] => true
  | o :: os, t :: ts => pcs pc o t && swo pc os ts
  | _, _ => false
def okI (id pc : Nat) (i : Instr) (len : Nat) (ops : List Nat) (v : Value) : Bool := match i with
  | .iconst n => decide (len = 1) && decide (v = .int (Int32.ofInt n))
  | .bipush n => decide (len = 2) && decide (v = .int (Int8.ofInt n).toInt32)
  | .sipush n => decide (len = 3) && decide (v = .int (Int16.ofInt n).toInt32)
  | .lconst n => decide (len = 1) && decide (v = .long (Int64.ofNat (n : Nat)))
  | .fconst n => decide (len = 1) && (match n with
    | 0 => decide (v = .float FP.fconst0)
    | 1 => decide (v = .float FP.fconst1)
    | 2 => decide (v = .float FP.fconst2))
  | .dconst n => decide (len = 1) && (match n with
    | 0 => decide (v = .double FP.dconst0)
    | 1 => decide (v = .double FP.dconst1))
  | .ldc ix => decide (len = 2) && (match v with
    | .int x => decide (ldIl[o0 ops]? = some (pO id, ix, x))
    | .float x => decide (ldFl[o0 ops]? = some (pO id, ix, x))
    | _ => false)
  | .ldc_w ix => decide (len = 3) && (match v with
    | .int x => decide (ldIl[o0 ops]? = some (pO id, ix, x))
    | .float x => decide (ldFl[o0 ops]? = some (pO id, ix, x))
    | _ => false)
  | .ldc2_w ix => decide (len = 3) && (match v with
    | .long x => decide (ldJl[o0 ops]? = some (pO id, ix, x))
    | .double x => decide (ldDl[o0 ops]? = some (pO id, ix, x))
    | _ => false)
  | .iload_n k | .lload_n k | .fload_n k | .dload_n k | .aload_n k => decide (len = 1) && decide ((k : Nat) = o0 ops)
  | .iload k | .lload k | .fload k | .dload k | .aload k => decide (len = 2) && decide (k = o0 ops)
  | .istore_n k | .fstore_n k | .astore_n k => decide (len = 1) && (decide ((k : Nat) = o0 ops) && decide (o0 ops < pM id))
  | .istore k | .fstore k | .astore k => decide (len = 2) && (decide (k = o0 ops) && decide (o0 ops < pM id))
  | .lstore_n k | .dstore_n k => decide (len = 1) && (decide ((k : Nat) = o0 ops) && decide (o0 ops + 1 < pM id))
  | .lstore k | .dstore k => decide (len = 2) && (decide (k = o0 ops) && decide (o0 ops + 1 < pM id))
  | .iinc k n => decide (len = 3) && (decide (k = o0 ops) && (decide (o0 ops < pM id) && decide (v = .int (Int32.ofInt n))))
  | .ifCond _ off | .if_icmp _ off | .goto off | .ifnull off | .ifnonnull off => decide (len = 3) && pcs pc off (o0 ops)
  | .tableswitch d lo hi offs => (match v, ops with
    | .int x, t :: ts => pcs pc d t && (decide (x = 0) && (decide (lo = 0) && (decide ((offs.toList.length : Int) = hi + 1) && (swo pc offs.toList ts && decide (hi < 1000)))))
    | _, _ => false)
  | .getfield ix => decide (len = 3) && (decide (o0 ops < 7) && (decide (o1 ops < cN (o0 ops)) && (decide (isR (o0 ops) (o1 ops) = Nat.beq (o3 ops) 1) && decide (flL[o2 ops]? = some (pO id, ix, o0 ops, o1 ops)))))
  | .putfield ix => decide (len = 3) && (decide (o0 ops < 7) && (decide (o1 ops < cN (o0 ops)) && (decide (isR (o0 ops) (o1 ops) = false) && (decide (fYl (o0 ops) (o1 ops) = bif Nat.beq (o3 ops) 1 then .boolean else .int) && (decide ((fTl (o0 ops) (o1 ops)).2.2.2 = false) && decide (flL[o2 ops]? = some (pO id, ix, o0 ops, o1 ops)))))))
  | .getstatic ix => decide (len = 3) && decide (gsL[o0 ops]? = some (pO id, ix))
  | .invokevirtual ix => decide (len = 3) && (match ops with
    | [c, n, rt, ci, mx, wl] => decide (mx = pM c) && (decide (ci < 7) && (decide (pO c = ciO ci) && (decide (mlL[wl]? = some (pO id, ix, c)) && (decide (n = pNp c) && (decide (pS c = false) && (decide (c < NM) && Nat.ble rt 6))))))
    | _ => false)
  | .invokestatic ix => decide (len = 3) && (match ops with
    | [c, n, rt, _, mx, wl] => bif Nat.ble 1000 c then decide (nlL[wl]? = some (c, pO id, ix)) && (decide (c < 1003) && Nat.ble rt 6)
      else decide (mx = pM c) && (decide (mlL[wl]? = some (pO id, ix, c)) && (decide (n = pNp c) && (decide (pS c = true) && (decide (c < NM) && Nat.ble rt 6))))
    | _ => false)
  | .ireturn => decide (len = 1) && decide (pR id = bif Nat.beq (o0 ops) 1 then some .boolean else some .int)
  | .lreturn => decide (len = 1) && decide (pR id = some .long)
  | .freturn => decide (len = 1) && decide (pR id = some .float)
  | .dreturn => decide (len = 1) && decide (pR id = some .double)
  | .areturn => decide (len = 1) && (match pR id with
    | some (.object _) => true
    | some (.array _) => true
    | _ => false)
  | .return_ => decide (len = 1) && decide (pR id = none)
  | .aconst_null | .iadd | .isub | .imul | .iand | .ior | .idiv | .irem | .ishl | .ladd | .lsub | .lmul | .land | .lor | .lxor | .lrem | .lshl | .lshr | .lushr | .i2l | .l2i | .i2f | .i2d | .l2d | .d2l | .d2i | .f2i | .f2d | .dneg | .lcmp | .fcmp _ | .dcmp _ | .fadd | .fmul | .fdiv | .dadd | .dsub | .dmul | .ddiv | .dup | .dup2 | .iaload | .baload | .laload | .aaload | .iastore | .bastore | .lastore | .arraylength => decide (len = 1)
  | _ => false
def okAt (id pc : Nat) : Bool := match pF id pc with
  | none => true
  | some (i, len, ops, v) => decide (decode (pB id) pc = .ok (i, len)) && okI id pc i len ops v
theorem okM0 : ((List.range 220).all fun k => okAt 0 k) = true := by decide +kernel
theorem okM1 : ((List.range 220).all fun k => okAt 1 k) = true := by decide +kernel
theorem okM2 : ((List.range 220).all fun k => okAt 2 k) = true := by decide +kernel
theorem okM3 : ((List.range 220).all fun k => okAt 3 k) = true := by decide +kernel
theorem okM4 : ((List.range 220).all fun k => okAt 4 k) = true := by decide +kernel
theorem okM5 : ((List.range 220).all fun k => okAt 5 k) = true := by decide +kernel
theorem okM6 : ((List.range 220).all fun k => okAt 6 k) = true := by decide +kernel
theorem okM7 : ((List.range 220).all fun k => okAt 7 k) = true := by decide +kernel
theorem okM8 : ((List.range 220).all fun k => okAt 8 k) = true := by decide +kernel
theorem okM9 : ((List.range 220).all fun k => okAt 9 k) = true := by decide +kernel
theorem okM10 : ((List.range 220).all fun k => okAt 10 k) = true := by decide +kernel
theorem okM11 : ((List.range 220).all fun k => okAt 11 k) = true := by decide +kernel
theorem okM12 : ((List.range 220).all fun k => okAt 12 k) = true := by decide +kernel
theorem okM13 : ((List.range 220).all fun k => okAt 13 k) = true := by decide +kernel
theorem okM14 : ((List.range 220).all fun k => okAt 14 k) = true := by decide +kernel
theorem okM15 : ((List.range 220).all fun k => okAt 15 k) = true := by decide +kernel
theorem okM16 : ((List.range 220).all fun k => okAt 16 k) = true := by decide +kernel
theorem okM17 : ((List.range 220).all fun k => okAt 17 k) = true := by decide +kernel
theorem okM18 : ((List.range 220).all fun k => okAt 18 k) = true := by decide +kernel
theorem okM19 : ((List.range 220).all fun k => okAt 19 k) = true := by decide +kernel
theorem okM20 : ((List.range 220).all fun k => okAt 20 k) = true := by decide +kernel
theorem okM21 : ((List.range 220).all fun k => okAt 21 k) = true := by decide +kernel
theorem okM22 : ((List.range 220).all fun k => okAt 22 k) = true := by decide +kernel
theorem okM23 : ((List.range 220).all fun k => okAt 23 k) = true := by decide +kernel
theorem okM24 : ((List.range 220).all fun k => okAt 24 k) = true := by decide +kernel
theorem okM25 : ((List.range 220).all fun k => okAt 25 k) = true := by decide +kernel
theorem okM26 : ((List.range 220).all fun k => okAt 26 k) = true := by decide +kernel
theorem okM27 : ((List.range 220).all fun k => okAt 27 k) = true := by decide +kernel
theorem okM28 : ((List.range 220).all fun k => okAt 28 k) = true := by decide +kernel
theorem okM29 : ((List.range 220).all fun k => okAt 29 k) = true := by decide +kernel
theorem okM30 : ((List.range 220).all fun k => okAt 30 k) = true := by decide +kernel
theorem okM31 : ((List.range 220).all fun k => okAt 31 k) = true := by decide +kernel
theorem okM32 : ((List.range 220).all fun k => okAt 32 k) = true := by decide +kernel
theorem okM33 : ((List.range 220).all fun k => okAt 33 k) = true := by decide +kernel
theorem okM34 : ((List.range 220).all fun k => okAt 34 k) = true := by decide +kernel
theorem okM35 : ((List.range 220).all fun k => okAt 35 k) = true := by decide +kernel
theorem okM36 : ((List.range 220).all fun k => okAt 36 k) = true := by decide +kernel
theorem okM37 : ((List.range 220).all fun k => okAt 37 k) = true := by decide +kernel
theorem okM38 : ((List.range 220).all fun k => okAt 38 k) = true := by decide +kernel
theorem okM39 : ((List.range 220).all fun k => okAt 39 k) = true := by decide +kernel
theorem okM40 : ((List.range 220).all fun k => okAt 40 k) = true := by decide +kernel
theorem okM41 : ((List.range 220).all fun k => okAt 41 k) = true := by decide +kernel
theorem okM42 : ((List.range 220).all fun k => okAt 42 k) = true := by decide +kernel
theorem okM43 : ((List.range 220).all fun k => okAt 43 k) = true := by decide +kernel
theorem okM44 : ((List.range 220).all fun k => okAt 44 k) = true := by decide +kernel
theorem okM45 : ((List.range 220).all fun k => okAt 45 k) = true := by decide +kernel
theorem okM46 : ((List.range 220).all fun k => okAt 46 k) = true := by decide +kernel
theorem okM47 : ((List.range 220).all fun k => okAt 47 k) = true := by decide +kernel
theorem okM48 : ((List.range 220).all fun k => okAt 48 k) = true := by decide +kernel
theorem okM49 : ((List.range 220).all fun k => okAt 49 k) = true := by decide +kernel
theorem okM50 : ((List.range 220).all fun k => okAt 50 k) = true := by decide +kernel
theorem okM51 : ((List.range 220).all fun k => okAt 51 k) = true := by decide +kernel
theorem okM52 : ((List.range 220).all fun k => okAt 52 k) = true := by decide +kernel
theorem okM53 : ((List.range 220).all fun k => okAt 53 k) = true := by decide +kernel
theorem okM54 : ((List.range 220).all fun k => okAt 54 k) = true := by decide +kernel
theorem okM55 : ((List.range 220).all fun k => okAt 55 k) = true := by decide +kernel
theorem okM56 : ((List.range 220).all fun k => okAt 56 k) = true := by decide +kernel
theorem okM57 : ((List.range 220).all fun k => okAt 57 k) = true := by decide +kernel
theorem okM58 : ((List.range 220).all fun k => okAt 58 k) = true := by decide +kernel
theorem okM59 : ((List.range 220).all fun k => okAt 59 k) = true := by decide +kernel
theorem okM60 : ((List.range 220).all fun k => okAt 60 k) = true := by decide +kernel
theorem okM61 : ((List.range 220).all fun k => okAt 61 k) = true := by decide +kernel
theorem okM62 : ((List.range 220).all fun k => okAt 62 k) = true := by decide +kernel
theorem okM63 : ((List.range 220).all fun k => okAt 63 k) = true := by decide +kernel
theorem okM64 : ((List.range 220).all fun k => okAt 64 k) = true := by decide +kernel
theorem okM65 : ((List.range 220).all fun k => okAt 65 k) = true := by decide +kernel
theorem okM66 : ((List.range 220).all fun k => okAt 66 k) = true := by decide +kernel
theorem okM67 : ((List.range 220).all fun k => okAt 67 k) = true := by decide +kernel
theorem okM68 : ((List.range 220).all fun k => okAt 68 k) = true := by decide +kernel
theorem okM69 : ((List.range 220).all fun k => okAt 69 k) = true := by decide +kernel
theorem okM70 : ((List.range 220).all fun k => okAt 70 k) = true := by decide +kernel
theorem okM71 : ((List.range 220).all fun k => okAt 71 k) = true := by decide +kernel
theorem okM72 : ((List.range 220).all fun k => okAt 72 k) = true := by decide +kernel
theorem okM73 : ((List.range 220).all fun k => okAt 73 k) = true := by decide +kernel
theorem okM74 : ((List.range 220).all fun k => okAt 74 k) = true := by decide +kernel
theorem okM75 : ((List.range 220).all fun k => okAt 75 k) = true := by decide +kernel
theorem okM76 : ((List.range 220).all fun k => okAt 76 k) = true := by decide +kernel
theorem okM77 : ((List.range 220).all fun k => okAt 77 k) = true := by decide +kernel
theorem okM78 : ((List.range 220).all fun k => okAt 78 k) = true := by decide +kernel
theorem okM79 : ((List.range 220).all fun k => okAt 79 k) = true := by decide +kernel
theorem okM80 : ((List.range 220).all fun k => okAt 80 k) = true := by decide +kernel
theorem okM81 : ((List.range 220).all fun k => okAt 81 k) = true := by decide +kernel
theorem okM82 : ((List.range 220).all fun k => okAt 82 k) = true := by decide +kernel
theorem okM83 : ((List.range 220).all fun k => okAt 83 k) = true := by decide +kernel
theorem okM84 : ((List.range 220).all fun k => okAt 84 k) = true := by decide +kernel
theorem okM85 : ((List.range 220).all fun k => okAt 85 k) = true := by decide +kernel
theorem okM86 : ((List.range 220).all fun k => okAt 86 k) = true := by decide +kernel
theorem okM87 : ((List.range 220).all fun k => okAt 87 k) = true := by decide +kernel
theorem okM88 : ((List.range 220).all fun k => okAt 88 k) = true := by decide +kernel
theorem okM89 : ((List.range 220).all fun k => okAt 89 k) = true := by decide +kernel
theorem okM90 : ((List.range 220).all fun k => okAt 90 k) = true := by decide +kernel
theorem okM91 : ((List.range 220).all fun k => okAt 91 k) = true := by decide +kernel
theorem okM92 : ((List.range 220).all fun k => okAt 92 k) = true := by decide +kernel
theorem okM93 : ((List.range 220).all fun k => okAt 93 k) = true := by decide +kernel
theorem okM94 : ((List.range 220).all fun k => okAt 94 k) = true := by decide +kernel
theorem okM95 : ((List.range 220).all fun k => okAt 95 k) = true := by decide +kernel
theorem okM96 : ((List.range 220).all fun k => okAt 96 k) = true := by decide +kernel
theorem okM97 : ((List.range 220).all fun k => okAt 97 k) = true := by decide +kernel
theorem okM98 : ((List.range 220).all fun k => okAt 98 k) = true := by decide +kernel
theorem okM99 : ((List.range 220).all fun k => okAt 99 k) = true := by decide +kernel
theorem okM100 : ((List.range 220).all fun k => okAt 100 k) = true := by decide +kernel
theorem okM101 : ((List.range 220).all fun k => okAt 101 k) = true := by decide +kernel
theorem okM102 : ((List.range 220).all fun k => okAt 102 k) = true := by decide +kernel
theorem okM103 : ((List.range 220).all fun k => okAt 103 k) = true := by decide +kernel
theorem okM104 : ((List.range 220).all fun k => okAt 104 k) = true := by decide +kernel
theorem okM105 : ((List.range 220).all fun k => okAt 105 k) = true := by decide +kernel
theorem okM106 : ((List.range 220).all fun k => okAt 106 k) = true := by decide +kernel
theorem okM107 : ((List.range 220).all fun k => okAt 107 k) = true := by decide +kernel
theorem okM108 : ((List.range 220).all fun k => okAt 108 k) = true := by decide +kernel
theorem okM109 : ((List.range 220).all fun k => okAt 109 k) = true := by decide +kernel
theorem okM110 : ((List.range 220).all fun k => okAt 110 k) = true := by decide +kernel
theorem okM111 : ((List.range 220).all fun k => okAt 111 k) = true := by decide +kernel
theorem okM112 : ((List.range 220).all fun k => okAt 112 k) = true := by decide +kernel
theorem okM113 : ((List.range 220).all fun k => okAt 113 k) = true := by decide +kernel
theorem okM114 : ((List.range 220).all fun k => okAt 114 k) = true := by decide +kernel
theorem okM115 : ((List.range 220).all fun k => okAt 115 k) = true := by decide +kernel
theorem okM116 : ((List.range 220).all fun k => okAt 116 k) = true := by decide +kernel
theorem okM117 : ((List.range 220).all fun k => okAt 117 k) = true := by decide +kernel
theorem okM118 : ((List.range 220).all fun k => okAt 118 k) = true := by decide +kernel
theorem okM119 : ((List.range 220).all fun k => okAt 119 k) = true := by decide +kernel
theorem okM120 : ((List.range 220).all fun k => okAt 120 k) = true := by decide +kernel
theorem okM121 : ((List.range 220).all fun k => okAt 121 k) = true := by decide +kernel
theorem okM122 : ((List.range 220).all fun k => okAt 122 k) = true := by decide +kernel
theorem okM123 : ((List.range 220).all fun k => okAt 123 k) = true := by decide +kernel
theorem okM124 : ((List.range 220).all fun k => okAt 124 k) = true := by decide +kernel
theorem okM125 : ((List.range 220).all fun k => okAt 125 k) = true := by decide +kernel
theorem okM126 : ((List.range 220).all fun k => okAt 126 k) = true := by decide +kernel
theorem okM127 : ((List.range 220).all fun k => okAt 127 k) = true := by decide +kernel
theorem okM128 : ((List.range 220).all fun k => okAt 128 k) = true := by decide +kernel
theorem okM129 : ((List.range 220).all fun k => okAt 129 k) = true := by decide +kernel
theorem okM130 : ((List.range 220).all fun k => okAt 130 k) = true := by decide +kernel
theorem okM131 : ((List.range 220).all fun k => okAt 131 k) = true := by decide +kernel
theorem okM132 : ((List.range 220).all fun k => okAt 132 k) = true := by decide +kernel
theorem okM133 : ((List.range 220).all fun k => okAt 133 k) = true := by decide +kernel
theorem okM134 : ((List.range 220).all fun k => okAt 134 k) = true := by decide +kernel
theorem okM135 : ((List.range 220).all fun k => okAt 135 k) = true := by decide +kernel
theorem okM136 : ((List.range 220).all fun k => okAt 136 k) = true := by decide +kernel
theorem okM137 : ((List.range 220).all fun k => okAt 137 k) = true := by decide +kernel
theorem okM138 : ((List.range 220).all fun k => okAt 138 k) = true := by decide +kernel
theorem okM139 : ((List.range 220).all fun k => okAt 139 k) = true := by decide +kernel
theorem okM140 : ((List.range 220).all fun k => okAt 140 k) = true := by decide +kernel
theorem okM141 : ((List.range 220).all fun k => okAt 141 k) = true := by decide +kernel
theorem okM142 : ((List.range 220).all fun k => okAt 142 k) = true := by decide +kernel
theorem okM143 : ((List.range 220).all fun k => okAt 143 k) = true := by decide +kernel
theorem okM144 : ((List.range 220).all fun k => okAt 144 k) = true := by decide +kernel
theorem okM145 : ((List.range 220).all fun k => okAt 145 k) = true := by decide +kernel
theorem okM146 : ((List.range 220).all fun k => okAt 146 k) = true := by decide +kernel
theorem okM147 : ((List.range 220).all fun k => okAt 147 k) = true := by decide +kernel
theorem okM148 : ((List.range 220).all fun k => okAt 148 k) = true := by decide +kernel
theorem okM149 : ((List.range 220).all fun k => okAt 149 k) = true := by decide +kernel
theorem okM150 : ((List.range 220).all fun k => okAt 150 k) = true := by decide +kernel
theorem okM151 : ((List.range 220).all fun k => okAt 151 k) = true := by decide +kernel
theorem okM152 : ((List.range 220).all fun k => okAt 152 k) = true := by decide +kernel
theorem okM153 : ((List.range 220).all fun k => okAt 153 k) = true := by decide +kernel
theorem okM154 : ((List.range 220).all fun k => okAt 154 k) = true := by decide +kernel
theorem okM155 : ((List.range 220).all fun k => okAt 155 k) = true := by decide +kernel
theorem okM156 : ((List.range 220).all fun k => okAt 156 k) = true := by decide +kernel
theorem okM157 : ((List.range 220).all fun k => okAt 157 k) = true := by decide +kernel
theorem okM158 : ((List.range 220).all fun k => okAt 158 k) = true := by decide +kernel
theorem okM159 : ((List.range 220).all fun k => okAt 159 k) = true := by decide +kernel
theorem okM160 : ((List.range 220).all fun k => okAt 160 k) = true := by decide +kernel
theorem okM161 : ((List.range 220).all fun k => okAt 161 k) = true := by decide +kernel
theorem okM162 : ((List.range 220).all fun k => okAt 162 k) = true := by decide +kernel
theorem okM163 : ((List.range 220).all fun k => okAt 163 k) = true := by decide +kernel
theorem okM164 : ((List.range 220).all fun k => okAt 164 k) = true := by decide +kernel
theorem okM165 : ((List.range 220).all fun k => okAt 165 k) = true := by decide +kernel
theorem okM166 : ((List.range 220).all fun k => okAt 166 k) = true := by decide +kernel
theorem okM167 : ((List.range 220).all fun k => okAt 167 k) = true := by decide +kernel
theorem okM168 : ((List.range 220).all fun k => okAt 168 k) = true := by decide +kernel
theorem okM169 : ((List.range 220).all fun k => okAt 169 k) = true := by decide +kernel
theorem okM170 : ((List.range 220).all fun k => okAt 170 k) = true := by decide +kernel
theorem okM171 : ((List.range 220).all fun k => okAt 171 k) = true := by decide +kernel
theorem okM172 : ((List.range 220).all fun k => okAt 172 k) = true := by decide +kernel
theorem okM173 : ((List.range 220).all fun k => okAt 173 k) = true := by decide +kernel
theorem okM174 : ((List.range 220).all fun k => okAt 174 k) = true := by decide +kernel
theorem okM175 : ((List.range 220).all fun k => okAt 175 k) = true := by decide +kernel
theorem okM176 : ((List.range 220).all fun k => okAt 176 k) = true := by decide +kernel
theorem okM177 : ((List.range 220).all fun k => okAt 177 k) = true := by decide +kernel
theorem okM178 : ((List.range 220).all fun k => okAt 178 k) = true := by decide +kernel
theorem okM179 : ((List.range 220).all fun k => okAt 179 k) = true := by decide +kernel
theorem okM180 : ((List.range 220).all fun k => okAt 180 k) = true := by decide +kernel
theorem okM181 : ((List.range 220).all fun k => okAt 181 k) = true := by decide +kernel
theorem okM182 : ((List.range 220).all fun k => okAt 182 k) = true := by decide +kernel
theorem okM183 : ((List.range 220).all fun k => okAt 183 k) = true := by decide +kernel
theorem okM184 : ((List.range 220).all fun k => okAt 184 k) = true := by decide +kernel
theorem okM185 : ((List.range 220).all fun k => okAt 185 k) = true := by decide +kernel
theorem okM186 : ((List.range 220).all fun k => okAt 186 k) = true := by decide +kernel
theorem okM187 : ((List.range 220).all fun k => okAt 187 k) = true := by decide +kernel
theorem okM188 : ((List.range 220).all fun k => okAt 188 k) = true := by decide +kernel
theorem okM189 : ((List.range 220).all fun k => okAt 189 k) = true := by decide +kernel
theorem okM190 : ((List.range 220).all fun k => okAt 190 k) = true := by decide +kernel
theorem okM191 : ((List.range 220).all fun k => okAt 191 k) = true := by decide +kernel
theorem okM192 : ((List.range 220).all fun k => okAt 192 k) = true := by decide +kernel
theorem okM193 : ((List.range 220).all fun k => okAt 193 k) = true := by decide +kernel
theorem okM194 : ((List.range 220).all fun k => okAt 194 k) = true := by decide +kernel
theorem okM195 : ((List.range 220).all fun k => okAt 195 k) = true := by decide +kernel
theorem okM196 : ((List.range 220).all fun k => okAt 196 k) = true := by decide +kernel
theorem okM197 : ((List.range 220).all fun k => okAt 197 k) = true := by decide +kernel
theorem okM198 : ((List.range 220).all fun k => okAt 198 k) = true := by decide +kernel
theorem okM199 : ((List.range 220).all fun k => okAt 199 k) = true := by decide +kernel
theorem okM200 : ((List.range 220).all fun k => okAt 200 k) = true := by decide +kernel
theorem okM201 : ((List.range 220).all fun k => okAt 201 k) = true := by decide +kernel
theorem okM202 : ((List.range 220).all fun k => okAt 202 k) = true := by decide +kernel
theorem okM203 : ((List.range 220).all fun k => okAt 203 k) = true := by decide +kernel
theorem okM204 : ((List.range 220).all fun k => okAt 204 k) = true := by decide +kernel
theorem okM205 : ((List.range 220).all fun k => okAt 205 k) = true := by decide +kernel
theorem okM206 : ((List.range 220).all fun k => okAt 206 k) = true := by decide +kernel
theorem okM207 : ((List.range 220).all fun k => okAt 207 k) = true := by decide +kernel
theorem okM208 : ((List.range 220).all fun k => okAt 208 k) = true := by decide +kernel
theorem okM209 : ((List.range 220).all fun k => okAt 209 k) = true := by decide +kernel
theorem okM210 : ((List.range 220).all fun k => okAt 210 k) = true := by decide +kernel
theorem okM211 : ((List.range 220).all fun k => okAt 211 k) = true := by decide +kernel
theorem okM212 : ((List.range 220).all fun k => okAt 212 k) = true := by decide +kernel
theorem okM213 : ((List.range 220).all fun k => okAt 213 k) = true := by decide +kernel
theorem okM214 : ((List.range 220).all fun k => okAt 214 k) = true := by decide +kernel
theorem okM215 : ((List.range 220).all fun k => okAt 215 k) = true := by decide +kernel
theorem okM216 : ((List.range 220).all fun k => okAt 216 k) = true := by decide +kernel
theorem okM217 : ((List.range 220).all fun k => okAt 217 k) = true := by decide +kernel
theorem okM218 : ((List.range 220).all fun k => okAt 218 k) = true := by decide +kernel
theorem okM219 : ((List.range 220).all fun k => okAt 219 k) = true := by decide +kernel
theorem okM220 : ((List.range 220).all fun k => okAt 220 k) = true := by decide +kernel
theorem okM221 : ((List.range 220).all fun k => okAt 221 k) = true := by decide +kernel
theorem okM222 : ((List.range 220).all fun k => okAt 222 k) = true := by decide +kernel
theorem okM223 : ((List.range 220).all fun k => okAt 223 k) = true := by decide +kernel
theorem okM224 : ((List.range 220).all fun k => okAt 224 k) = true := by decide +kernel
theorem okM225 : ((List.range 220).all fun k => okAt 225 k) = true := by decide +kernel
theorem okM226 : ((List.range 220).all fun k => okAt 226 k) = true := by decide +kernel
theorem okM227 : ((List.range 220).all fun k => okAt 227 k) = true := by decide +kernel
theorem okM228 : ((List.range 220).all fun k => okAt 228 k) = true := by decide +kernel
theorem okM229 : ((List.range 220).all fun k => okAt 229 k) = true := by decide +kernel
theorem okM230 : ((List.range 220).all fun k => okAt 230 k) = true := by decide +kernel
theorem okM231 : ((List.range 220).all fun k => okAt 231 k) = true := by decide +kernel
theorem okM232 : ((List.range 220).all fun k => okAt 232 k) = true := by decide +kernel
theorem okM233 : ((List.range 220).all fun k => okAt 233 k) = true := by decide +kernel
theorem okM234 : ((List.range 220).all fun k => okAt 234 k) = true := by decide +kernel
theorem okM235 : ((List.range 220).all fun k => okAt 235 k) = true := by decide +kernel
theorem okM236 : ((List.range 220).all fun k => okAt 236 k) = true := by decide +kernel
theorem okM237 : ((List.range 220).all fun k => okAt 237 k) = true := by decide +kernel
theorem okM238 : ((List.range 220).all fun k => okAt 238 k) = true := by decide +kernel
theorem okM239 : ((List.range 220).all fun k => okAt 239 k) = true := by decide +kernel
theorem okM240 : ((List.range 220).all fun k => okAt 240 k) = true := by decide +kernel
theorem okM241 : ((List.range 220).all fun k => okAt 241 k) = true := by decide +kernel
theorem okM242 : ((List.range 220).all fun k => okAt 242 k) = true := by decide +kernel
theorem okM243 : ((List.range 220).all fun k => okAt 243 k) = true := by decide +kernel
theorem okM244 : ((List.range 220).all fun k => okAt 244 k) = true := by decide +kernel
theorem okM245 : ((List.range 220).all fun k => okAt 245 k) = true := by decide +kernel
theorem okM246 : ((List.range 220).all fun k => okAt 246 k) = true := by decide +kernel
theorem okM247 : ((List.range 220).all fun k => okAt 247 k) = true := by decide +kernel
theorem okM248 : ((List.range 220).all fun k => okAt 248 k) = true := by decide +kernel
theorem okM249 : ((List.range 220).all fun k => okAt 249 k) = true := by decide +kernel
theorem okM250 : ((List.range 220).all fun k => okAt 250 k) = true := by decide +kernel
theorem okM251 : ((List.range 220).all fun k => okAt 251 k) = true := by decide +kernel
theorem okM252 : ((List.range 220).all fun k => okAt 252 k) = true := by decide +kernel
theorem okM253 : ((List.range 220).all fun k => okAt 253 k) = true := by decide +kernel
def okT (i : Nat) : Prop := ((List.range 220).all fun k => okAt i k) = true
theorem okM_c0 : ∀ q ∈ [0, 1, 2, 3, 4, 5, 6, 7, 8, 9, 10, 11, 12, 13, 14, 15, 16, 17, 18, 19, 20, 21, 22, 23], okT q := List.forall_mem_cons.mpr ⟨okM0, List.forall_mem_cons.mpr ⟨okM1, List.forall_mem_cons.mpr ⟨okM2, List.forall_mem_cons.mpr ⟨okM3, List.forall_mem_cons.mpr ⟨okM4, List.forall_mem_cons.mpr ⟨okM5, List.forall_mem_cons.mpr ⟨okM6, List.forall_mem_cons.mpr ⟨okM7, List.forall_mem_cons.mpr ⟨okM8, List.forall_mem_cons.mpr ⟨okM9, List.forall_mem_cons.mpr ⟨okM10, List.forall_mem_cons.mpr ⟨okM11, List.forall_mem_cons.mpr ⟨okM12, List.forall_mem_cons.mpr ⟨okM13, List.forall_mem_cons.mpr ⟨okM14, List.forall_mem_cons.mpr ⟨okM15, List.forall_mem_cons.mpr ⟨okM16, List.forall_mem_cons.mpr ⟨okM17, List.forall_mem_cons.mpr ⟨okM18, List.forall_mem_cons.mpr ⟨okM19, List.forall_mem_cons.mpr ⟨okM20, List.forall_mem_cons.mpr ⟨okM21, List.forall_mem_cons.mpr ⟨okM22, List.forall_mem_cons.mpr ⟨okM23, fun _ h => absurd h List.not_mem_nil⟩⟩⟩⟩⟩⟩⟩⟩⟩⟩⟩⟩⟩⟩⟩⟩⟩⟩⟩⟩⟩⟩⟩⟩
theorem okM_c1 : ∀ q ∈ [24, 25, 26, 27, 28, 29, 30, 31, 32, 33, 34, 35, 36, 37, 38, 39, 40, 41, 42, 43, 44, 45, 46, 47], okT q := List.forall_mem_cons.mpr ⟨okM24, List.forall_mem_cons.mpr ⟨okM25, List.forall_mem_cons.mpr ⟨okM26, List.forall_mem_cons.mpr ⟨okM27, List.forall_mem_cons.mpr ⟨okM28, List.forall_mem_cons.mpr ⟨okM29, List.forall_mem_cons.mpr ⟨okM30, List.forall_mem_cons.mpr ⟨okM31, List.forall_mem_cons.mpr ⟨okM32, List.forall_mem_cons.mpr ⟨okM33, List.forall_mem_cons.mpr ⟨okM34, List.forall_mem_cons.mpr ⟨okM35, List.forall_mem_cons.mpr ⟨okM36, List.forall_mem_cons.mpr ⟨okM37, List.forall_mem_cons.mpr ⟨okM38, List.forall_mem_cons.mpr ⟨okM39, List.forall_mem_cons.mpr ⟨okM40, List.forall_mem_cons.mpr ⟨okM41, List.forall_mem_cons.mpr ⟨okM42, List.forall_mem_cons.mpr ⟨okM43, List.forall_mem_cons.mpr ⟨okM44, List.forall_mem_cons.mpr ⟨okM45, List.forall_mem_cons.mpr ⟨okM46, List.forall_mem_cons.mpr ⟨okM47, fun _ h => absurd h List.not_mem_nil⟩⟩⟩⟩⟩⟩⟩⟩⟩⟩⟩⟩⟩⟩⟩⟩⟩⟩⟩⟩⟩⟩⟩⟩
theorem okM_c2 : ∀ q ∈ [48, 49, 50, 51, 52, 53, 54, 55, 56, 57, 58, 59, 60, 61, 62, 63, 64, 65, 66, 67, 68, 69, 70, 71], okT q := List.forall_mem_cons.mpr ⟨okM48, List.forall_mem_cons.mpr ⟨okM49, List.forall_mem_cons.mpr ⟨okM50, List.forall_mem_cons.mpr ⟨okM51, List.forall_mem_cons.mpr ⟨okM52, List.forall_mem_cons.mpr ⟨okM53, List.forall_mem_cons.mpr ⟨okM54, List.forall_mem_cons.mpr ⟨okM55, List.forall_mem_cons.mpr ⟨okM56, List.forall_mem_cons.mpr ⟨okM57, List.forall_mem_cons.mpr ⟨okM58, List.forall_mem_cons.mpr ⟨okM59, List.forall_mem_cons.mpr ⟨okM60, List.forall_mem_cons.mpr ⟨okM61, List.forall_mem_cons.mpr ⟨okM62, List.forall_mem_cons.mpr ⟨okM63, List.forall_mem_cons.mpr ⟨okM64, List.forall_mem_cons.mpr ⟨okM65, List.forall_mem_cons.mpr ⟨okM66, List.forall_mem_cons.mpr ⟨okM67, List.forall_mem_cons.mpr ⟨okM68, List.forall_mem_cons.mpr ⟨okM69, List.forall_mem_cons.mpr ⟨okM70, List.forall_mem_cons.mpr ⟨okM71, fun _ h => absurd h List.not_mem_nil⟩⟩⟩⟩⟩⟩⟩⟩⟩⟩⟩⟩⟩⟩⟩⟩⟩⟩⟩⟩⟩⟩⟩⟩
theorem okM_c3 : ∀ q ∈ [72, 73, 74, 75, 76, 77, 78, 79, 80, 81, 82, 83, 84, 85, 86, 87, 88, 89, 90, 91, 92, 93, 94, 95], okT q := List.forall_mem_cons.mpr ⟨okM72, List.forall_mem_cons.mpr ⟨okM73, List.forall_mem_cons.mpr ⟨okM74, List.forall_mem_cons.mpr ⟨okM75, List.forall_mem_cons.mpr ⟨okM76, List.forall_mem_cons.mpr ⟨okM77, List.forall_mem_cons.mpr ⟨okM78, List.forall_mem_cons.mpr ⟨okM79, List.forall_mem_cons.mpr ⟨okM80, List.forall_mem_cons.mpr ⟨okM81, List.forall_mem_cons.mpr ⟨okM82, List.forall_mem_cons.mpr ⟨okM83, List.forall_mem_cons.mpr ⟨okM84, List.forall_mem_cons.mpr ⟨okM85, List.forall_mem_cons.mpr ⟨okM86, List.forall_mem_cons.mpr ⟨okM87, List.forall_mem_cons.mpr ⟨okM88, List.forall_mem_cons.mpr ⟨okM89, List.forall_mem_cons.mpr ⟨okM90, List.forall_mem_cons.mpr ⟨okM91, List.forall_mem_cons.mpr ⟨okM92, List.forall_mem_cons.mpr ⟨okM93, List.forall_mem_cons.mpr ⟨okM94, List.forall_mem_cons.mpr ⟨okM95, fun _ h => absurd h List.not_mem_nil⟩⟩⟩⟩⟩⟩⟩⟩⟩⟩⟩⟩⟩⟩⟩⟩⟩⟩⟩⟩⟩⟩⟩⟩
theorem okM_c4 : ∀ q ∈ [96, 97, 98, 99, 100, 101, 102, 103, 104, 105, 106, 107, 108, 109, 110, 111, 112, 113, 114, 115, 116, 117, 118, 119], okT q := List.forall_mem_cons.mpr ⟨okM96, List.forall_mem_cons.mpr ⟨okM97, List.forall_mem_cons.mpr ⟨okM98, List.forall_mem_cons.mpr ⟨okM99, List.forall_mem_cons.mpr ⟨okM100, List.forall_mem_cons.mpr ⟨okM101, List.forall_mem_cons.mpr ⟨okM102, List.forall_mem_cons.mpr ⟨okM103, List.forall_mem_cons.mpr ⟨okM104, List.forall_mem_cons.mpr ⟨okM105, List.forall_mem_cons.mpr ⟨okM106, List.forall_mem_cons.mpr ⟨okM107, List.forall_mem_cons.mpr ⟨okM108, List.forall_mem_cons.mpr ⟨okM109, List.forall_mem_cons.mpr ⟨okM110, List.forall_mem_cons.mpr ⟨okM111, List.forall_mem_cons.mpr ⟨okM112, List.forall_mem_cons.mpr ⟨okM113, List.forall_mem_cons.mpr ⟨okM114, List.forall_mem_cons.mpr ⟨okM115, List.forall_mem_cons.mpr ⟨okM116, List.forall_mem_cons.mpr ⟨okM117, List.forall_mem_cons.mpr ⟨okM118, List.forall_mem_cons.mpr ⟨okM119, fun _ h => absurd h List.not_mem_nil⟩⟩⟩⟩⟩⟩⟩⟩⟩⟩⟩⟩⟩⟩⟩⟩⟩⟩⟩⟩⟩⟩⟩⟩
theorem okM_c5 : ∀ q ∈ [120, 121, 122, 123, 124, 125, 126, 127, 128, 129, 130, 131, 132, 133, 134, 135, 136, 137, 138, 139, 140, 141, 142, 143], okT q := List.forall_mem_cons.mpr ⟨okM120, List.forall_mem_cons.mpr ⟨okM121, List.forall_mem_cons.mpr ⟨okM122, List.forall_mem_cons.mpr ⟨okM123, List.forall_mem_cons.mpr ⟨okM124, List.forall_mem_cons.mpr ⟨okM125, List.forall_mem_cons.mpr ⟨okM126, List.forall_mem_cons.mpr ⟨okM127, List.forall_mem_cons.mpr ⟨okM128, List.forall_mem_cons.mpr ⟨okM129, List.forall_mem_cons.mpr ⟨okM130, List.forall_mem_cons.mpr ⟨okM131, List.forall_mem_cons.mpr ⟨okM132, List.forall_mem_cons.mpr ⟨okM133, List.forall_mem_cons.mpr ⟨okM134, List.forall_mem_cons.mpr ⟨okM135, List.forall_mem_cons.mpr ⟨okM136, List.forall_mem_cons.mpr ⟨okM137, List.forall_mem_cons.mpr ⟨okM138, List.forall_mem_cons.mpr ⟨okM139, List.forall_mem_cons.mpr ⟨okM140, List.forall_mem_cons.mpr ⟨okM141, List.forall_mem_cons.mpr ⟨okM142, List.forall_mem_cons.mpr ⟨okM143, fun _ h => absurd h List.not_mem_nil⟩⟩⟩⟩⟩⟩⟩⟩⟩⟩⟩⟩⟩⟩⟩⟩⟩⟩⟩⟩⟩⟩⟩⟩
theorem okM_c6 : ∀ q ∈ [144, 145, 146, 147, 148, 149, 150, 151, 152, 153, 154, 155, 156, 157, 158, 159, 160, 161, 162, 163, 164, 165, 166, 167], okT q := List.forall_mem_cons.mpr ⟨okM144, List.forall_mem_cons.mpr ⟨okM145, List.forall_mem_cons.mpr ⟨okM146, List.forall_mem_cons.mpr ⟨okM147, List.forall_mem_cons.mpr ⟨okM148, List.forall_mem_cons.mpr ⟨okM149, List.forall_mem_cons.mpr ⟨okM150, List.forall_mem_cons.mpr ⟨okM151, List.forall_mem_cons.mpr ⟨okM152, List.forall_mem_cons.mpr ⟨okM153, List.forall_mem_cons.mpr ⟨okM154, List.forall_mem_cons.mpr ⟨okM155, List.forall_mem_cons.mpr ⟨okM156, List.forall_mem_cons.mpr ⟨okM157, List.forall_mem_cons.mpr ⟨okM158, List.forall_mem_cons.mpr ⟨okM159, List.forall_mem_cons.mpr ⟨okM160, List.forall_mem_cons.mpr ⟨okM161, List.forall_mem_cons.mpr ⟨okM162, List.forall_mem_cons.mpr ⟨okM163, List.forall_mem_cons.mpr ⟨okM164, List.forall_mem_cons.mpr ⟨okM165, List.forall_mem_cons.mpr ⟨okM166, List.forall_mem_cons.mpr ⟨okM167, fun _ h => absurd h List.not_mem_nil⟩⟩⟩⟩⟩⟩⟩⟩⟩⟩⟩⟩⟩⟩⟩⟩⟩⟩⟩⟩⟩⟩⟩⟩
theorem okM_c7 : ∀ q ∈ [168, 169, 170, 171, 172, 173, 174, 175, 176, 177, 178, 179, 180, 181, 182, 183, 184, 185, 186, 187, 188, 189, 190, 191], okT q := List.forall_mem_cons.mpr ⟨okM168, List.forall_mem_cons.mpr ⟨okM169, List.forall_mem_cons.mpr ⟨okM170, List.forall_mem_cons.mpr ⟨okM171, List.forall_mem_cons.mpr ⟨okM172, List.forall_mem_cons.mpr ⟨okM173, List.forall_mem_cons.mpr ⟨okM174, List.forall_mem_cons.mpr ⟨okM175, List.forall_mem_cons.mpr ⟨okM176, List.forall_mem_cons.mpr ⟨okM177, List.forall_mem_cons.mpr ⟨okM178, List.forall_mem_cons.mpr ⟨okM179, List.forall_mem_cons.mpr ⟨okM180, List.forall_mem_cons.mpr ⟨okM181, List.forall_mem_cons.mpr ⟨okM182, List.forall_mem_cons.mpr ⟨okM183, List.forall_mem_cons.mpr ⟨okM184, List.forall_mem_cons.mpr ⟨okM185, List.forall_mem_cons.mpr ⟨okM186, List.forall_mem_cons.mpr ⟨okM187, List.forall_mem_cons.mpr ⟨okM188, List.forall_mem_cons.mpr ⟨okM189, List.forall_mem_cons.mpr ⟨okM190, List.forall_mem_cons.mpr ⟨okM191, fun _ h => absurd h List.not_mem_nil⟩⟩⟩⟩⟩⟩⟩⟩⟩⟩⟩⟩⟩⟩⟩⟩⟩⟩⟩⟩⟩⟩⟩⟩
theorem okM_c8 : ∀ q ∈ [192, 193, 194, 195, 196, 197, 198, 199, 200, 201, 202, 203, 204, 205, 206, 207, 208, 209, 210, 211, 212, 213, 214, 215], okT q := List.forall_mem_cons.mpr ⟨okM192, List.forall_mem_cons.mpr ⟨okM193, List.forall_mem_cons.mpr ⟨okM194, List.forall_mem_cons.mpr ⟨okM195, List.forall_mem_cons.mpr ⟨okM196, List.forall_mem_cons.mpr ⟨okM197, List.forall_mem_cons.mpr ⟨okM198, List.forall_mem_cons.mpr ⟨okM199, List.forall_mem_cons.mpr ⟨okM200, List.forall_mem_cons.mpr ⟨okM201, List.forall_mem_cons.mpr ⟨okM202, List.forall_mem_cons.mpr ⟨okM203, List.forall_mem_cons.mpr ⟨okM204, List.forall_mem_cons.mpr ⟨okM205, List.forall_mem_cons.mpr ⟨okM206, List.forall_mem_cons.mpr ⟨okM207, List.forall_mem_cons.mpr ⟨okM208, List.forall_mem_cons.mpr ⟨okM209, List.forall_mem_cons.mpr ⟨okM210, List.forall_mem_cons.mpr ⟨okM211, List.forall_mem_cons.mpr ⟨okM212, List.forall_mem_cons.mpr ⟨okM213, List.forall_mem_cons.mpr ⟨okM214, List.forall_mem_cons.mpr ⟨okM215, fun _ h => absurd h List.not_mem_nil⟩⟩⟩⟩⟩⟩⟩⟩⟩⟩⟩⟩⟩⟩⟩⟩⟩⟩⟩⟩⟩⟩⟩⟩
theorem okM_c9 : ∀ q ∈ [216, 217, 218, 219, 220, 221, 222, 223, 224, 225, 226, 227, 228, 229, 230, 231, 232, 233, 234, 235, 236, 237, 238, 239], okT q := List.forall_mem_cons.mpr ⟨okM216, List.forall_mem_cons.mpr ⟨okM217, List.forall_mem_cons.mpr ⟨okM218, List.forall_mem_cons.mpr ⟨okM219, List.forall_mem_cons.mpr ⟨okM220, List.forall_mem_cons.mpr ⟨okM221, List.forall_mem_cons.mpr ⟨okM222, List.forall_mem_cons.mpr ⟨okM223, List.forall_mem_cons.mpr ⟨okM224, List.forall_mem_cons.mpr ⟨okM225, List.forall_mem_cons.mpr ⟨okM226, List.forall_mem_cons.mpr ⟨okM227, List.forall_mem_cons.mpr ⟨okM228, List.forall_mem_cons.mpr ⟨okM229, List.forall_mem_cons.mpr ⟨okM230, List.forall_mem_cons.mpr ⟨okM231, List.forall_mem_cons.mpr ⟨okM232, List.forall_mem_cons.mpr ⟨okM233, List.forall_mem_cons.mpr ⟨okM234, List.forall_mem_cons.mpr ⟨okM235, List.forall_mem_cons.mpr ⟨okM236, List.forall_mem_cons.mpr ⟨okM237, List.forall_mem_cons.mpr ⟨okM238, List.forall_mem_cons.mpr ⟨okM239, fun _ h => absurd h List.not_mem_nil⟩⟩⟩⟩⟩⟩⟩⟩⟩⟩⟩⟩⟩⟩⟩⟩⟩⟩⟩⟩⟩⟩⟩⟩
theorem okM_c10 : ∀ q ∈ [240, 241, 242, 243, 244, 245, 246, 247, 248, 249, 250, 251, 252, 253], okT q := List.forall_mem_cons.mpr ⟨okM240, List.forall_mem_cons.mpr ⟨okM241, List.forall_mem_cons.mpr ⟨okM242, List.forall_mem_cons.mpr ⟨okM243, List.forall_mem_cons.mpr ⟨okM244, List.forall_mem_cons.mpr ⟨okM245, List.forall_mem_cons.mpr ⟨okM246, List.forall_mem_cons.mpr ⟨okM247, List.forall_mem_cons.mpr ⟨okM248, List.forall_mem_cons.mpr ⟨okM249, List.forall_mem_cons.mpr ⟨okM250, List.forall_mem_cons.mpr ⟨okM251, List.forall_mem_cons.mpr ⟨okM252, List.forall_mem_cons.mpr ⟨okM253, fun _ h => absurd h List.not_mem_nil⟩⟩⟩⟩⟩⟩⟩⟩⟩⟩⟩⟩⟩⟩
theorem okM_all : ∀ q ∈ ([0, 1, 2, 3, 4, 5, 6, 7, 8, 9, 10, 11, 12, 13, 14, 15, 16, 17, 18, 19, 20, 21, 22, 23] ++ ([24, 25, 26, 27, 28, 29, 30, 31, 32, 33, 34, 35, 36, 37, 38, 39, 40, 41, 42, 43, 44, 45, 46, 47] ++ ([48, 49, 50, 51, 52, 53, 54, 55, 56, 57, 58, 59, 60, 61, 62, 63, 64, 65, 66, 67, 68, 69, 70, 71] ++ ([72, 73, 74, 75, 76, 77, 78, 79, 80, 81, 82, 83, 84, 85, 86, 87, 88, 89, 90, 91, 92, 93, 94, 95] ++ ([96, 97, 98, 99, 100, 101, 102, 103, 104, 105, 106, 107, 108, 109, 110, 111, 112, 113, 114, 115, 116, 117, 118, 119] ++ ([120, 121, 122, 123, 124, 125, 126, 127, 128, 129, 130, 131, 132, 133, 134, 135, 136, 137, 138, 139, 140, 141, 142, 143] ++ ([144, 145, 146, 147, 148, 149, 150, 151, 152, 153, 154, 155, 156, 157, 158, 159, 160, 161, 162, 163, 164, 165, 166, 167] ++ ([168, 169, 170, 171, 172, 173, 174, 175, 176, 177, 178, 179, 180, 181, 182, 183, 184, 185, 186, 187, 188, 189, 190, 191] ++ ([192, 193, 194, 195, 196, 197, 198, 199, 200, 201, 202, 203, 204, 205, 206, 207, 208, 209, 210, 211, 212, 213, 214, 215] ++ ([216, 217, 218, 219, 220, 221, 222, 223, 224, 225, 226, 227, 228, 229, 230, 231, 232, 233, 234, 235, 236, 237, 238, 239] ++ ([240, 241, 242, 243, 244, 245, 246, 247, 248, 249, 250, 251, 252, 253])))))))))) : List Nat), okT q := List.forall_mem_append.mpr ⟨okM_c0, List.forall_mem_append.mpr ⟨okM_c1, List.forall_mem_append.mpr ⟨okM_c2, List.forall_mem_append.mpr ⟨okM_c3, List.forall_mem_append.mpr ⟨okM_c4, List.forall_mem_append.mpr ⟨okM_c5, List.forall_mem_append.mpr ⟨okM_c6, List.forall_mem_append.mpr ⟨okM_c7, List.forall_mem_append.mpr ⟨okM_c8, List.forall_mem_append.mpr ⟨okM_c9, okM_c10⟩⟩⟩⟩⟩⟩⟩⟩⟩⟩
theorem okI_lt {i : Nat} (h : i < 254) : okT i := okM_all i (by
  have h1 : ([0, 1, 2, 3, 4, 5, 6, 7, 8, 9, 10, 11, 12, 13, 14, 15, 16, 17, 18, 19, 20, 21, 22, 23] ++ ([24, 25, 26, 27, 28, 29, 30, 31, 32, 33, 34, 35, 36, 37, 38, 39, 40, 41, 42, 43, 44, 45, 46, 47] ++ ([48, 49, 50, 51, 52, 53, 54, 55, 56, 57, 58, 59, 60, 61, 62, 63, 64, 65, 66, 67, 68, 69, 70, 71] ++ ([72, 73, 74, 75, 76, 77, 78, 79, 80, 81, 82, 83, 84, 85, 86, 87, 88, 89, 90, 91, 92, 93, 94, 95] ++ ([96, 97, 98, 99, 100, 101, 102, 103, 104, 105, 106, 107, 108, 109, 110, 111, 112, 113, 114, 115, 116, 117, 118, 119] ++ ([120, 121, 122, 123, 124, 125, 126, 127, 128, 129, 130, 131, 132, 133, 134, 135, 136, 137, 138, 139, 140, 141, 142, 143] ++ ([144, 145, 146, 147, 148, 149, 150, 151, 152, 153, 154, 155, 156, 157, 158, 159, 160, 161, 162, 163, 164, 165, 166, 167] ++ ([168, 169, 170, 171, 172, 173, 174, 175, 176, 177, 178, 179, 180, 181, 182, 183, 184, 185, 186, 187, 188, 189, 190, 191] ++ ([192, 193, 194, 195, 196, 197, 198, 199, 200, 201, 202, 203, 204, 205, 206, 207, 208, 209, 210, 211, 212, 213, 214, 215] ++ ([216, 217, 218, 219, 220, 221, 222, 223, 224, 225, 226, 227, 228, 229, 230, 231, 232, 233, 234, 235, 236, 237, 238, 239] ++ ([240, 241, 242, 243, 244, 245, 246, 247, 248, 249, 250, 251, 252, 253])))))))))) : List Nat) = List.range 254 := by decide +kernel
  rw [h1]; exact List.mem_range.mpr h)
theorem pF_none {i k : Nat} (h : 220 ≤ k) : pF i k = none := by
  unfold pF
  rw [Nat.ble_eq_true_of_le h, cond_true]
theorem pF_none2 {i k : Nat} (h : 254 ≤ i) : pF i k = none := by
  have h1 : ∀ u, u < 254 → Nat.ble i u = false := fun u hu => by
    rw [Bool.eq_false_iff]; intro e; have := Nat.le_of_ble_eq_true e; omega
  have h2 : ∀ u, u < 254 → Nat.beq i u = false := fun u hu => by
    rw [Bool.eq_false_iff]; intro e; have := Nat.eq_of_beq_eq_true e; omega
  unfold pF
  simp (discharger := decide) only [h1, h2, cond_false, Bool.cond_self]
theorem ok_all (i k : Nat) : okAt i k = true := by
  rcases Nat.lt_or_ge k 220 with hk | hk
  · rcases Nat.lt_or_ge i 254 with hi | hi
    · exact List.all_eq_true.mp (okI_lt hi) k (List.mem_range.mpr hk)
    · unfold okAt; rw [pF_none2 hi]
  · unfold okAt; rw [pF_none hk]
theorem pF_ok {id pc : Nat} {i : Instr} {len : Nat} {ops : List Nat} {v : Value} (h : pF id pc = some (i, len, ops, v)) : id < NM ∧ decode (pB id) pc = .ok (i, len) ∧ okI id pc i len ops v = true := by
  have h1 := ok_all id pc
  unfold okAt at h1
  rw [h] at h1
  obtain ⟨h2, h3⟩ := Bool.and_eq_true_iff.mp h1
  refine ⟨Nat.not_le.mp (fun q => ?_), of_decide_eq_true h2, h3⟩
  rw [pF_none2 q] at h; cases h
theorem clw0_0 : u_lay "TypesInside" fT0 0 ∈ LW := (lc1 185 rfl rfl)
theorem clw0_1 : u_lay "TypesInside" fT0 1 ∈ LW := (lc1 187 rfl rfl)
theorem clw0_2 : u_lay "TypesInside" fT0 2 ∈ LW := (lc1 189 rfl rfl)
theorem clw0_3 : u_lay "TypesInside" fT0 3 ∈ LW := (lc1 191 rfl rfl)
theorem clw0_4 : u_lay "TypesInside" fT0 4 ∈ LW := (lc1 193 rfl rfl)
theorem clw0_5 : u_lay "TypesInside" fT0 5 ∈ LW := (lc1 195 rfl rfl)
theorem clw0_6 : u_lay "TypesInside" fT0 6 ∈ LW := (lc1 197 rfl rfl)
theorem clw0_7 : u_lay "TypesInside" fT0 7 ∈ LW := (lc1 199 rfl rfl)
theorem clw0_8 : u_lay "TypesInside" fT0 8 ∈ LW := (lc1 201 rfl rfl)
theorem clw0_9 : u_lay "TypesInside" fT0 9 ∈ LW := (lc1 203 rfl rfl)
theorem clw0_10 : u_lay "TypesInside" fT0 10 ∈ LW := (lc1 205 rfl rfl)
theorem clw0_11 : u_lay "TypesInside" fT0 11 ∈ LW := (lc1 207 rfl rfl)
theorem clw0 : ∀ w ∈ u_ws "TypesInside" fT0 12, w ∈ LW := List.forall_mem_cons.mpr ⟨clw0_0, List.forall_mem_cons.mpr ⟨clw0_1, List.forall_mem_cons.mpr ⟨clw0_2, List.forall_mem_cons.mpr ⟨clw0_3, List.forall_mem_cons.mpr ⟨clw0_4, List.forall_mem_cons.mpr ⟨clw0_5, List.forall_mem_cons.mpr ⟨clw0_6, List.forall_mem_cons.mpr ⟨clw0_7, List.forall_mem_cons.mpr ⟨clw0_8, List.forall_mem_cons.mpr ⟨clw0_9, List.forall_mem_cons.mpr ⟨clw0_10, List.forall_mem_cons.mpr ⟨clw0_11, fun _ h => absurd h List.not_mem_nil⟩⟩⟩⟩⟩⟩⟩⟩⟩⟩⟩⟩
theorem clw1_0 : u_lay "TypesInside$Counts" fT1 0 ∈ LW := (lc1 42 rfl rfl)
theorem clw1_1 : u_lay "TypesInside$Counts" fT1 1 ∈ LW := (lc1 44 rfl rfl)
theorem clw1_2 : u_lay "TypesInside$Counts" fT1 2 ∈ LW := (lc1 46 rfl rfl)
theorem clw1_3 : u_lay "TypesInside$Counts" fT1 3 ∈ LW := (lc1 48 rfl rfl)
theorem clw1_4 : u_lay "TypesInside$Counts" fT1 4 ∈ LW := (lc1 50 rfl rfl)
theorem clw1 : ∀ w ∈ u_ws "TypesInside$Counts" fT1 5, w ∈ LW := List.forall_mem_cons.mpr ⟨clw1_0, List.forall_mem_cons.mpr ⟨clw1_1, List.forall_mem_cons.mpr ⟨clw1_2, List.forall_mem_cons.mpr ⟨clw1_3, List.forall_mem_cons.mpr ⟨clw1_4, fun _ h => absurd h List.not_mem_nil⟩⟩⟩⟩⟩
theorem clw2_0 : u_lay "TypesInside$Group" fT2 0 ∈ LW := (lc1 73 rfl rfl)
theorem clw2_1 : u_lay "TypesInside$Group" fT2 1 ∈ LW := (lc1 75 rfl rfl)
theorem clw2_2 : u_lay "TypesInside$Group" fT2 2 ∈ LW := (lc1 77 rfl rfl)
theorem clw2_3 : u_lay "TypesInside$Group" fT2 3 ∈ LW := (lc1 79 rfl rfl)
theorem clw2_4 : u_lay "TypesInside$Group" fT2 4 ∈ LW := (lc1 81 rfl rfl)
theorem clw2_5 : u_lay "TypesInside$Group" fT2 5 ∈ LW := (lc1 83 rfl rfl)
theorem clw2_6 : u_lay "TypesInside$Group" fT2 6 ∈ LW := (lc1 85 rfl rfl)
theorem clw2_7 : u_lay "TypesInside$Group" fT2 7 ∈ LW := (lc1 87 rfl rfl)
theorem clw2_8 : u_lay "TypesInside$Group" fT2 8 ∈ LW := (lc1 89 rfl rfl)
theorem clw2_9 : u_lay "TypesInside$Group" fT2 9 ∈ LW := (lc1 91 rfl rfl)
theorem clw2_10 : u_lay "TypesInside$Group" fT2 10 ∈ LW := (lc1 93 rfl rfl)
theorem clw2_11 : u_lay "TypesInside$Group" fT2 11 ∈ LW := (lc1 95 rfl rfl)
theorem clw2_12 : u_lay "TypesInside$Group" fT2 12 ∈ LW := (lc1 97 rfl rfl)
theorem clw2 : ∀ w ∈ u_ws "TypesInside$Group" fT2 13, w ∈ LW := List.forall_mem_cons.mpr ⟨clw2_0, List.forall_mem_cons.mpr ⟨clw2_1, List.forall_mem_cons.mpr ⟨clw2_2, List.forall_mem_cons.mpr ⟨clw2_3, List.forall_mem_cons.mpr ⟨clw2_4, List.forall_mem_cons.mpr ⟨clw2_5, List.forall_mem_cons.mpr ⟨clw2_6, List.forall_mem_cons.mpr ⟨clw2_7, List.forall_mem_cons.mpr ⟨clw2_8, List.forall_mem_cons.mpr ⟨clw2_9, List.forall_mem_cons.mpr ⟨clw2_10, List.forall_mem_cons.mpr ⟨clw2_11, List.forall_mem_cons.mpr ⟨clw2_12, fun _ h => absurd h List.not_mem_nil⟩⟩⟩⟩⟩⟩⟩⟩⟩⟩⟩⟩⟩
theorem clw3_0 : u_lay "TypesInside$Mix" fT3 0 ∈ LW := (lc1 119 rfl rfl)
theorem clw3 : ∀ w ∈ u_ws "TypesInside$Mix" fT3 1, w ∈ LW := List.forall_mem_cons.mpr ⟨clw3_0, fun _ h => absurd h List.not_mem_nil⟩
theorem clw4_0 : u_lay "TypesInside$Shelf" fT4 0 ∈ LW := (lc1 166 rfl rfl)
theorem clw4_1 : u_lay "TypesInside$Shelf" fT4 1 ∈ LW := (lc1 168 rfl rfl)
theorem clw4_2 : u_lay "TypesInside$Shelf" fT4 2 ∈ LW := (lc1 170 rfl rfl)
theorem clw4 : ∀ w ∈ u_ws "TypesInside$Shelf" fT4 3, w ∈ LW := List.forall_mem_cons.mpr ⟨clw4_0, List.forall_mem_cons.mpr ⟨clw4_1, List.forall_mem_cons.mpr ⟨clw4_2, fun _ h => absurd h List.not_mem_nil⟩⟩⟩
theorem clw5_0 : u_lay "TypesInside$Sums" fT5 0 ∈ LW := (lc1 131 rfl rfl)
theorem clw5_1 : u_lay "TypesInside$Sums" fT5 1 ∈ LW := (lc1 133 rfl rfl)
theorem clw5_2 : u_lay "TypesInside$Sums" fT5 2 ∈ LW := (lc1 135 rfl rfl)
theorem clw5_3 : u_lay "TypesInside$Sums" fT5 3 ∈ LW := (lc1 137 rfl rfl)
theorem clw5_4 : u_lay "TypesInside$Sums" fT5 4 ∈ LW := (lc1 139 rfl rfl)
theorem clw5_5 : u_lay "TypesInside$Sums" fT5 5 ∈ LW := (lc1 141 rfl rfl)
theorem clw5_6 : u_lay "TypesInside$Sums" fT5 6 ∈ LW := (lc1 143 rfl rfl)
theorem clw5_7 : u_lay "TypesInside$Sums" fT5 7 ∈ LW := (lc1 145 rfl rfl)
theorem clw5_8 : u_lay "TypesInside$Sums" fT5 8 ∈ LW := (lc1 147 rfl rfl)
theorem clw5 : ∀ w ∈ u_ws "TypesInside$Sums" fT5 9, w ∈ LW := List.forall_mem_cons.mpr ⟨clw5_0, List.forall_mem_cons.mpr ⟨clw5_1, List.forall_mem_cons.mpr ⟨clw5_2, List.forall_mem_cons.mpr ⟨clw5_3, List.forall_mem_cons.mpr ⟨clw5_4, List.forall_mem_cons.mpr ⟨clw5_5, List.forall_mem_cons.mpr ⟨clw5_6, List.forall_mem_cons.mpr ⟨clw5_7, List.forall_mem_cons.mpr ⟨clw5_8, fun _ h => absurd h List.not_mem_nil⟩⟩⟩⟩⟩⟩⟩⟩⟩
theorem clw6_0 : u_lay "TypesInsideModel" fT6 0 ∈ LW := (lc4 182 rfl rfl)
theorem clw6_1 : u_lay "TypesInsideModel" fT6 1 ∈ LW := (lc4 184 rfl rfl)
theorem clw6_2 : u_lay "TypesInsideModel" fT6 2 ∈ LW := (lc4 186 rfl rfl)
theorem clw6_3 : u_lay "TypesInsideModel" fT6 3 ∈ LW := (lc4 188 rfl rfl)
theorem clw6_4 : u_lay "TypesInsideModel" fT6 4 ∈ LW := (lc4 190 rfl rfl)
theorem clw6_5 : u_lay "TypesInsideModel" fT6 5 ∈ LW := (lc4 192 rfl rfl)
theorem clw6_6 : u_lay "TypesInsideModel" fT6 6 ∈ LW := (lc4 194 rfl rfl)
theorem clw6_7 : u_lay "TypesInsideModel" fT6 7 ∈ LW := (lc4 196 rfl rfl)
theorem clw6_8 : u_lay "TypesInsideModel" fT6 8 ∈ LW := (lc4 198 rfl rfl)
theorem clw6_9 : u_lay "TypesInsideModel" fT6 9 ∈ LW := (lc4 200 rfl rfl)
theorem clw6_10 : u_lay "TypesInsideModel" fT6 10 ∈ LW := (lc4 202 rfl rfl)
theorem clw6_11 : u_lay "TypesInsideModel" fT6 11 ∈ LW := (lc4 204 rfl rfl)
theorem clw6_12 : u_lay "TypesInsideModel" fT6 12 ∈ LW := (lc4 206 rfl rfl)
theorem clw6_13 : u_lay "TypesInsideModel" fT6 13 ∈ LW := (lc4 208 rfl rfl)
theorem clw6_14 : u_lay "TypesInsideModel" fT6 14 ∈ LW := (lc4 210 rfl rfl)
theorem clw6_15 : u_lay "TypesInsideModel" fT6 15 ∈ LW := (lc4 212 rfl rfl)
theorem clw6_16 : u_lay "TypesInsideModel" fT6 16 ∈ LW := (lc4 214 rfl rfl)
theorem clw6_17 : u_lay "TypesInsideModel" fT6 17 ∈ LW := (lc4 216 rfl rfl)
theorem clw6_18 : u_lay "TypesInsideModel" fT6 18 ∈ LW := (lc4 218 rfl rfl)
theorem clw6_19 : u_lay "TypesInsideModel" fT6 19 ∈ LW := (lc4 220 rfl rfl)
theorem clw6_20 : u_lay "TypesInsideModel" fT6 20 ∈ LW := (lc4 222 rfl rfl)
theorem clw6_21 : u_lay "TypesInsideModel" fT6 21 ∈ LW := (lc4 224 rfl rfl)
theorem clw6_22 : u_lay "TypesInsideModel" fT6 22 ∈ LW := (lc4 226 rfl rfl)
theorem clw6_23 : u_lay "TypesInsideModel" fT6 23 ∈ LW := (lc4 228 rfl rfl)
theorem clw6_24 : u_lay "TypesInsideModel" fT6 24 ∈ LW := (lc4 230 rfl rfl)
theorem clw6_25 : u_lay "TypesInsideModel" fT6 25 ∈ LW := (lc4 232 rfl rfl)
theorem clw6_26 : u_lay "TypesInsideModel" fT6 26 ∈ LW := (lc4 234 rfl rfl)
theorem clw6_27 : u_lay "TypesInsideModel" fT6 27 ∈ LW := (lc4 236 rfl rfl)
theorem clw6_28 : u_lay "TypesInsideModel" fT6 28 ∈ LW := (lc4 238 rfl rfl)
theorem clw6_29 : u_lay "TypesInsideModel" fT6 29 ∈ LW := (lc5 0 rfl rfl)
theorem clw6_30 : u_lay "TypesInsideModel" fT6 30 ∈ LW := (lc5 2 rfl rfl)
theorem clw6_31 : u_lay "TypesInsideModel" fT6 31 ∈ LW := (lc5 4 rfl rfl)
theorem clw6_32 : u_lay "TypesInsideModel" fT6 32 ∈ LW := (lc5 6 rfl rfl)
theorem clw6_33 : u_lay "TypesInsideModel" fT6 33 ∈ LW := (lc5 8 rfl rfl)
theorem clw6_34 : u_lay "TypesInsideModel" fT6 34 ∈ LW := (lc5 10 rfl rfl)
theorem clw6_35 : u_lay "TypesInsideModel" fT6 35 ∈ LW := (lc5 12 rfl rfl)
theorem clw6_36 : u_lay "TypesInsideModel" fT6 36 ∈ LW := (lc5 14 rfl rfl)
theorem clw6_37 : u_lay "TypesInsideModel" fT6 37 ∈ LW := (lc5 16 rfl rfl)
theorem clw6_38 : u_lay "TypesInsideModel" fT6 38 ∈ LW := (lc5 18 rfl rfl)
theorem clw6_39 : u_lay "TypesInsideModel" fT6 39 ∈ LW := (lc5 20 rfl rfl)
theorem clw6_40 : u_lay "TypesInsideModel" fT6 40 ∈ LW := (lc5 22 rfl rfl)
theorem clw6_41 : u_lay "TypesInsideModel" fT6 41 ∈ LW := (lc5 24 rfl rfl)
theorem clw6_42 : u_lay "TypesInsideModel" fT6 42 ∈ LW := (lc5 26 rfl rfl)
theorem clw6_43 : u_lay "TypesInsideModel" fT6 43 ∈ LW := (lc5 28 rfl rfl)
theorem clw6 : ∀ w ∈ u_ws "TypesInsideModel" fT6 44, w ∈ LW := List.forall_mem_cons.mpr ⟨clw6_0, List.forall_mem_cons.mpr ⟨clw6_1, List.forall_mem_cons.mpr ⟨clw6_2, List.forall_mem_cons.mpr ⟨clw6_3, List.forall_mem_cons.mpr ⟨clw6_4, List.forall_mem_cons.mpr ⟨clw6_5, List.forall_mem_cons.mpr ⟨clw6_6, List.forall_mem_cons.mpr ⟨clw6_7, List.forall_mem_cons.mpr ⟨clw6_8, List.forall_mem_cons.mpr ⟨clw6_9, List.forall_mem_cons.mpr ⟨clw6_10, List.forall_mem_cons.mpr ⟨clw6_11, List.forall_mem_cons.mpr ⟨clw6_12, List.forall_mem_cons.mpr ⟨clw6_13, List.forall_mem_cons.mpr ⟨clw6_14, List.forall_mem_cons.mpr ⟨clw6_15, List.forall_mem_cons.mpr ⟨clw6_16, List.forall_mem_cons.mpr ⟨clw6_17, List.forall_mem_cons.mpr ⟨clw6_18, List.forall_mem_cons.mpr ⟨clw6_19, List.forall_mem_cons.mpr ⟨clw6_20, List.forall_mem_cons.mpr ⟨clw6_21, List.forall_mem_cons.mpr ⟨clw6_22, List.forall_mem_cons.mpr ⟨clw6_23, List.forall_mem_cons.mpr ⟨clw6_24, List.forall_mem_cons.mpr ⟨clw6_25, List.forall_mem_cons.mpr ⟨clw6_26, List.forall_mem_cons.mpr ⟨clw6_27, List.forall_mem_cons.mpr ⟨clw6_28, List.forall_mem_cons.mpr ⟨clw6_29, List.forall_mem_cons.mpr ⟨clw6_30, List.forall_mem_cons.mpr ⟨clw6_31, List.forall_mem_cons.mpr ⟨clw6_32, List.forall_mem_cons.mpr ⟨clw6_33, List.forall_mem_cons.mpr ⟨clw6_34, List.forall_mem_cons.mpr ⟨clw6_35, List.forall_mem_cons.mpr ⟨clw6_36, List.forall_mem_cons.mpr ⟨clw6_37, List.forall_mem_cons.mpr ⟨clw6_38, List.forall_mem_cons.mpr ⟨clw6_39, List.forall_mem_cons.mpr ⟨clw6_40, List.forall_mem_cons.mpr ⟨clw6_41, List.forall_mem_cons.mpr ⟨clw6_42, List.forall_mem_cons.mpr ⟨clw6_43, fun _ h => absurd h List.not_mem_nil⟩⟩⟩⟩⟩⟩⟩⟩⟩⟩⟩⟩⟩⟩⟩⟩⟩⟩⟩⟩⟩⟩⟩⟩⟩⟩⟩⟩⟩⟩⟩⟩⟩⟩⟩⟩⟩⟩⟩⟩⟩⟩⟩⟩
theorem clW {c : Nat} (h : c < 7) : ∀ w ∈ u_ws (pC c) (fTl c) (cN c), w ∈ LW := by
  rcases (show c = 0 ∨ c = 1 ∨ c = 2 ∨ c = 3 ∨ c = 4 ∨ c = 5 ∨ c = 6 by omega) with rfl | rfl | rfl | rfl | rfl | rfl | rfl
  · exact clw0
  · exact clw1
  · exact clw2
  · exact clw3
  · exact clw4
  · exact clw5
  · exact clw6
