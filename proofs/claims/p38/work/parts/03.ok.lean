/-! what the program's data say is so: each instruction decodes to what is written, and stands on rows of the tables -/
def NM : Nat := 88
theorem lc1 {w : Jvm.Cond} (j : Nat) (e : tables_1_1[j]? = some w) (g : goodWord w = true) : w ∈ LW := by
  have h := List.mem_of_getElem? e
  exact List.mem_filter.mpr ⟨List.mem_append_right _ (show w ∈ tables_1 from List.mem_append_left _ h), g⟩
theorem lc2 {w : Jvm.Cond} (j : Nat) (e : tables_1_2[j]? = some w) (g : goodWord w = true) : w ∈ LW := by
  have h := List.mem_of_getElem? e
  exact List.mem_filter.mpr ⟨List.mem_append_right _ (show w ∈ tables_1 from List.mem_append_right _ (List.mem_append_left _ h)), g⟩
theorem lc3 {w : Jvm.Cond} (j : Nat) (e : tables_1_3[j]? = some w) (g : goodWord w = true) : w ∈ LW := by
  have h := List.mem_of_getElem? e
  exact List.mem_filter.mpr ⟨List.mem_append_right _ (show w ∈ tables_1 from List.mem_append_right _ (List.mem_append_right _ (h))), g⟩
theorem ls1 {q : MethodName × Nat} (j : Nat) (e : lw_privs_1[j]? = some q) : Jvm.Cond.selects q.1.cls q.1 q.1 ∈ LW := by
  have h := List.mem_of_getElem? e
  exact List.mem_filter.mpr ⟨List.mem_append_left _ (List.mem_map.mpr ⟨q, (show q ∈ lw_privs from List.mem_append_left _ h), rfl⟩), rfl⟩
theorem ls2 {q : MethodName × Nat} (j : Nat) (e : lw_privs_2[j]? = some q) : Jvm.Cond.selects q.1.cls q.1 q.1 ∈ LW := by
  have h := List.mem_of_getElem? e
  exact List.mem_filter.mpr ⟨List.mem_append_left _ (List.mem_map.mpr ⟨q, (show q ∈ lw_privs from List.mem_append_right _ (h)), rfl⟩), rfl⟩
def mlP (q : Nat × Nat × Nat) : Prop := Jvm.Cond.methodLink (pCn q.1) q.2.1 (pY q.2.2) ∈ LW
def mlL : List (Nat × Nat × Nat) := [(1, 36, 66), (1, 40, 48), (1, 44, 49), (1, 47, 60), (1, 51, 52), (1, 55, 0), (1, 58, 54), (1, 62, 63), (1, 66, 61), (1, 69, 3), (1, 75, 51), (1, 79, 64), (1, 82, 6), (1, 85, 7), (1, 88, 8), (1, 91, 1), (1, 95, 53), (1, 98, 9), (1, 101, 50), (2, 54, 63), (2, 58, 13), (2, 62, 61), (2, 64, 15), (2, 67, 16), (2, 70, 23), (2, 73, 62), (2, 76, 17), (2, 79, 85), (2, 84, 18), (2, 87, 19), (2, 90, 20), (2, 96, 84), (2, 103, 22), (2, 100, 24), (2, 107, 25), (2, 111, 26), (2, 114, 27), (2, 118, 31), (2, 122, 83), (2, 128, 32), (2, 131, 33), (2, 134, 59), (2, 137, 68), (2, 140, 38), (2, 143, 41), (2, 146, 39), (2, 150, 40), (2, 153, 36), (3, 24, 42), (3, 44, 47), (3, 36, 43), (4, 9, 47), (4, 13, 48), (4, 17, 86), (7, 13, 60), (7, 17, 61), (7, 21, 66), (7, 25, 59), (0, 79, 58), (0, 83, 59), (0, 86, 63), (0, 89, 61), (0, 92, 64), (0, 95, 65), (0, 98, 67), (0, 101, 68), (0, 104, 66), (0, 108, 45), (0, 122, 1), (0, 118, 46), (0, 126, 2), (0, 130, 4), (0, 136, 75), (0, 133, 5), (0, 139, 55), (0, 142, 13), (0, 146, 14), (0, 150, 12), (0, 172, 21), (0, 176, 27), (0, 180, 83), (0, 184, 28), (0, 187, 29), (0, 190, 30), (0, 193, 34), (0, 196, 35), (0, 199, 36), (0, 203, 37), (0, 294, 10), (0, 297, 11), (0, 256, 44), (0, 232, 57), (0, 307, 82), (0, 275, 56)]
theorem mlL_0 : mlP (1, 36, 66) := (lc2 22 rfl rfl)
theorem mlL_1 : mlP (1, 40, 48) := (lc2 23 rfl rfl)
theorem mlL_2 : mlP (1, 44, 49) := (lc2 26 rfl rfl)
theorem mlL_3 : mlP (1, 47, 60) := (lc2 30 rfl rfl)
theorem mlL_4 : mlP (1, 51, 52) := (lc2 31 rfl rfl)
theorem mlL_5 : mlP (1, 55, 0) := (lc2 34 rfl rfl)
theorem mlL_6 : mlP (1, 58, 54) := (lc2 38 rfl rfl)
theorem mlL_7 : mlP (1, 62, 63) := (lc2 58 rfl rfl)
theorem mlL_8 : mlP (1, 66, 61) := (lc2 59 rfl rfl)
theorem mlL_9 : mlP (1, 69, 3) := (lc2 60 rfl rfl)
theorem mlL_10 : mlP (1, 75, 51) := (lc2 66 rfl rfl)
theorem mlL_11 : mlP (1, 79, 64) := (lc2 64 rfl rfl)
theorem mlL_12 : mlP (1, 82, 6) := (lc2 83 rfl rfl)
theorem mlL_13 : mlP (1, 85, 7) := (lc2 88 rfl rfl)
theorem mlL_14 : mlP (1, 88, 8) := (lc2 94 rfl rfl)
theorem mlL_15 : mlP (1, 91, 1) := (lc2 87 rfl rfl)
theorem mlL_16 : mlP (1, 95, 53) := (lc2 91 rfl rfl)
theorem mlL_17 : mlP (1, 98, 9) := (lc2 98 rfl rfl)
theorem mlL_18 : mlP (1, 101, 50) := (lc2 102 rfl rfl)
theorem mlL_19 : mlP (2, 54, 63) := (lc2 190 rfl rfl)
theorem mlL_20 : mlP (2, 58, 13) := (lc3 41 rfl rfl)
theorem mlL_21 : mlP (2, 62, 61) := (lc3 42 rfl rfl)
theorem mlL_22 : mlP (2, 64, 15) := (lc3 43 rfl rfl)
theorem mlL_23 : mlP (2, 67, 16) := (lc3 50 rfl rfl)
theorem mlL_24 : mlP (2, 70, 23) := (lc3 69 rfl rfl)
theorem mlL_25 : mlP (2, 73, 62) := (lc3 47 rfl rfl)
theorem mlL_26 : mlP (2, 76, 17) := (lc3 54 rfl rfl)
theorem mlL_27 : mlP (2, 79, 85) := (lc3 58 rfl rfl)
theorem mlL_28 : mlP (2, 84, 18) := (lc3 61 rfl rfl)
theorem mlL_29 : mlP (2, 87, 19) := (lc3 65 rfl rfl)
theorem mlL_30 : mlP (2, 90, 20) := (lc2 116 rfl rfl)
theorem mlL_31 : mlP (2, 96, 84) := (lc3 73 rfl rfl)
theorem mlL_32 : mlP (2, 103, 22) := (lc2 125 rfl rfl)
theorem mlL_33 : mlP (2, 100, 24) := (lc2 136 rfl rfl)
theorem mlL_34 : mlP (2, 107, 25) := (lc2 132 rfl rfl)
theorem mlL_35 : mlP (2, 111, 26) := (lc2 128 rfl rfl)
theorem mlL_36 : mlP (2, 114, 27) := (lc2 154 rfl rfl)
theorem mlL_37 : mlP (2, 118, 31) := (lc2 159 rfl rfl)
theorem mlL_38 : mlP (2, 122, 83) := (lc2 163 rfl rfl)
theorem mlL_39 : mlP (2, 128, 32) := (lc2 164 rfl rfl)
theorem mlL_40 : mlP (2, 131, 33) := (lc2 168 rfl rfl)
theorem mlL_41 : mlP (2, 134, 59) := (lc2 172 rfl rfl)
theorem mlL_42 : mlP (2, 137, 68) := (lc2 173 rfl rfl)
theorem mlL_43 : mlP (2, 140, 38) := (lc2 186 rfl rfl)
theorem mlL_44 : mlP (2, 143, 41) := (lc2 203 rfl rfl)
theorem mlL_45 : mlP (2, 146, 39) := (lc2 191 rfl rfl)
theorem mlL_46 : mlP (2, 150, 40) := (lc2 195 rfl rfl)
theorem mlL_47 : mlP (2, 153, 36) := (lc2 199 rfl rfl)
theorem mlL_48 : mlP (3, 24, 42) := (lc3 4 rfl rfl)
theorem mlL_49 : mlP (3, 44, 47) := (lc3 8 rfl rfl)
theorem mlL_50 : mlP (3, 36, 43) := (lc3 0 rfl rfl)
theorem mlL_51 : mlP (4, 9, 47) := (lc2 41 rfl rfl)
theorem mlL_52 : mlP (4, 13, 48) := (lc2 29 rfl rfl)
theorem mlL_53 : mlP (4, 17, 86) := (lc2 44 rfl rfl)
theorem mlL_54 : mlP (7, 13, 60) := (lc1 225 rfl rfl)
theorem mlL_55 : mlP (7, 17, 61) := (lc1 234 rfl rfl)
theorem mlL_56 : mlP (7, 21, 66) := (lc1 238 rfl rfl)
theorem mlL_57 : mlP (7, 25, 59) := (lc2 4 rfl rfl)
theorem mlL_58 : mlP (0, 79, 58) := (lc1 207 rfl rfl)
theorem mlL_59 : mlP (0, 83, 59) := (lc1 216 rfl rfl)
theorem mlL_60 : mlP (0, 86, 63) := (lc1 219 rfl rfl)
theorem mlL_61 : mlP (0, 89, 61) := (lc1 222 rfl rfl)
theorem mlL_62 : mlP (0, 92, 64) := (lc1 228 rfl rfl)
theorem mlL_63 : mlP (0, 95, 65) := (lc1 231 rfl rfl)
theorem mlL_64 : mlP (0, 98, 67) := (lc1 235 rfl rfl)
theorem mlL_65 : mlP (0, 101, 68) := (lc2 1 rfl rfl)
theorem mlL_66 : mlP (0, 104, 66) := (lc2 9 rfl rfl)
theorem mlL_67 : mlP (0, 108, 45) := (lc2 14 rfl rfl)
theorem mlL_68 : mlP (0, 122, 1) := (lc2 18 rfl rfl)
theorem mlL_69 : mlP (0, 118, 46) := (lc2 47 rfl rfl)
theorem mlL_70 : mlP (0, 126, 2) := (lc2 54 rfl rfl)
theorem mlL_71 : mlP (0, 130, 4) := (lc2 73 rfl rfl)
theorem mlL_72 : mlP (0, 136, 75) := (lc2 76 rfl rfl)
theorem mlL_73 : mlP (0, 133, 5) := (lc2 79 rfl rfl)
theorem mlL_74 : mlP (0, 139, 55) := (lc2 105 rfl rfl)
theorem mlL_75 : mlP (0, 142, 13) := (lc3 34 rfl rfl)
theorem mlL_76 : mlP (0, 146, 14) := (lc3 37 rfl rfl)
theorem mlL_77 : mlP (0, 150, 12) := (lc2 232 rfl rfl)
theorem mlL_78 : mlP (0, 172, 21) := (lc2 112 rfl rfl)
theorem mlL_79 : mlP (0, 176, 27) := (lc2 121 rfl rfl)
theorem mlL_80 : mlP (0, 180, 83) := (lc2 144 rfl rfl)
theorem mlL_81 : mlP (0, 184, 28) := (lc2 150 rfl rfl)
theorem mlL_82 : mlP (0, 187, 29) := (lc2 155 rfl rfl)
theorem mlL_83 : mlP (0, 190, 30) := (lc2 174 rfl rfl)
theorem mlL_84 : mlP (0, 193, 34) := (lc2 182 rfl rfl)
theorem mlL_85 : mlP (0, 196, 35) := (lc2 207 rfl rfl)
theorem mlL_86 : mlP (0, 199, 36) := (lc2 211 rfl rfl)
theorem mlL_87 : mlP (0, 203, 37) := (lc2 216 rfl rfl)
theorem mlL_88 : mlP (0, 294, 10) := (lc2 224 rfl rfl)
theorem mlL_89 : mlP (0, 297, 11) := (lc2 228 rfl rfl)
theorem mlL_90 : mlP (0, 256, 44) := (lc2 236 rfl rfl)
theorem mlL_91 : mlP (0, 232, 57) := (lc3 9 rfl rfl)
theorem mlL_92 : mlP (0, 307, 82) := (lc3 13 rfl rfl)
theorem mlL_93 : mlP (0, 275, 56) := (lc3 17 rfl rfl)
theorem mlL_c0 : ∀ q ∈ [(1, 36, 66), (1, 40, 48), (1, 44, 49), (1, 47, 60), (1, 51, 52), (1, 55, 0), (1, 58, 54), (1, 62, 63), (1, 66, 61), (1, 69, 3), (1, 75, 51), (1, 79, 64), (1, 82, 6), (1, 85, 7), (1, 88, 8), (1, 91, 1), (1, 95, 53), (1, 98, 9), (1, 101, 50), (2, 54, 63), (2, 58, 13), (2, 62, 61), (2, 64, 15), (2, 67, 16)], mlP q := List.forall_mem_cons.mpr ⟨mlL_0, List.forall_mem_cons.mpr ⟨mlL_1, List.forall_mem_cons.mpr ⟨mlL_2, List.forall_mem_cons.mpr ⟨mlL_3, List.forall_mem_cons.mpr ⟨mlL_4, List.forall_mem_cons.mpr ⟨mlL_5, List.forall_mem_cons.mpr ⟨mlL_6, List.forall_mem_cons.mpr ⟨mlL_7, List.forall_mem_cons.mpr ⟨mlL_8, List.forall_mem_cons.mpr ⟨mlL_9, List.forall_mem_cons.mpr ⟨mlL_10, List.forall_mem_cons.mpr ⟨mlL_11, List.forall_mem_cons.mpr ⟨mlL_12, List.forall_mem_cons.mpr ⟨mlL_13, List.forall_mem_cons.mpr ⟨mlL_14, List.forall_mem_cons.mpr ⟨mlL_15, List.forall_mem_cons.mpr ⟨mlL_16, List.forall_mem_cons.mpr ⟨mlL_17, List.forall_mem_cons.mpr ⟨mlL_18, List.forall_mem_cons.mpr ⟨mlL_19, List.forall_mem_cons.mpr ⟨mlL_20, List.forall_mem_cons.mpr ⟨mlL_21, List.forall_mem_cons.mpr ⟨mlL_22, List.forall_mem_cons.mpr ⟨mlL_23, fun _ h => absurd h List.not_mem_nil⟩⟩⟩⟩⟩⟩⟩⟩⟩⟩⟩⟩⟩⟩⟩⟩⟩⟩⟩⟩⟩⟩⟩⟩
theorem mlL_c1 : ∀ q ∈ [(2, 70, 23), (2, 73, 62), (2, 76, 17), (2, 79, 85), (2, 84, 18), (2, 87, 19), (2, 90, 20), (2, 96, 84), (2, 103, 22), (2, 100, 24), (2, 107, 25), (2, 111, 26), (2, 114, 27), (2, 118, 31), (2, 122, 83), (2, 128, 32), (2, 131, 33), (2, 134, 59), (2, 137, 68), (2, 140, 38), (2, 143, 41), (2, 146, 39), (2, 150, 40), (2, 153, 36)], mlP q := List.forall_mem_cons.mpr ⟨mlL_24, List.forall_mem_cons.mpr ⟨mlL_25, List.forall_mem_cons.mpr ⟨mlL_26, List.forall_mem_cons.mpr ⟨mlL_27, List.forall_mem_cons.mpr ⟨mlL_28, List.forall_mem_cons.mpr ⟨mlL_29, List.forall_mem_cons.mpr ⟨mlL_30, List.forall_mem_cons.mpr ⟨mlL_31, List.forall_mem_cons.mpr ⟨mlL_32, List.forall_mem_cons.mpr ⟨mlL_33, List.forall_mem_cons.mpr ⟨mlL_34, List.forall_mem_cons.mpr ⟨mlL_35, List.forall_mem_cons.mpr ⟨mlL_36, List.forall_mem_cons.mpr ⟨mlL_37, List.forall_mem_cons.mpr ⟨mlL_38, List.forall_mem_cons.mpr ⟨mlL_39, List.forall_mem_cons.mpr ⟨mlL_40, List.forall_mem_cons.mpr ⟨mlL_41, List.forall_mem_cons.mpr ⟨mlL_42, List.forall_mem_cons.mpr ⟨mlL_43, List.forall_mem_cons.mpr ⟨mlL_44, List.forall_mem_cons.mpr ⟨mlL_45, List.forall_mem_cons.mpr ⟨mlL_46, List.forall_mem_cons.mpr ⟨mlL_47, fun _ h => absurd h List.not_mem_nil⟩⟩⟩⟩⟩⟩⟩⟩⟩⟩⟩⟩⟩⟩⟩⟩⟩⟩⟩⟩⟩⟩⟩⟩
theorem mlL_c2 : ∀ q ∈ [(3, 24, 42), (3, 44, 47), (3, 36, 43), (4, 9, 47), (4, 13, 48), (4, 17, 86), (7, 13, 60), (7, 17, 61), (7, 21, 66), (7, 25, 59), (0, 79, 58), (0, 83, 59), (0, 86, 63), (0, 89, 61), (0, 92, 64), (0, 95, 65), (0, 98, 67), (0, 101, 68), (0, 104, 66), (0, 108, 45), (0, 122, 1), (0, 118, 46), (0, 126, 2), (0, 130, 4)], mlP q := List.forall_mem_cons.mpr ⟨mlL_48, List.forall_mem_cons.mpr ⟨mlL_49, List.forall_mem_cons.mpr ⟨mlL_50, List.forall_mem_cons.mpr ⟨mlL_51, List.forall_mem_cons.mpr ⟨mlL_52, List.forall_mem_cons.mpr ⟨mlL_53, List.forall_mem_cons.mpr ⟨mlL_54, List.forall_mem_cons.mpr ⟨mlL_55, List.forall_mem_cons.mpr ⟨mlL_56, List.forall_mem_cons.mpr ⟨mlL_57, List.forall_mem_cons.mpr ⟨mlL_58, List.forall_mem_cons.mpr ⟨mlL_59, List.forall_mem_cons.mpr ⟨mlL_60, List.forall_mem_cons.mpr ⟨mlL_61, List.forall_mem_cons.mpr ⟨mlL_62, List.forall_mem_cons.mpr ⟨mlL_63, List.forall_mem_cons.mpr ⟨mlL_64, List.forall_mem_cons.mpr ⟨mlL_65, List.forall_mem_cons.mpr ⟨mlL_66, List.forall_mem_cons.mpr ⟨mlL_67, List.forall_mem_cons.mpr ⟨mlL_68, List.forall_mem_cons.mpr ⟨mlL_69, List.forall_mem_cons.mpr ⟨mlL_70, List.forall_mem_cons.mpr ⟨mlL_71, fun _ h => absurd h List.not_mem_nil⟩⟩⟩⟩⟩⟩⟩⟩⟩⟩⟩⟩⟩⟩⟩⟩⟩⟩⟩⟩⟩⟩⟩⟩
theorem mlL_c3 : ∀ q ∈ [(0, 136, 75), (0, 133, 5), (0, 139, 55), (0, 142, 13), (0, 146, 14), (0, 150, 12), (0, 172, 21), (0, 176, 27), (0, 180, 83), (0, 184, 28), (0, 187, 29), (0, 190, 30), (0, 193, 34), (0, 196, 35), (0, 199, 36), (0, 203, 37), (0, 294, 10), (0, 297, 11), (0, 256, 44), (0, 232, 57), (0, 307, 82), (0, 275, 56)], mlP q := List.forall_mem_cons.mpr ⟨mlL_72, List.forall_mem_cons.mpr ⟨mlL_73, List.forall_mem_cons.mpr ⟨mlL_74, List.forall_mem_cons.mpr ⟨mlL_75, List.forall_mem_cons.mpr ⟨mlL_76, List.forall_mem_cons.mpr ⟨mlL_77, List.forall_mem_cons.mpr ⟨mlL_78, List.forall_mem_cons.mpr ⟨mlL_79, List.forall_mem_cons.mpr ⟨mlL_80, List.forall_mem_cons.mpr ⟨mlL_81, List.forall_mem_cons.mpr ⟨mlL_82, List.forall_mem_cons.mpr ⟨mlL_83, List.forall_mem_cons.mpr ⟨mlL_84, List.forall_mem_cons.mpr ⟨mlL_85, List.forall_mem_cons.mpr ⟨mlL_86, List.forall_mem_cons.mpr ⟨mlL_87, List.forall_mem_cons.mpr ⟨mlL_88, List.forall_mem_cons.mpr ⟨mlL_89, List.forall_mem_cons.mpr ⟨mlL_90, List.forall_mem_cons.mpr ⟨mlL_91, List.forall_mem_cons.mpr ⟨mlL_92, List.forall_mem_cons.mpr ⟨mlL_93, fun _ h => absurd h List.not_mem_nil⟩⟩⟩⟩⟩⟩⟩⟩⟩⟩⟩⟩⟩⟩⟩⟩⟩⟩⟩⟩⟩⟩
set_option maxRecDepth 100000 in
theorem mlL_ok : ∀ q ∈ mlL, mlP q := by
  show ∀ q ∈ ([(1, 36, 66), (1, 40, 48), (1, 44, 49), (1, 47, 60), (1, 51, 52), (1, 55, 0), (1, 58, 54), (1, 62, 63), (1, 66, 61), (1, 69, 3), (1, 75, 51), (1, 79, 64), (1, 82, 6), (1, 85, 7), (1, 88, 8), (1, 91, 1), (1, 95, 53), (1, 98, 9), (1, 101, 50), (2, 54, 63), (2, 58, 13), (2, 62, 61), (2, 64, 15), (2, 67, 16)] ++ ([(2, 70, 23), (2, 73, 62), (2, 76, 17), (2, 79, 85), (2, 84, 18), (2, 87, 19), (2, 90, 20), (2, 96, 84), (2, 103, 22), (2, 100, 24), (2, 107, 25), (2, 111, 26), (2, 114, 27), (2, 118, 31), (2, 122, 83), (2, 128, 32), (2, 131, 33), (2, 134, 59), (2, 137, 68), (2, 140, 38), (2, 143, 41), (2, 146, 39), (2, 150, 40), (2, 153, 36)] ++ ([(3, 24, 42), (3, 44, 47), (3, 36, 43), (4, 9, 47), (4, 13, 48), (4, 17, 86), (7, 13, 60), (7, 17, 61), (7, 21, 66), (7, 25, 59), (0, 79, 58), (0, 83, 59), (0, 86, 63), (0, 89, 61), (0, 92, 64), (0, 95, 65), (0, 98, 67), (0, 101, 68), (0, 104, 66), (0, 108, 45), (0, 122, 1), (0, 118, 46), (0, 126, 2), (0, 130, 4)] ++ ([(0, 136, 75), (0, 133, 5), (0, 139, 55), (0, 142, 13), (0, 146, 14), (0, 150, 12), (0, 172, 21), (0, 176, 27), (0, 180, 83), (0, 184, 28), (0, 187, 29), (0, 190, 30), (0, 193, 34), (0, 196, 35), (0, 199, 36), (0, 203, 37), (0, 294, 10), (0, 297, 11), (0, 256, 44), (0, 232, 57), (0, 307, 82), (0, 275, 56)]))) : List (Nat × Nat × Nat)), mlP q
  exact List.forall_mem_append.mpr ⟨mlL_c0, List.forall_mem_append.mpr ⟨mlL_c1, List.forall_mem_append.mpr ⟨mlL_c2, mlL_c3⟩⟩⟩
def fTl (c : Nat) : u_T := match c with
  | 0 => fT0
  | 1 => fT1
  | 2 => fT2
  | 3 => fT3
  | 4 => fT4
  | _ => fT5
def fYl (c : Nat) : Nat → FieldType := match c with
  | 0 => fY0
  | 1 => fY1
  | 2 => fY2
  | 3 => fY3
  | 4 => fY4
  | _ => fY5
def pC (c : Nat) : String := match c with
  | 0 => "TypesInside"
  | 1 => "TypesInside$Counts"
  | 2 => "TypesInside$Group"
  | 3 => "TypesInside$Mix"
  | 4 => "TypesInside$Shelf"
  | _ => "TypesInside$Sums"
def ciO (c : Nat) : Nat := ([0, 1, 2, 3, 5, 6] : List Nat).getD c 99
def flP (q : Nat × Nat × Nat × Nat) : Prop := Jvm.Cond.fieldLink (pCn q.1) q.2.1 (fTl q.2.2.1 q.2.2.2).1 (fTl q.2.2.1 q.2.2.2).2.1 (fTl q.2.2.1 q.2.2.2).2.2.1 ∈ LW
def flL : List (Nat × Nat × Nat × Nat) := [(1, 15, 1, 0), (1, 29, 1, 3), (1, 33, 1, 4), (1, 25, 1, 2), (1, 22, 1, 1), (2, 7, 2, 0), (2, 13, 2, 1), (2, 16, 2, 2), (2, 19, 2, 3), (2, 34, 2, 7), (2, 37, 2, 8), (2, 28, 2, 5), (2, 24, 2, 4), (2, 31, 2, 6), (2, 41, 2, 9), (2, 44, 2, 10), (2, 48, 2, 11), (2, 51, 2, 12), (3, 13, 3, 0), (5, 9, 4, 0), (6, 13, 5, 1), (0, 12, 0, 0), (0, 49, 0, 5), (0, 21, 0, 1), (0, 35, 0, 3), (0, 28, 0, 2), (0, 43, 0, 4)]
theorem flL_0 : flP (1, 15, 1, 0) := (lc1 30 rfl rfl)
theorem flL_1 : flP (1, 29, 1, 3) := (lc1 33 rfl rfl)
theorem flL_2 : flP (1, 33, 1, 4) := (lc1 34 rfl rfl)
theorem flL_3 : flP (1, 25, 1, 2) := (lc1 32 rfl rfl)
theorem flL_4 : flP (1, 22, 1, 1) := (lc1 31 rfl rfl)
theorem flL_5 : flP (2, 7, 2, 0) := (lc1 53 rfl rfl)
theorem flL_6 : flP (2, 13, 2, 1) := (lc1 54 rfl rfl)
theorem flL_7 : flP (2, 16, 2, 2) := (lc1 55 rfl rfl)
theorem flL_8 : flP (2, 19, 2, 3) := (lc1 56 rfl rfl)
theorem flL_9 : flP (2, 34, 2, 7) := (lc1 60 rfl rfl)
theorem flL_10 : flP (2, 37, 2, 8) := (lc1 61 rfl rfl)
theorem flL_11 : flP (2, 28, 2, 5) := (lc1 58 rfl rfl)
theorem flL_12 : flP (2, 24, 2, 4) := (lc1 57 rfl rfl)
theorem flL_13 : flP (2, 31, 2, 6) := (lc1 59 rfl rfl)
theorem flL_14 : flP (2, 41, 2, 9) := (lc1 62 rfl rfl)
theorem flL_15 : flP (2, 44, 2, 10) := (lc1 63 rfl rfl)
theorem flL_16 : flP (2, 48, 2, 11) := (lc1 64 rfl rfl)
theorem flL_17 : flP (2, 51, 2, 12) := (lc1 65 rfl rfl)
theorem flL_18 : flP (3, 13, 3, 0) := (lc1 111 rfl rfl)
theorem flL_19 : flP (5, 9, 4, 0) := (lc1 156 rfl rfl)
theorem flL_20 : flP (6, 13, 5, 1) := (lc1 116 rfl rfl)
theorem flL_21 : flP (0, 12, 0, 0) := (lc1 166 rfl rfl)
theorem flL_22 : flP (0, 49, 0, 5) := (lc1 171 rfl rfl)
theorem flL_23 : flP (0, 21, 0, 1) := (lc1 167 rfl rfl)
theorem flL_24 : flP (0, 35, 0, 3) := (lc1 169 rfl rfl)
theorem flL_25 : flP (0, 28, 0, 2) := (lc1 168 rfl rfl)
theorem flL_26 : flP (0, 43, 0, 4) := (lc1 170 rfl rfl)
theorem flL_c0 : ∀ q ∈ [(1, 15, 1, 0), (1, 29, 1, 3), (1, 33, 1, 4), (1, 25, 1, 2), (1, 22, 1, 1), (2, 7, 2, 0), (2, 13, 2, 1), (2, 16, 2, 2), (2, 19, 2, 3), (2, 34, 2, 7), (2, 37, 2, 8), (2, 28, 2, 5), (2, 24, 2, 4), (2, 31, 2, 6), (2, 41, 2, 9), (2, 44, 2, 10), (2, 48, 2, 11), (2, 51, 2, 12), (3, 13, 3, 0), (5, 9, 4, 0), (6, 13, 5, 1), (0, 12, 0, 0), (0, 49, 0, 5), (0, 21, 0, 1)], flP q := List.forall_mem_cons.mpr ⟨flL_0, List.forall_mem_cons.mpr ⟨flL_1, List.forall_mem_cons.mpr ⟨flL_2, List.forall_mem_cons.mpr ⟨flL_3, List.forall_mem_cons.mpr ⟨flL_4, List.forall_mem_cons.mpr ⟨flL_5, List.forall_mem_cons.mpr ⟨flL_6, List.forall_mem_cons.mpr ⟨flL_7, List.forall_mem_cons.mpr ⟨flL_8, List.forall_mem_cons.mpr ⟨flL_9, List.forall_mem_cons.mpr ⟨flL_10, List.forall_mem_cons.mpr ⟨flL_11, List.forall_mem_cons.mpr ⟨flL_12, List.forall_mem_cons.mpr ⟨flL_13, List.forall_mem_cons.mpr ⟨flL_14, List.forall_mem_cons.mpr ⟨flL_15, List.forall_mem_cons.mpr ⟨flL_16, List.forall_mem_cons.mpr ⟨flL_17, List.forall_mem_cons.mpr ⟨flL_18, List.forall_mem_cons.mpr ⟨flL_19, List.forall_mem_cons.mpr ⟨flL_20, List.forall_mem_cons.mpr ⟨flL_21, List.forall_mem_cons.mpr ⟨flL_22, List.forall_mem_cons.mpr ⟨flL_23, fun _ h => absurd h List.not_mem_nil⟩⟩⟩⟩⟩⟩⟩⟩⟩⟩⟩⟩⟩⟩⟩⟩⟩⟩⟩⟩⟩⟩⟩⟩
theorem flL_c1 : ∀ q ∈ [(0, 35, 0, 3), (0, 28, 0, 2), (0, 43, 0, 4)], flP q := List.forall_mem_cons.mpr ⟨flL_24, List.forall_mem_cons.mpr ⟨flL_25, List.forall_mem_cons.mpr ⟨flL_26, fun _ h => absurd h List.not_mem_nil⟩⟩⟩
set_option maxRecDepth 100000 in
theorem flL_ok : ∀ q ∈ flL, flP q := by
  show ∀ q ∈ ([(1, 15, 1, 0), (1, 29, 1, 3), (1, 33, 1, 4), (1, 25, 1, 2), (1, 22, 1, 1), (2, 7, 2, 0), (2, 13, 2, 1), (2, 16, 2, 2), (2, 19, 2, 3), (2, 34, 2, 7), (2, 37, 2, 8), (2, 28, 2, 5), (2, 24, 2, 4), (2, 31, 2, 6), (2, 41, 2, 9), (2, 44, 2, 10), (2, 48, 2, 11), (2, 51, 2, 12), (3, 13, 3, 0), (5, 9, 4, 0), (6, 13, 5, 1), (0, 12, 0, 0), (0, 49, 0, 5), (0, 21, 0, 1)] ++ ([(0, 35, 0, 3), (0, 28, 0, 2), (0, 43, 0, 4)]) : List (Nat × Nat × Nat × Nat)), flP q
  exact List.forall_mem_append.mpr ⟨flL_c0, flL_c1⟩
def gsP (q : Nat × Nat) : Prop := Jvm.Cond.fieldLink (pCn q.1) q.2 "TypesInside$Types" "NUMBERS" "[I" ∈ LW
def gsL : List (Nat × Nat) := [(7, 7)]
theorem gsL_0 : gsP (7, 7) := (lc1 210 rfl rfl)
theorem gsL_c0 : ∀ q ∈ [(7, 7)], gsP q := List.forall_mem_cons.mpr ⟨gsL_0, fun _ h => absurd h List.not_mem_nil⟩
set_option maxRecDepth 100000 in
theorem gsL_ok : ∀ q ∈ gsL, gsP q := by
  show ∀ q ∈ ([(7, 7)] : List (Nat × Nat)), gsP q
  exact gsL_c0
def ldIlP (q : Nat × Nat × Int32) : Prop := Jvm.Cond.constant (pCn q.1) q.2.1 q.2.2 ∈ LW
def ldIl : List (Nat × Nat × Int32) := []
theorem ldIl_ok : ∀ q ∈ ldIl, ldIlP q := fun _ h => absurd h List.not_mem_nil
def ldFlP (q : Nat × Nat × UInt32) : Prop := Jvm.Cond.constantFloat (pCn q.1) q.2.1 q.2.2 ∈ LW
def ldFl : List (Nat × Nat × UInt32) := []
theorem ldFl_ok : ∀ q ∈ ldFl, ldFlP q := fun _ h => absurd h List.not_mem_nil
def ldJlP (q : Nat × Nat × Int64) : Prop := Jvm.Cond.constantLong (pCn q.1) q.2.1 q.2.2 ∈ LW
def ldJl : List (Nat × Nat × Int64) := [(1, 73, (-1)), (2, 94, (-1)), (0, 112, (-9223372036854775808)), (9, 314, 6148914691236517205), (9, 316, 3689348814741910323), (9, 318, 1085102592571150095)]
theorem ldJl_0 : ldJlP (1, 73, (-1)) := (lc2 65 rfl rfl)
theorem ldJl_1 : ldJlP (2, 94, (-1)) := (lc2 120 rfl rfl)
theorem ldJl_2 : ldJlP (0, 112, (-9223372036854775808)) := (lc2 17 rfl rfl)
theorem ldJl_3 : ldJlP (9, 314, 6148914691236517205) := (lc2 147 rfl rfl)
theorem ldJl_4 : ldJlP (9, 316, 3689348814741910323) := (lc2 148 rfl rfl)
theorem ldJl_5 : ldJlP (9, 318, 1085102592571150095) := (lc2 149 rfl rfl)
theorem ldJl_c0 : ∀ q ∈ [(1, 73, (-1)), (2, 94, (-1)), (0, 112, (-9223372036854775808)), (9, 314, 6148914691236517205), (9, 316, 3689348814741910323), (9, 318, 1085102592571150095)], ldJlP q := List.forall_mem_cons.mpr ⟨ldJl_0, List.forall_mem_cons.mpr ⟨ldJl_1, List.forall_mem_cons.mpr ⟨ldJl_2, List.forall_mem_cons.mpr ⟨ldJl_3, List.forall_mem_cons.mpr ⟨ldJl_4, List.forall_mem_cons.mpr ⟨ldJl_5, fun _ h => absurd h List.not_mem_nil⟩⟩⟩⟩⟩⟩
set_option maxRecDepth 100000 in
theorem ldJl_ok : ∀ q ∈ ldJl, ldJlP q := by
  show ∀ q ∈ ([(1, 73, (-1)), (2, 94, (-1)), (0, 112, (-9223372036854775808)), (9, 314, 6148914691236517205), (9, 316, 3689348814741910323), (9, 318, 1085102592571150095)] : List (Nat × Nat × Int64)), ldJlP q
  exact ldJl_c0
def ldDlP (q : Nat × Nat × UInt64) : Prop := Jvm.Cond.constantDouble (pCn q.1) q.2.1 q.2.2 ∈ LW
def ldDl : List (Nat × Nat × UInt64) := []
theorem ldDl_ok : ∀ q ∈ ldDl, ldDlP q := fun _ h => absurd h List.not_mem_nil
def nvN (k : Nat) : MethodName := match k with
  | 1000 => arraycopyName
  | 1001 => ⟨"java/lang/Float", "floatToRawIntBits", "(F)I"⟩
  | _ => ⟨"java/lang/Double", "doubleToRawLongBits", "(D)J"⟩
def nlP (q : Nat × Nat × Nat) : Prop := Jvm.Cond.methodLink (pCn q.2.1) q.2.2 (nvN q.1) ∈ LW
def nlL : List (Nat × Nat × Nat) := []
theorem nlL_ok : ∀ q ∈ nlL, nlP q := fun _ h => absurd h List.not_mem_nil
/-- what is so of each method -/
def mwP (c : Nat) : Prop := Jvm.Cond.code (pY c) (pB c) (pM c) (pR c) ∈ LW ∧ Jvm.Cond.initialized (pY c).cls ∈ LW ∧ (pY c).cls = pCn (pO c) ∧ (pS c = true → Jvm.Cond.static (pY c) ∈ LW) ∧ (pS c = false → Jvm.Cond.instanceMethod (pY c) ∈ LW ∧ Jvm.Cond.selects (pY c).cls (pY c) (pY c) ∈ LW) ∧ plainFor (pY c) = true ∧ ((pY c).cls ≠ "java/lang/invoke/MethodHandle" ∧ (pY c).cls ≠ "java/lang/invoke/VarHandle" ∧ (parseMethodDescriptor (pY c).desc).map (fun d => d.parameters.length) = some (pNp c)) ∧ pM c ≤ 21
def mwL : List Nat := [0, 1, 2, 3, 4, 5, 6, 7, 8, 9, 10, 11, 12, 13, 14, 15, 16, 17, 18, 19, 20, 21, 22, 23, 24, 25, 26, 27, 28, 29, 30, 31, 32, 33, 34, 35, 36, 37, 38, 39, 40, 41, 42, 43, 44, 45, 46, 47, 48, 49, 50, 51, 52, 53, 54, 55, 56, 57, 58, 59, 60, 61, 62, 63, 64, 65, 66, 67, 68, 69, 70, 71, 72, 73, 74, 75, 76, 77, 78, 79, 80, 81, 82, 83, 84, 85, 86, 87]
theorem mwL_0 : mwP 0 := ⟨(lc2 37 rfl rfl), (lc1 2 rfl rfl), rfl, (fun e => by cases e), (fun _ => ⟨(lc2 35 rfl rfl), (lc2 36 rfl rfl)⟩), plainFor_of_name (by decide +kernel), ⟨by decide +kernel, by decide +kernel, by decide +kernel⟩, by decide⟩
theorem mwL_1 : mwP 1 := ⟨(lc2 21 rfl rfl), (lc1 2 rfl rfl), rfl, (fun e => by cases e), (fun _ => ⟨(lc2 19 rfl rfl), (lc2 20 rfl rfl)⟩), plainFor_of_name (by decide +kernel), ⟨by decide +kernel, by decide +kernel, by decide +kernel⟩, by decide⟩
theorem mwL_2 : mwP 2 := ⟨(lc2 57 rfl rfl), (lc1 2 rfl rfl), rfl, (fun e => by cases e), (fun _ => ⟨(lc2 55 rfl rfl), (lc2 56 rfl rfl)⟩), plainFor_of_name (by decide +kernel), ⟨by decide +kernel, by decide +kernel, by decide +kernel⟩, by decide⟩
theorem mwL_3 : mwP 3 := ⟨(lc2 63 rfl rfl), (lc1 2 rfl rfl), rfl, (fun e => by cases e), (fun _ => ⟨(lc2 62 rfl rfl), (ls1 0 rfl)⟩), plainFor_of_name (by decide +kernel), ⟨by decide +kernel, by decide +kernel, by decide +kernel⟩, by decide⟩
theorem mwL_4 : mwP 4 := ⟨(lc2 75 rfl rfl), (lc1 2 rfl rfl), rfl, (fun _ => (lc2 74 rfl rfl)), (fun e => by cases e), plainFor_of_name (by decide +kernel), ⟨by decide +kernel, by decide +kernel, by decide +kernel⟩, by decide⟩
theorem mwL_5 : mwP 5 := ⟨(lc2 82 rfl rfl), (lc1 2 rfl rfl), rfl, (fun e => by cases e), (fun _ => ⟨(lc2 80 rfl rfl), (lc2 81 rfl rfl)⟩), plainFor_of_name (by decide +kernel), ⟨by decide +kernel, by decide +kernel, by decide +kernel⟩, by decide⟩
theorem mwL_6 : mwP 6 := ⟨(lc2 86 rfl rfl), (lc1 2 rfl rfl), rfl, (fun e => by cases e), (fun _ => ⟨(lc2 85 rfl rfl), (ls1 1 rfl)⟩), plainFor_of_name (by decide +kernel), ⟨by decide +kernel, by decide +kernel, by decide +kernel⟩, by decide⟩
theorem mwL_7 : mwP 7 := ⟨(lc2 90 rfl rfl), (lc1 2 rfl rfl), rfl, (fun _ => (lc2 89 rfl rfl)), (fun e => by cases e), plainFor_of_name (by decide +kernel), ⟨by decide +kernel, by decide +kernel, by decide +kernel⟩, by decide⟩
theorem mwL_8 : mwP 8 := ⟨(lc2 97 rfl rfl), (lc1 2 rfl rfl), rfl, (fun e => by cases e), (fun _ => ⟨(lc2 96 rfl rfl), (ls1 2 rfl)⟩), plainFor_of_name (by decide +kernel), ⟨by decide +kernel, by decide +kernel, by decide +kernel⟩, by decide⟩
theorem mwL_9 : mwP 9 := ⟨(lc2 101 rfl rfl), (lc1 2 rfl rfl), rfl, (fun e => by cases e), (fun _ => ⟨(lc2 100 rfl rfl), (ls1 3 rfl)⟩), plainFor_of_name (by decide +kernel), ⟨by decide +kernel, by decide +kernel, by decide +kernel⟩, by decide⟩
theorem mwL_10 : mwP 10 := ⟨(lc2 227 rfl rfl), (lc1 3 rfl rfl), rfl, (fun e => by cases e), (fun _ => ⟨(lc2 225 rfl rfl), (lc2 226 rfl rfl)⟩), plainFor_of_name (by decide +kernel), ⟨by decide +kernel, by decide +kernel, by decide +kernel⟩, by decide⟩
theorem mwL_11 : mwP 11 := ⟨(lc2 231 rfl rfl), (lc1 3 rfl rfl), rfl, (fun e => by cases e), (fun _ => ⟨(lc2 229 rfl rfl), (lc2 230 rfl rfl)⟩), plainFor_of_name (by decide +kernel), ⟨by decide +kernel, by decide +kernel, by decide +kernel⟩, by decide⟩
theorem mwL_12 : mwP 12 := ⟨(lc2 235 rfl rfl), (lc1 3 rfl rfl), rfl, (fun e => by cases e), (fun _ => ⟨(lc2 233 rfl rfl), (lc2 234 rfl rfl)⟩), plainFor_of_name (by decide +kernel), ⟨by decide +kernel, by decide +kernel, by decide +kernel⟩, by decide⟩
theorem mwL_13 : mwP 13 := ⟨(lc3 36 rfl rfl), (lc1 3 rfl rfl), rfl, (fun _ => (lc3 35 rfl rfl)), (fun e => by cases e), plainFor_of_name (by decide +kernel), ⟨by decide +kernel, by decide +kernel, by decide +kernel⟩, by decide⟩
theorem mwL_14 : mwP 14 := ⟨(lc3 40 rfl rfl), (lc1 3 rfl rfl), rfl, (fun e => by cases e), (fun _ => ⟨(lc3 38 rfl rfl), (lc3 39 rfl rfl)⟩), plainFor_of_name (by decide +kernel), ⟨by decide +kernel, by decide +kernel, by decide +kernel⟩, by decide⟩
theorem mwL_15 : mwP 15 := ⟨(lc3 46 rfl rfl), (lc1 3 rfl rfl), rfl, (fun e => by cases e), (fun _ => ⟨(lc3 45 rfl rfl), (ls1 15 rfl)⟩), plainFor_of_name (by decide +kernel), ⟨by decide +kernel, by decide +kernel, by decide +kernel⟩, by decide⟩
theorem mwL_16 : mwP 16 := ⟨(lc3 53 rfl rfl), (lc1 3 rfl rfl), rfl, (fun e => by cases e), (fun _ => ⟨(lc3 52 rfl rfl), (ls2 0 rfl)⟩), plainFor_of_name (by decide +kernel), ⟨by decide +kernel, by decide +kernel, by decide +kernel⟩, by decide⟩
theorem mwL_17 : mwP 17 := ⟨(lc3 57 rfl rfl), (lc1 3 rfl rfl), rfl, (fun e => by cases e), (fun _ => ⟨(lc3 56 rfl rfl), (ls2 1 rfl)⟩), plainFor_of_name (by decide +kernel), ⟨by decide +kernel, by decide +kernel, by decide +kernel⟩, by decide⟩
theorem mwL_18 : mwP 18 := ⟨(lc3 64 rfl rfl), (lc1 3 rfl rfl), rfl, (fun e => by cases e), (fun _ => ⟨(lc3 63 rfl rfl), (ls2 2 rfl)⟩), plainFor_of_name (by decide +kernel), ⟨by decide +kernel, by decide +kernel, by decide +kernel⟩, by decide⟩
theorem mwL_19 : mwP 19 := ⟨(lc3 68 rfl rfl), (lc1 3 rfl rfl), rfl, (fun e => by cases e), (fun _ => ⟨(lc3 66 rfl rfl), (lc3 67 rfl rfl)⟩), plainFor_of_name (by decide +kernel), ⟨by decide +kernel, by decide +kernel, by decide +kernel⟩, by decide⟩
theorem mwL_20 : mwP 20 := ⟨(lc2 119 rfl rfl), (lc1 3 rfl rfl), rfl, (fun e => by cases e), (fun _ => ⟨(lc2 118 rfl rfl), (ls1 4 rfl)⟩), plainFor_of_name (by decide +kernel), ⟨by decide +kernel, by decide +kernel, by decide +kernel⟩, by decide⟩
theorem mwL_21 : mwP 21 := ⟨(lc2 115 rfl rfl), (lc1 3 rfl rfl), rfl, (fun e => by cases e), (fun _ => ⟨(lc2 113 rfl rfl), (lc2 114 rfl rfl)⟩), plainFor_of_name (by decide +kernel), ⟨by decide +kernel, by decide +kernel, by decide +kernel⟩, by decide⟩
theorem mwL_22 : mwP 22 := ⟨(lc2 127 rfl rfl), (lc1 3 rfl rfl), rfl, (fun _ => (lc2 126 rfl rfl)), (fun e => by cases e), plainFor_of_name (by decide +kernel), ⟨by decide +kernel, by decide +kernel, by decide +kernel⟩, by decide⟩
theorem mwL_23 : mwP 23 := ⟨(lc3 72 rfl rfl), (lc1 3 rfl rfl), rfl, (fun e => by cases e), (fun _ => ⟨(lc3 70 rfl rfl), (lc3 71 rfl rfl)⟩), plainFor_of_name (by decide +kernel), ⟨by decide +kernel, by decide +kernel, by decide +kernel⟩, by decide⟩
theorem mwL_24 : mwP 24 := ⟨(lc2 139 rfl rfl), (lc1 3 rfl rfl), rfl, (fun e => by cases e), (fun _ => ⟨(lc2 137 rfl rfl), (lc2 138 rfl rfl)⟩), plainFor_of_name (by decide +kernel), ⟨by decide +kernel, by decide +kernel, by decide +kernel⟩, by decide⟩
theorem mwL_25 : mwP 25 := ⟨(lc2 135 rfl rfl), (lc1 3 rfl rfl), rfl, (fun e => by cases e), (fun _ => ⟨(lc2 134 rfl rfl), (ls1 6 rfl)⟩), plainFor_of_name (by decide +kernel), ⟨by decide +kernel, by decide +kernel, by decide +kernel⟩, by decide⟩
theorem mwL_26 : mwP 26 := ⟨(lc2 131 rfl rfl), (lc1 3 rfl rfl), rfl, (fun e => by cases e), (fun _ => ⟨(lc2 130 rfl rfl), (ls1 5 rfl)⟩), plainFor_of_name (by decide +kernel), ⟨by decide +kernel, by decide +kernel, by decide +kernel⟩, by decide⟩
theorem mwL_27 : mwP 27 := ⟨(lc2 124 rfl rfl), (lc1 3 rfl rfl), rfl, (fun e => by cases e), (fun _ => ⟨(lc2 122 rfl rfl), (lc2 123 rfl rfl)⟩), plainFor_of_name (by decide +kernel), ⟨by decide +kernel, by decide +kernel, by decide +kernel⟩, by decide⟩
theorem mwL_28 : mwP 28 := ⟨(lc2 153 rfl rfl), (lc1 3 rfl rfl), rfl, (fun e => by cases e), (fun _ => ⟨(lc2 151 rfl rfl), (lc2 152 rfl rfl)⟩), plainFor_of_name (by decide +kernel), ⟨by decide +kernel, by decide +kernel, by decide +kernel⟩, by decide⟩
theorem mwL_29 : mwP 29 := ⟨(lc2 158 rfl rfl), (lc1 3 rfl rfl), rfl, (fun e => by cases e), (fun _ => ⟨(lc2 156 rfl rfl), (lc2 157 rfl rfl)⟩), plainFor_of_name (by decide +kernel), ⟨by decide +kernel, by decide +kernel, by decide +kernel⟩, by decide⟩
theorem mwL_30 : mwP 30 := ⟨(lc2 177 rfl rfl), (lc1 3 rfl rfl), rfl, (fun e => by cases e), (fun _ => ⟨(lc2 175 rfl rfl), (lc2 176 rfl rfl)⟩), plainFor_of_name (by decide +kernel), ⟨by decide +kernel, by decide +kernel, by decide +kernel⟩, by decide⟩
theorem mwL_31 : mwP 31 := ⟨(lc2 162 rfl rfl), (lc1 3 rfl rfl), rfl, (fun e => by cases e), (fun _ => ⟨(lc2 161 rfl rfl), (ls1 7 rfl)⟩), plainFor_of_name (by decide +kernel), ⟨by decide +kernel, by decide +kernel, by decide +kernel⟩, by decide⟩
theorem mwL_32 : mwP 32 := ⟨(lc2 167 rfl rfl), (lc1 3 rfl rfl), rfl, (fun e => by cases e), (fun _ => ⟨(lc2 166 rfl rfl), (ls1 8 rfl)⟩), plainFor_of_name (by decide +kernel), ⟨by decide +kernel, by decide +kernel, by decide +kernel⟩, by decide⟩
theorem mwL_33 : mwP 33 := ⟨(lc2 171 rfl rfl), (lc1 3 rfl rfl), rfl, (fun e => by cases e), (fun _ => ⟨(lc2 170 rfl rfl), (ls1 9 rfl)⟩), plainFor_of_name (by decide +kernel), ⟨by decide +kernel, by decide +kernel, by decide +kernel⟩, by decide⟩
theorem mwL_34 : mwP 34 := ⟨(lc2 185 rfl rfl), (lc1 3 rfl rfl), rfl, (fun e => by cases e), (fun _ => ⟨(lc2 183 rfl rfl), (lc2 184 rfl rfl)⟩), plainFor_of_name (by decide +kernel), ⟨by decide +kernel, by decide +kernel, by decide +kernel⟩, by decide⟩
theorem mwL_35 : mwP 35 := ⟨(lc2 210 rfl rfl), (lc1 3 rfl rfl), rfl, (fun e => by cases e), (fun _ => ⟨(lc2 208 rfl rfl), (lc2 209 rfl rfl)⟩), plainFor_of_name (by decide +kernel), ⟨by decide +kernel, by decide +kernel, by decide +kernel⟩, by decide⟩
theorem mwL_36 : mwP 36 := ⟨(lc2 202 rfl rfl), (lc1 3 rfl rfl), rfl, (fun e => by cases e), (fun _ => ⟨(lc2 200 rfl rfl), (lc2 201 rfl rfl)⟩), plainFor_of_name (by decide +kernel), ⟨by decide +kernel, by decide +kernel, by decide +kernel⟩, by decide⟩
theorem mwL_37 : mwP 37 := ⟨(lc2 219 rfl rfl), (lc1 3 rfl rfl), rfl, (fun e => by cases e), (fun _ => ⟨(lc2 217 rfl rfl), (lc2 218 rfl rfl)⟩), plainFor_of_name (by decide +kernel), ⟨by decide +kernel, by decide +kernel, by decide +kernel⟩, by decide⟩
theorem mwL_38 : mwP 38 := ⟨(lc2 189 rfl rfl), (lc1 3 rfl rfl), rfl, (fun e => by cases e), (fun _ => ⟨(lc2 188 rfl rfl), (ls1 10 rfl)⟩), plainFor_of_name (by decide +kernel), ⟨by decide +kernel, by decide +kernel, by decide +kernel⟩, by decide⟩
theorem mwL_39 : mwP 39 := ⟨(lc2 194 rfl rfl), (lc1 3 rfl rfl), rfl, (fun e => by cases e), (fun _ => ⟨(lc2 193 rfl rfl), (ls1 11 rfl)⟩), plainFor_of_name (by decide +kernel), ⟨by decide +kernel, by decide +kernel, by decide +kernel⟩, by decide⟩
theorem mwL_40 : mwP 40 := ⟨(lc2 198 rfl rfl), (lc1 3 rfl rfl), rfl, (fun e => by cases e), (fun _ => ⟨(lc2 197 rfl rfl), (ls1 12 rfl)⟩), plainFor_of_name (by decide +kernel), ⟨by decide +kernel, by decide +kernel, by decide +kernel⟩, by decide⟩
theorem mwL_41 : mwP 41 := ⟨(lc2 206 rfl rfl), (lc1 3 rfl rfl), rfl, (fun e => by cases e), (fun _ => ⟨(lc2 205 rfl rfl), (ls1 13 rfl)⟩), plainFor_of_name (by decide +kernel), ⟨by decide +kernel, by decide +kernel, by decide +kernel⟩, by decide⟩
theorem mwL_42 : mwP 42 := ⟨(lc3 7 rfl rfl), (lc1 5 rfl rfl), rfl, (fun e => by cases e), (fun _ => ⟨(lc3 5 rfl rfl), (lc3 6 rfl rfl)⟩), plainFor_of_name (by decide +kernel), ⟨by decide +kernel, by decide +kernel, by decide +kernel⟩, by decide⟩
theorem mwL_43 : mwP 43 := ⟨(lc3 3 rfl rfl), (lc1 5 rfl rfl), rfl, (fun e => by cases e), (fun _ => ⟨(lc3 1 rfl rfl), (lc3 2 rfl rfl)⟩), plainFor_of_name (by decide +kernel), ⟨by decide +kernel, by decide +kernel, by decide +kernel⟩, by decide⟩
theorem mwL_44 : mwP 44 := ⟨(lc2 239 rfl rfl), (lc1 5 rfl rfl), rfl, (fun e => by cases e), (fun _ => ⟨(lc2 237 rfl rfl), (lc2 238 rfl rfl)⟩), plainFor_of_name (by decide +kernel), ⟨by decide +kernel, by decide +kernel, by decide +kernel⟩, by decide⟩
theorem mwL_45 : mwP 45 := ⟨(lc2 16 rfl rfl), (lc1 8 rfl rfl), rfl, (fun _ => (lc2 15 rfl rfl)), (fun e => by cases e), plainFor_of_name (by decide +kernel), ⟨by decide +kernel, by decide +kernel, by decide +kernel⟩, by decide⟩
theorem mwL_46 : mwP 46 := ⟨(lc2 49 rfl rfl), (lc1 8 rfl rfl), rfl, (fun _ => (lc2 48 rfl rfl)), (fun e => by cases e), plainFor_of_name (by decide +kernel), ⟨by decide +kernel, by decide +kernel, by decide +kernel⟩, by decide⟩
theorem mwL_47 : mwP 47 := ⟨(lc2 43 rfl rfl), (lc1 8 rfl rfl), rfl, (fun _ => (lc2 42 rfl rfl)), (fun e => by cases e), plainFor_of_name (by decide +kernel), ⟨by decide +kernel, by decide +kernel, by decide +kernel⟩, by decide⟩
theorem mwL_48 : mwP 48 := ⟨(lc2 25 rfl rfl), (lc1 8 rfl rfl), rfl, (fun _ => (lc2 24 rfl rfl)), (fun e => by cases e), plainFor_of_name (by decide +kernel), ⟨by decide +kernel, by decide +kernel, by decide +kernel⟩, by decide⟩
theorem mwL_49 : mwP 49 := ⟨(lc2 28 rfl rfl), (lc1 8 rfl rfl), rfl, (fun _ => (lc2 27 rfl rfl)), (fun e => by cases e), plainFor_of_name (by decide +kernel), ⟨by decide +kernel, by decide +kernel, by decide +kernel⟩, by decide⟩
theorem mwL_50 : mwP 50 := ⟨(lc2 104 rfl rfl), (lc1 8 rfl rfl), rfl, (fun _ => (lc2 103 rfl rfl)), (fun e => by cases e), plainFor_of_name (by decide +kernel), ⟨by decide +kernel, by decide +kernel, by decide +kernel⟩, by decide⟩
theorem mwL_51 : mwP 51 := ⟨(lc2 68 rfl rfl), (lc1 8 rfl rfl), rfl, (fun _ => (lc2 67 rfl rfl)), (fun e => by cases e), plainFor_of_name (by decide +kernel), ⟨by decide +kernel, by decide +kernel, by decide +kernel⟩, by decide⟩
theorem mwL_52 : mwP 52 := ⟨(lc2 33 rfl rfl), (lc1 8 rfl rfl), rfl, (fun _ => (lc2 32 rfl rfl)), (fun e => by cases e), plainFor_of_name (by decide +kernel), ⟨by decide +kernel, by decide +kernel, by decide +kernel⟩, by decide⟩
theorem mwL_53 : mwP 53 := ⟨(lc2 93 rfl rfl), (lc1 8 rfl rfl), rfl, (fun _ => (lc2 92 rfl rfl)), (fun e => by cases e), plainFor_of_name (by decide +kernel), ⟨by decide +kernel, by decide +kernel, by decide +kernel⟩, by decide⟩
theorem mwL_54 : mwP 54 := ⟨(lc2 40 rfl rfl), (lc1 8 rfl rfl), rfl, (fun _ => (lc2 39 rfl rfl)), (fun e => by cases e), plainFor_of_name (by decide +kernel), ⟨by decide +kernel, by decide +kernel, by decide +kernel⟩, by decide⟩
theorem mwL_55 : mwP 55 := ⟨(lc2 107 rfl rfl), (lc1 8 rfl rfl), rfl, (fun _ => (lc2 106 rfl rfl)), (fun e => by cases e), plainFor_of_name (by decide +kernel), ⟨by decide +kernel, by decide +kernel, by decide +kernel⟩, by decide⟩
theorem mwL_56 : mwP 56 := ⟨(lc3 20 rfl rfl), (lc1 6 rfl rfl), rfl, (fun e => by cases e), (fun _ => ⟨(lc3 18 rfl rfl), (lc3 19 rfl rfl)⟩), plainFor_of_name (by decide +kernel), ⟨by decide +kernel, by decide +kernel, by decide +kernel⟩, by decide⟩
theorem mwL_57 : mwP 57 := ⟨(lc3 12 rfl rfl), (lc1 4 rfl rfl), rfl, (fun e => by cases e), (fun _ => ⟨(lc3 10 rfl rfl), (lc3 11 rfl rfl)⟩), plainFor_of_name (by decide +kernel), ⟨by decide +kernel, by decide +kernel, by decide +kernel⟩, by decide⟩
theorem mwL_58 : mwP 58 := ⟨(lc1 209 rfl rfl), (lc1 7 rfl rfl), rfl, (fun _ => (lc1 208 rfl rfl)), (fun e => by cases e), plainFor_of_name (by decide +kernel), ⟨by decide +kernel, by decide +kernel, by decide +kernel⟩, by decide⟩
theorem mwL_59 : mwP 59 := ⟨(lc1 218 rfl rfl), (lc1 7 rfl rfl), rfl, (fun _ => (lc1 217 rfl rfl)), (fun e => by cases e), plainFor_of_name (by decide +kernel), ⟨by decide +kernel, by decide +kernel, by decide +kernel⟩, by decide⟩
theorem mwL_60 : mwP 60 := ⟨(lc1 227 rfl rfl), (lc1 7 rfl rfl), rfl, (fun _ => (lc1 226 rfl rfl)), (fun e => by cases e), plainFor_of_name (by decide +kernel), ⟨by decide +kernel, by decide +kernel, by decide +kernel⟩, by decide⟩
theorem mwL_61 : mwP 61 := ⟨(lc1 224 rfl rfl), (lc1 7 rfl rfl), rfl, (fun _ => (lc1 223 rfl rfl)), (fun e => by cases e), plainFor_of_name (by decide +kernel), ⟨by decide +kernel, by decide +kernel, by decide +kernel⟩, by decide⟩
theorem mwL_62 : mwP 62 := ⟨(lc3 49 rfl rfl), (lc1 7 rfl rfl), rfl, (fun _ => (lc3 48 rfl rfl)), (fun e => by cases e), plainFor_of_name (by decide +kernel), ⟨by decide +kernel, by decide +kernel, by decide +kernel⟩, by decide⟩
theorem mwL_63 : mwP 63 := ⟨(lc1 221 rfl rfl), (lc1 7 rfl rfl), rfl, (fun _ => (lc1 220 rfl rfl)), (fun e => by cases e), plainFor_of_name (by decide +kernel), ⟨by decide +kernel, by decide +kernel, by decide +kernel⟩, by decide⟩
theorem mwL_64 : mwP 64 := ⟨(lc1 230 rfl rfl), (lc1 7 rfl rfl), rfl, (fun _ => (lc1 229 rfl rfl)), (fun e => by cases e), plainFor_of_name (by decide +kernel), ⟨by decide +kernel, by decide +kernel, by decide +kernel⟩, by decide⟩
theorem mwL_65 : mwP 65 := ⟨(lc1 233 rfl rfl), (lc1 7 rfl rfl), rfl, (fun _ => (lc1 232 rfl rfl)), (fun e => by cases e), plainFor_of_name (by decide +kernel), ⟨by decide +kernel, by decide +kernel, by decide +kernel⟩, by decide⟩
theorem mwL_66 : mwP 66 := ⟨(lc2 0 rfl rfl), (lc1 7 rfl rfl), rfl, (fun _ => (lc1 239 rfl rfl)), (fun e => by cases e), plainFor_of_name (by decide +kernel), ⟨by decide +kernel, by decide +kernel, by decide +kernel⟩, by decide⟩
theorem mwL_67 : mwP 67 := ⟨(lc1 237 rfl rfl), (lc1 7 rfl rfl), rfl, (fun _ => (lc1 236 rfl rfl)), (fun e => by cases e), plainFor_of_name (by decide +kernel), ⟨by decide +kernel, by decide +kernel, by decide +kernel⟩, by decide⟩
theorem mwL_68 : mwP 68 := ⟨(lc2 3 rfl rfl), (lc1 7 rfl rfl), rfl, (fun _ => (lc2 2 rfl rfl)), (fun e => by cases e), plainFor_of_name (by decide +kernel), ⟨by decide +kernel, by decide +kernel, by decide +kernel⟩, by decide⟩
theorem mwL_69 : mwP 69 := ⟨(lc1 206 rfl rfl), (lc1 1 rfl rfl), rfl, (fun e => by cases e), (fun _ => ⟨(lc1 204 rfl rfl), (lc1 205 rfl rfl)⟩), plainFor_of_name (by decide +kernel), ⟨by decide +kernel, by decide +kernel, by decide +kernel⟩, by decide⟩
theorem mwL_70 : mwP 70 := ⟨(lc1 215 rfl rfl), (lc1 1 rfl rfl), rfl, (fun e => by cases e), (fun _ => ⟨(lc1 213 rfl rfl), (lc1 214 rfl rfl)⟩), plainFor_of_name (by decide +kernel), ⟨by decide +kernel, by decide +kernel, by decide +kernel⟩, by decide⟩
theorem mwL_71 : mwP 71 := ⟨(lc2 8 rfl rfl), (lc1 1 rfl rfl), rfl, (fun e => by cases e), (fun _ => ⟨(lc2 6 rfl rfl), (lc2 7 rfl rfl)⟩), plainFor_of_name (by decide +kernel), ⟨by decide +kernel, by decide +kernel, by decide +kernel⟩, by decide⟩
theorem mwL_72 : mwP 72 := ⟨(lc2 13 rfl rfl), (lc1 1 rfl rfl), rfl, (fun e => by cases e), (fun _ => ⟨(lc2 11 rfl rfl), (lc2 12 rfl rfl)⟩), plainFor_of_name (by decide +kernel), ⟨by decide +kernel, by decide +kernel, by decide +kernel⟩, by decide⟩
theorem mwL_73 : mwP 73 := ⟨(lc2 53 rfl rfl), (lc1 1 rfl rfl), rfl, (fun e => by cases e), (fun _ => ⟨(lc2 51 rfl rfl), (lc2 52 rfl rfl)⟩), plainFor_of_name (by decide +kernel), ⟨by decide +kernel, by decide +kernel, by decide +kernel⟩, by decide⟩
theorem mwL_74 : mwP 74 := ⟨(lc2 72 rfl rfl), (lc1 1 rfl rfl), rfl, (fun e => by cases e), (fun _ => ⟨(lc2 70 rfl rfl), (lc2 71 rfl rfl)⟩), plainFor_of_name (by decide +kernel), ⟨by decide +kernel, by decide +kernel, by decide +kernel⟩, by decide⟩
theorem mwL_75 : mwP 75 := ⟨(lc2 78 rfl rfl), (lc1 1 rfl rfl), rfl, (fun _ => (lc2 77 rfl rfl)), (fun e => by cases e), plainFor_of_name (by decide +kernel), ⟨by decide +kernel, by decide +kernel, by decide +kernel⟩, by decide⟩
theorem mwL_76 : mwP 76 := ⟨(lc3 33 rfl rfl), (lc1 1 rfl rfl), rfl, (fun e => by cases e), (fun _ => ⟨(lc3 31 rfl rfl), (lc3 32 rfl rfl)⟩), plainFor_of_name (by decide +kernel), ⟨by decide +kernel, by decide +kernel, by decide +kernel⟩, by decide⟩
theorem mwL_77 : mwP 77 := ⟨(lc2 111 rfl rfl), (lc1 1 rfl rfl), rfl, (fun e => by cases e), (fun _ => ⟨(lc2 109 rfl rfl), (lc2 110 rfl rfl)⟩), plainFor_of_name (by decide +kernel), ⟨by decide +kernel, by decide +kernel, by decide +kernel⟩, by decide⟩
theorem mwL_78 : mwP 78 := ⟨(lc2 143 rfl rfl), (lc1 1 rfl rfl), rfl, (fun e => by cases e), (fun _ => ⟨(lc2 141 rfl rfl), (lc2 142 rfl rfl)⟩), plainFor_of_name (by decide +kernel), ⟨by decide +kernel, by decide +kernel, by decide +kernel⟩, by decide⟩
theorem mwL_79 : mwP 79 := ⟨(lc2 181 rfl rfl), (lc1 1 rfl rfl), rfl, (fun e => by cases e), (fun _ => ⟨(lc2 179 rfl rfl), (lc2 180 rfl rfl)⟩), plainFor_of_name (by decide +kernel), ⟨by decide +kernel, by decide +kernel, by decide +kernel⟩, by decide⟩
theorem mwL_80 : mwP 80 := ⟨(lc2 215 rfl rfl), (lc1 1 rfl rfl), rfl, (fun e => by cases e), (fun _ => ⟨(lc2 213 rfl rfl), (lc2 214 rfl rfl)⟩), plainFor_of_name (by decide +kernel), ⟨by decide +kernel, by decide +kernel, by decide +kernel⟩, by decide⟩
theorem mwL_81 : mwP 81 := ⟨(lc2 223 rfl rfl), (lc1 1 rfl rfl), rfl, (fun e => by cases e), (fun _ => ⟨(lc2 221 rfl rfl), (lc2 222 rfl rfl)⟩), plainFor_of_name (by decide +kernel), ⟨by decide +kernel, by decide +kernel, by decide +kernel⟩, by decide⟩
theorem mwL_82 : mwP 82 := ⟨(lc3 16 rfl rfl), (lc1 1 rfl rfl), rfl, (fun e => by cases e), (fun _ => ⟨(lc3 15 rfl rfl), (ls1 14 rfl)⟩), plainFor_of_name (by decide +kernel), ⟨by decide +kernel, by decide +kernel, by decide +kernel⟩, by decide⟩
theorem mwL_83 : mwP 83 := ⟨(lc2 146 rfl rfl), (lc1 9 rfl rfl), rfl, (fun _ => (lc2 145 rfl rfl)), (fun e => by cases e), plainFor_of_name (by decide +kernel), ⟨by decide +kernel, by decide +kernel, by decide +kernel⟩, by decide⟩
theorem mwL_84 : mwP 84 := ⟨(lc3 75 rfl rfl), (lc1 10 rfl rfl), rfl, (fun _ => (lc3 74 rfl rfl)), (fun e => by cases e), by decide +kernel, ⟨by decide +kernel, by decide +kernel, by decide +kernel⟩, by decide⟩
theorem mwL_85 : mwP 85 := ⟨(lc3 60 rfl rfl), (lc1 10 rfl rfl), rfl, (fun _ => (lc3 59 rfl rfl)), (fun e => by cases e), by decide +kernel, ⟨by decide +kernel, by decide +kernel, by decide +kernel⟩, by decide⟩
theorem mwL_86 : mwP 86 := ⟨(lc2 46 rfl rfl), (lc1 10 rfl rfl), rfl, (fun _ => (lc2 45 rfl rfl)), (fun e => by cases e), by decide +kernel, ⟨by decide +kernel, by decide +kernel, by decide +kernel⟩, by decide⟩
theorem mwL_87 : mwP 87 := ⟨(lc3 78 rfl rfl), (lc1 0 rfl rfl), rfl, (fun _ => (lc3 77 rfl rfl)), (fun e => by cases e), plainFor_of_name (by decide +kernel), ⟨by decide +kernel, by decide +kernel, by decide +kernel⟩, by decide⟩
theorem mwL_c0 : ∀ q ∈ [0, 1, 2, 3, 4, 5, 6, 7, 8, 9, 10, 11, 12, 13, 14, 15, 16, 17, 18, 19, 20, 21, 22, 23], mwP q := List.forall_mem_cons.mpr ⟨mwL_0, List.forall_mem_cons.mpr ⟨mwL_1, List.forall_mem_cons.mpr ⟨mwL_2, List.forall_mem_cons.mpr ⟨mwL_3, List.forall_mem_cons.mpr ⟨mwL_4, List.forall_mem_cons.mpr ⟨mwL_5, List.forall_mem_cons.mpr ⟨mwL_6, List.forall_mem_cons.mpr ⟨mwL_7, List.forall_mem_cons.mpr ⟨mwL_8, List.forall_mem_cons.mpr ⟨mwL_9, List.forall_mem_cons.mpr ⟨mwL_10, List.forall_mem_cons.mpr ⟨mwL_11, List.forall_mem_cons.mpr ⟨mwL_12, List.forall_mem_cons.mpr ⟨mwL_13, List.forall_mem_cons.mpr ⟨mwL_14, List.forall_mem_cons.mpr ⟨mwL_15, List.forall_mem_cons.mpr ⟨mwL_16, List.forall_mem_cons.mpr ⟨mwL_17, List.forall_mem_cons.mpr ⟨mwL_18, List.forall_mem_cons.mpr ⟨mwL_19, List.forall_mem_cons.mpr ⟨mwL_20, List.forall_mem_cons.mpr ⟨mwL_21, List.forall_mem_cons.mpr ⟨mwL_22, List.forall_mem_cons.mpr ⟨mwL_23, fun _ h => absurd h List.not_mem_nil⟩⟩⟩⟩⟩⟩⟩⟩⟩⟩⟩⟩⟩⟩⟩⟩⟩⟩⟩⟩⟩⟩⟩⟩
theorem mwL_c1 : ∀ q ∈ [24, 25, 26, 27, 28, 29, 30, 31, 32, 33, 34, 35, 36, 37, 38, 39, 40, 41, 42, 43, 44, 45, 46, 47], mwP q := List.forall_mem_cons.mpr ⟨mwL_24, List.forall_mem_cons.mpr ⟨mwL_25, List.forall_mem_cons.mpr ⟨mwL_26, List.forall_mem_cons.mpr ⟨mwL_27, List.forall_mem_cons.mpr ⟨mwL_28, List.forall_mem_cons.mpr ⟨mwL_29, List.forall_mem_cons.mpr ⟨mwL_30, List.forall_mem_cons.mpr ⟨mwL_31, List.forall_mem_cons.mpr ⟨mwL_32, List.forall_mem_cons.mpr ⟨mwL_33, List.forall_mem_cons.mpr ⟨mwL_34, List.forall_mem_cons.mpr ⟨mwL_35, List.forall_mem_cons.mpr ⟨mwL_36, List.forall_mem_cons.mpr ⟨mwL_37, List.forall_mem_cons.mpr ⟨mwL_38, List.forall_mem_cons.mpr ⟨mwL_39, List.forall_mem_cons.mpr ⟨mwL_40, List.forall_mem_cons.mpr ⟨mwL_41, List.forall_mem_cons.mpr ⟨mwL_42, List.forall_mem_cons.mpr ⟨mwL_43, List.forall_mem_cons.mpr ⟨mwL_44, List.forall_mem_cons.mpr ⟨mwL_45, List.forall_mem_cons.mpr ⟨mwL_46, List.forall_mem_cons.mpr ⟨mwL_47, fun _ h => absurd h List.not_mem_nil⟩⟩⟩⟩⟩⟩⟩⟩⟩⟩⟩⟩⟩⟩⟩⟩⟩⟩⟩⟩⟩⟩⟩⟩
theorem mwL_c2 : ∀ q ∈ [48, 49, 50, 51, 52, 53, 54, 55, 56, 57, 58, 59, 60, 61, 62, 63, 64, 65, 66, 67, 68, 69, 70, 71], mwP q := List.forall_mem_cons.mpr ⟨mwL_48, List.forall_mem_cons.mpr ⟨mwL_49, List.forall_mem_cons.mpr ⟨mwL_50, List.forall_mem_cons.mpr ⟨mwL_51, List.forall_mem_cons.mpr ⟨mwL_52, List.forall_mem_cons.mpr ⟨mwL_53, List.forall_mem_cons.mpr ⟨mwL_54, List.forall_mem_cons.mpr ⟨mwL_55, List.forall_mem_cons.mpr ⟨mwL_56, List.forall_mem_cons.mpr ⟨mwL_57, List.forall_mem_cons.mpr ⟨mwL_58, List.forall_mem_cons.mpr ⟨mwL_59, List.forall_mem_cons.mpr ⟨mwL_60, List.forall_mem_cons.mpr ⟨mwL_61, List.forall_mem_cons.mpr ⟨mwL_62, List.forall_mem_cons.mpr ⟨mwL_63, List.forall_mem_cons.mpr ⟨mwL_64, List.forall_mem_cons.mpr ⟨mwL_65, List.forall_mem_cons.mpr ⟨mwL_66, List.forall_mem_cons.mpr ⟨mwL_67, List.forall_mem_cons.mpr ⟨mwL_68, List.forall_mem_cons.mpr ⟨mwL_69, List.forall_mem_cons.mpr ⟨mwL_70, List.forall_mem_cons.mpr ⟨mwL_71, fun _ h => absurd h List.not_mem_nil⟩⟩⟩⟩⟩⟩⟩⟩⟩⟩⟩⟩⟩⟩⟩⟩⟩⟩⟩⟩⟩⟩⟩⟩
theorem mwL_c3 : ∀ q ∈ [72, 73, 74, 75, 76, 77, 78, 79, 80, 81, 82, 83, 84, 85, 86, 87], mwP q := List.forall_mem_cons.mpr ⟨mwL_72, List.forall_mem_cons.mpr ⟨mwL_73, List.forall_mem_cons.mpr ⟨mwL_74, List.forall_mem_cons.mpr ⟨mwL_75, List.forall_mem_cons.mpr ⟨mwL_76, List.forall_mem_cons.mpr ⟨mwL_77, List.forall_mem_cons.mpr ⟨mwL_78, List.forall_mem_cons.mpr ⟨mwL_79, List.forall_mem_cons.mpr ⟨mwL_80, List.forall_mem_cons.mpr ⟨mwL_81, List.forall_mem_cons.mpr ⟨mwL_82, List.forall_mem_cons.mpr ⟨mwL_83, List.forall_mem_cons.mpr ⟨mwL_84, List.forall_mem_cons.mpr ⟨mwL_85, List.forall_mem_cons.mpr ⟨mwL_86, List.forall_mem_cons.mpr ⟨mwL_87, fun _ h => absurd h List.not_mem_nil⟩⟩⟩⟩⟩⟩⟩⟩⟩⟩⟩⟩⟩⟩⟩⟩
set_option maxRecDepth 100000 in
theorem mwL_ok : ∀ q ∈ mwL, mwP q := by
  show ∀ q ∈ ([0, 1, 2, 3, 4, 5, 6, 7, 8, 9, 10, 11, 12, 13, 14, 15, 16, 17, 18, 19, 20, 21, 22, 23] ++ ([24, 25, 26, 27, 28, 29, 30, 31, 32, 33, 34, 35, 36, 37, 38, 39, 40, 41, 42, 43, 44, 45, 46, 47] ++ ([48, 49, 50, 51, 52, 53, 54, 55, 56, 57, 58, 59, 60, 61, 62, 63, 64, 65, 66, 67, 68, 69, 70, 71] ++ ([72, 73, 74, 75, 76, 77, 78, 79, 80, 81, 82, 83, 84, 85, 86, 87]))) : List Nat), mwP q
  exact List.forall_mem_append.mpr ⟨mwL_c0, List.forall_mem_append.mpr ⟨mwL_c1, List.forall_mem_append.mpr ⟨mwL_c2, mwL_c3⟩⟩⟩
theorem mw_all {c : Nat} (h : c < NM) : mwP c := mwL_ok c (by
  have h1 : mwL = List.range 88 := by decide +kernel
  rw [h1]; exact List.mem_range.mpr h)
theorem cl_at {c : Nat} (h : c < 6) : cl[c]? = some (pC c, fTl c, cN c) := by
  rcases (show c = 0 ∨ c = 1 ∨ c = 2 ∨ c = 3 ∨ c = 4 ∨ c = 5 by omega) with rfl | rfl | rfl | rfl | rfl | rfl <;> rfl
theorem fYl_ok {c : Nat} (h : c < 6) : ∀ k, k < cN c → parseFieldDescriptor (fTl c k).2.2.1 = some (fYl c k) := by
  rcases (show c = 0 ∨ c = 1 ∨ c = 2 ∨ c = 3 ∨ c = 4 ∨ c = 5 by omega) with rfl | rfl | rfl | rfl | rfl | rfl
  · exact fYok0
  · exact fYok1
  · exact fYok2
  · exact fYok3
  · exact fYok4
  · exact fYok5
theorem fNm_ok {c : Nat} (h : c < 6) : ∀ a, a < cN c → ∀ b, b < cN c → a ≠ b → (fTl c a).2.1 ≠ (fTl c b).2.1 := by
  rcases (show c = 0 ∨ c = 1 ∨ c = 2 ∨ c = 3 ∨ c = 4 ∨ c = 5 by omega) with rfl | rfl | rfl | rfl | rfl | rfl
  · exact fNm0
  · exact fNm1
  · exact fNm2
  · exact fNm3
  · exact fNm4
  · exact fNm5
def pcs (pc : Nat) (off : Int) (t : Nat) : Bool := decide ((pc : Int) + off = (t : Int))
def swo (pc : Nat) : List Int → List Nat → Bool
  | [], [] => true
  | o :: os, t :: ts => pcs pc o t && swo pc os ts
  | _, _ => false
def okI (id pc : Nat) (i : Instr) (len : Nat) (ops : List Nat) (v : Value) : Bool := match i with
  | .iconst n => decide (len = 1) && decide (v = .int (Int32.ofInt n))
  | .bipush n => decide (len = 2) && decide (v = .int (Int8.ofInt n).toInt32)
  | .sipush n => decide (len = 3) && decide (v = .int (Int16.ofInt n).toInt32)
  | .lconst n => decide (len = 1) && decide (v = .long (Int64.ofNat (n : Nat)))
  | .fconst n => decide (len = 1) && (match n with
    | 0 => decide (v = .float FP.fconst0)
    | 1 => decide (v = .float FP.fconst1)
    | 2 => decide (v = .float FP.fconst2))
  | .dconst n => decide (len = 1) && (match n with
    | 0 => decide (v = .double FP.dconst0)
    | 1 => decide (v = .double FP.dconst1))
  | .ldc ix => decide (len = 2) && (match v with
    | .int x => decide (ldIl[o0 ops]? = some (pO id, ix, x))
    | .float x => decide (ldFl[o0 ops]? = some (pO id, ix, x))
    | _ => false)
  | .ldc_w ix => decide (len = 3) && (match v with
    | .int x => decide (ldIl[o0 ops]? = some (pO id, ix, x))
    | .float x => decide (ldFl[o0 ops]? = some (pO id, ix, x))
    | _ => false)
  | .ldc2_w ix => decide (len = 3) && (match v with
    | .long x => decide (ldJl[o0 ops]? = some (pO id, ix, x))
    | .double x => decide (ldDl[o0 ops]? = some (pO id, ix, x))
    | _ => false)
  | .iload_n k | .lload_n k | .fload_n k | .dload_n k | .aload_n k => decide (len = 1) && decide ((k : Nat) = o0 ops)
  | .iload k | .lload k | .fload k | .dload k | .aload k => decide (len = 2) && decide (k = o0 ops)
  | .istore_n k | .fstore_n k | .astore_n k => decide (len = 1) && (decide ((k : Nat) = o0 ops) && decide (o0 ops < pM id))
  | .istore k | .fstore k | .astore k => decide (len = 2) && (decide (k = o0 ops) && decide (o0 ops < pM id))
  | .lstore_n k | .dstore_n k => decide (len = 1) && (decide ((k : Nat) = o0 ops) && decide (o0 ops + 1 < pM id))
  | .lstore k | .dstore k => decide (len = 2) && (decide (k = o0 ops) && decide (o0 ops + 1 < pM id))
  | .iinc k n => decide (len = 3) && (decide (k = o0 ops) && (decide (o0 ops < pM id) && decide (v = .int (Int32.ofInt n))))
  | .ifCond _ off | .if_icmp _ off | .goto off | .ifnull off | .ifnonnull off => decide (len = 3) && pcs pc off (o0 ops)
  | .tableswitch d lo hi offs => (match v, ops with
    | .int x, t :: ts => pcs pc d t && (decide (x = 0) && (decide (lo = 0) && (decide ((offs.toList.length : Int) = hi + 1) && (swo pc offs.toList ts && decide (hi < 1000)))))
    | _, _ => false)
  | .getfield ix => decide (len = 3) && (decide (o0 ops < 6) && (decide (o1 ops < cN (o0 ops)) && (decide (isR (o0 ops) (o1 ops) = Nat.beq (o3 ops) 1) && decide (flL[o2 ops]? = some (pO id, ix, o0 ops, o1 ops)))))
  | .putfield ix => decide (len = 3) && (decide (o0 ops < 6) && (decide (o1 ops < cN (o0 ops)) && (decide (isR (o0 ops) (o1 ops) = false) && (decide (fYl (o0 ops) (o1 ops) = bif Nat.beq (o3 ops) 1 then .boolean else .int) && (decide ((fTl (o0 ops) (o1 ops)).2.2.2 = false) && decide (flL[o2 ops]? = some (pO id, ix, o0 ops, o1 ops)))))))
  | .getstatic ix => decide (len = 3) && decide (gsL[o0 ops]? = some (pO id, ix))
  | .invokevirtual ix => decide (len = 3) && (match ops with
    | [c, n, rt, ci, mx, wl] => decide (mx = pM c) && (decide (ci < 6) && (decide (pO c = ciO ci) && (decide (mlL[wl]? = some (pO id, ix, c)) && (decide (n = pNp c) && (decide (pS c = false) && (decide (c < NM) && Nat.ble rt 6))))))
    | _ => false)
  | .invokestatic ix => decide (len = 3) && (match ops with
    | [c, n, rt, _, mx, wl] => bif Nat.ble 1000 c then decide (nlL[wl]? = some (c, pO id, ix)) && (decide (c < 1003) && Nat.ble rt 6)
      else decide (mx = pM c) && (decide (mlL[wl]? = some (pO id, ix, c)) && (decide (n = pNp c) && (decide (pS c = true) && (decide (c < NM) && Nat.ble rt 6))))
    | _ => false)
  | .ireturn => decide (len = 1) && decide (pR id = bif Nat.beq (o0 ops) 1 then some .boolean else some .int)
  | .lreturn => decide (len = 1) && decide (pR id = some .long)
  | .freturn => decide (len = 1) && decide (pR id = some .float)
  | .dreturn => decide (len = 1) && decide (pR id = some .double)
  | .areturn => decide (len = 1) && (match pR id with
    | some (.object _) => true
    | some (.array _) => true
    | _ => false)
  | .return_ => decide (len = 1) && decide (pR id = none)
  | .aconst_null | .iadd | .isub | .imul | .iand | .ior | .idiv | .irem | .ishl | .ladd | .lsub | .lmul | .land | .lor | .lxor | .lrem | .lshl | .lshr | .lushr | .i2l | .l2i | .i2f | .i2d | .l2d | .d2l | .d2i | .f2i | .f2d | .dneg | .lcmp | .fcmp _ | .dcmp _ | .fadd | .fmul | .fdiv | .dadd | .dsub | .dmul | .ddiv | .dup | .dup2 | .iaload | .baload | .laload | .aaload | .iastore | .bastore | .lastore | .arraylength => decide (len = 1)
  | _ => false
def okAt (id pc : Nat) : Bool := match pF id pc with
  | none => true
  | some (i, len, ops, v) => decide (decode (pB id) pc = .ok (i, len)) && okI id pc i len ops v
theorem okM0 : ((List.range 220).all fun k => okAt 0 k) = true := by decide +kernel
theorem okM1 : ((List.range 220).all fun k => okAt 1 k) = true := by decide +kernel
theorem okM2 : ((List.range 220).all fun k => okAt 2 k) = true := by decide +kernel
theorem okM3 : ((List.range 220).all fun k => okAt 3 k) = true := by decide +kernel
theorem okM4 : ((List.range 220).all fun k => okAt 4 k) = true := by decide +kernel
theorem okM5 : ((List.range 220).all fun k => okAt 5 k) = true := by decide +kernel
theorem okM6 : ((List.range 220).all fun k => okAt 6 k) = true := by decide +kernel
theorem okM7 : ((List.range 220).all fun k => okAt 7 k) = true := by decide +kernel
theorem okM8 : ((List.range 220).all fun k => okAt 8 k) = true := by decide +kernel
theorem okM9 : ((List.range 220).all fun k => okAt 9 k) = true := by decide +kernel
theorem okM10 : ((List.range 220).all fun k => okAt 10 k) = true := by decide +kernel
theorem okM11 : ((List.range 220).all fun k => okAt 11 k) = true := by decide +kernel
theorem okM12 : ((List.range 220).all fun k => okAt 12 k) = true := by decide +kernel
theorem okM13 : ((List.range 220).all fun k => okAt 13 k) = true := by decide +kernel
theorem okM14 : ((List.range 220).all fun k => okAt 14 k) = true := by decide +kernel
theorem okM15 : ((List.range 220).all fun k => okAt 15 k) = true := by decide +kernel
theorem okM16 : ((List.range 220).all fun k => okAt 16 k) = true := by decide +kernel
theorem okM17 : ((List.range 220).all fun k => okAt 17 k) = true := by decide +kernel
theorem okM18 : ((List.range 220).all fun k => okAt 18 k) = true := by decide +kernel
theorem okM19 : ((List.range 220).all fun k => okAt 19 k) = true := by decide +kernel
theorem okM20 : ((List.range 220).all fun k => okAt 20 k) = true := by decide +kernel
theorem okM21 : ((List.range 220).all fun k => okAt 21 k) = true := by decide +kernel
theorem okM22 : ((List.range 220).all fun k => okAt 22 k) = true := by decide +kernel
theorem okM23 : ((List.range 220).all fun k => okAt 23 k) = true := by decide +kernel
theorem okM24 : ((List.range 220).all fun k => okAt 24 k) = true := by decide +kernel
theorem okM25 : ((List.range 220).all fun k => okAt 25 k) = true := by decide +kernel
theorem okM26 : ((List.range 220).all fun k => okAt 26 k) = true := by decide +kernel
theorem okM27 : ((List.range 220).all fun k => okAt 27 k) = true := by decide +kernel
theorem okM28 : ((List.range 220).all fun k => okAt 28 k) = true := by decide +kernel
theorem okM29 : ((List.range 220).all fun k => okAt 29 k) = true := by decide +kernel
theorem okM30 : ((List.range 220).all fun k => okAt 30 k) = true := by decide +kernel
theorem okM31 : ((List.range 220).all fun k => okAt 31 k) = true := by decide +kernel
theorem okM32 : ((List.range 220).all fun k => okAt 32 k) = true := by decide +kernel
theorem okM33 : ((List.range 220).all fun k => okAt 33 k) = true := by decide +kernel
theorem okM34 : ((List.range 220).all fun k => okAt 34 k) = true := by decide +kernel
theorem okM35 : ((List.range 220).all fun k => okAt 35 k) = true := by decide +kernel
theorem okM36 : ((List.range 220).all fun k => okAt 36 k) = true := by decide +kernel
theorem okM37 : ((List.range 220).all fun k => okAt 37 k) = true := by decide +kernel
theorem okM38 : ((List.range 220).all fun k => okAt 38 k) = true := by decide +kernel
theorem okM39 : ((List.range 220).all fun k => okAt 39 k) = true := by decide +kernel
theorem okM40 : ((List.range 220).all fun k => okAt 40 k) = true := by decide +kernel
theorem okM41 : ((List.range 220).all fun k => okAt 41 k) = true := by decide +kernel
theorem okM42 : ((List.range 220).all fun k => okAt 42 k) = true := by decide +kernel
theorem okM43 : ((List.range 220).all fun k => okAt 43 k) = true := by decide +kernel
theorem okM44 : ((List.range 220).all fun k => okAt 44 k) = true := by decide +kernel
theorem okM45 : ((List.range 220).all fun k => okAt 45 k) = true := by decide +kernel
theorem okM46 : ((List.range 220).all fun k => okAt 46 k) = true := by decide +kernel
theorem okM47 : ((List.range 220).all fun k => okAt 47 k) = true := by decide +kernel
theorem okM48 : ((List.range 220).all fun k => okAt 48 k) = true := by decide +kernel
theorem okM49 : ((List.range 220).all fun k => okAt 49 k) = true := by decide +kernel
theorem okM50 : ((List.range 220).all fun k => okAt 50 k) = true := by decide +kernel
theorem okM51 : ((List.range 220).all fun k => okAt 51 k) = true := by decide +kernel
theorem okM52 : ((List.range 220).all fun k => okAt 52 k) = true := by decide +kernel
theorem okM53 : ((List.range 220).all fun k => okAt 53 k) = true := by decide +kernel
theorem okM54 : ((List.range 220).all fun k => okAt 54 k) = true := by decide +kernel
theorem okM55 : ((List.range 220).all fun k => okAt 55 k) = true := by decide +kernel
theorem okM56 : ((List.range 220).all fun k => okAt 56 k) = true := by decide +kernel
theorem okM57 : ((List.range 220).all fun k => okAt 57 k) = true := by decide +kernel
theorem okM58 : ((List.range 220).all fun k => okAt 58 k) = true := by decide +kernel
theorem okM59 : ((List.range 220).all fun k => okAt 59 k) = true := by decide +kernel
theorem okM60 : ((List.range 220).all fun k => okAt 60 k) = true := by decide +kernel
theorem okM61 : ((List.range 220).all fun k => okAt 61 k) = true := by decide +kernel
theorem okM62 : ((List.range 220).all fun k => okAt 62 k) = true := by decide +kernel
theorem okM63 : ((List.range 220).all fun k => okAt 63 k) = true := by decide +kernel
theorem okM64 : ((List.range 220).all fun k => okAt 64 k) = true := by decide +kernel
theorem okM65 : ((List.range 220).all fun k => okAt 65 k) = true := by decide +kernel
theorem okM66 : ((List.range 220).all fun k => okAt 66 k) = true := by decide +kernel
theorem okM67 : ((List.range 220).all fun k => okAt 67 k) = true := by decide +kernel
theorem okM68 : ((List.range 220).all fun k => okAt 68 k) = true := by decide +kernel
theorem okM69 : ((List.range 220).all fun k => okAt 69 k) = true := by decide +kernel
theorem okM70 : ((List.range 220).all fun k => okAt 70 k) = true := by decide +kernel
theorem okM71 : ((List.range 220).all fun k => okAt 71 k) = true := by decide +kernel
theorem okM72 : ((List.range 220).all fun k => okAt 72 k) = true := by decide +kernel
theorem okM73 : ((List.range 220).all fun k => okAt 73 k) = true := by decide +kernel
theorem okM74 : ((List.range 220).all fun k => okAt 74 k) = true := by decide +kernel
theorem okM75 : ((List.range 220).all fun k => okAt 75 k) = true := by decide +kernel
theorem okM76 : ((List.range 220).all fun k => okAt 76 k) = true := by decide +kernel
theorem okM77 : ((List.range 220).all fun k => okAt 77 k) = true := by decide +kernel
theorem okM78 : ((List.range 220).all fun k => okAt 78 k) = true := by decide +kernel
theorem okM79 : ((List.range 220).all fun k => okAt 79 k) = true := by decide +kernel
theorem okM80 : ((List.range 220).all fun k => okAt 80 k) = true := by decide +kernel
theorem okM81 : ((List.range 220).all fun k => okAt 81 k) = true := by decide +kernel
theorem okM82 : ((List.range 220).all fun k => okAt 82 k) = true := by decide +kernel
theorem okM83 : ((List.range 220).all fun k => okAt 83 k) = true := by decide +kernel
theorem okM84 : ((List.range 220).all fun k => okAt 84 k) = true := by decide +kernel
theorem okM85 : ((List.range 220).all fun k => okAt 85 k) = true := by decide +kernel
theorem okM86 : ((List.range 220).all fun k => okAt 86 k) = true := by decide +kernel
theorem okM87 : ((List.range 220).all fun k => okAt 87 k) = true := by decide +kernel
def okT (i : Nat) : Prop := ((List.range 220).all fun k => okAt i k) = true
theorem okM_c0 : ∀ q ∈ [0, 1, 2, 3, 4, 5, 6, 7, 8, 9, 10, 11, 12, 13, 14, 15, 16, 17, 18, 19, 20, 21, 22, 23], okT q := List.forall_mem_cons.mpr ⟨okM0, List.forall_mem_cons.mpr ⟨okM1, List.forall_mem_cons.mpr ⟨okM2, List.forall_mem_cons.mpr ⟨okM3, List.forall_mem_cons.mpr ⟨okM4, List.forall_mem_cons.mpr ⟨okM5, List.forall_mem_cons.mpr ⟨okM6, List.forall_mem_cons.mpr ⟨okM7, List.forall_mem_cons.mpr ⟨okM8, List.forall_mem_cons.mpr ⟨okM9, List.forall_mem_cons.mpr ⟨okM10, List.forall_mem_cons.mpr ⟨okM11, List.forall_mem_cons.mpr ⟨okM12, List.forall_mem_cons.mpr ⟨okM13, List.forall_mem_cons.mpr ⟨okM14, List.forall_mem_cons.mpr ⟨okM15, List.forall_mem_cons.mpr ⟨okM16, List.forall_mem_cons.mpr ⟨okM17, List.forall_mem_cons.mpr ⟨okM18, List.forall_mem_cons.mpr ⟨okM19, List.forall_mem_cons.mpr ⟨okM20, List.forall_mem_cons.mpr ⟨okM21, List.forall_mem_cons.mpr ⟨okM22, List.forall_mem_cons.mpr ⟨okM23, fun _ h => absurd h List.not_mem_nil⟩⟩⟩⟩⟩⟩⟩⟩⟩⟩⟩⟩⟩⟩⟩⟩⟩⟩⟩⟩⟩⟩⟩⟩
theorem okM_c1 : ∀ q ∈ [24, 25, 26, 27, 28, 29, 30, 31, 32, 33, 34, 35, 36, 37, 38, 39, 40, 41, 42, 43, 44, 45, 46, 47], okT q := List.forall_mem_cons.mpr ⟨okM24, List.forall_mem_cons.mpr ⟨okM25, List.forall_mem_cons.mpr ⟨okM26, List.forall_mem_cons.mpr ⟨okM27, List.forall_mem_cons.mpr ⟨okM28, List.forall_mem_cons.mpr ⟨okM29, List.forall_mem_cons.mpr ⟨okM30, List.forall_mem_cons.mpr ⟨okM31, List.forall_mem_cons.mpr ⟨okM32, List.forall_mem_cons.mpr ⟨okM33, List.forall_mem_cons.mpr ⟨okM34, List.forall_mem_cons.mpr ⟨okM35, List.forall_mem_cons.mpr ⟨okM36, List.forall_mem_cons.mpr ⟨okM37, List.forall_mem_cons.mpr ⟨okM38, List.forall_mem_cons.mpr ⟨okM39, List.forall_mem_cons.mpr ⟨okM40, List.forall_mem_cons.mpr ⟨okM41, List.forall_mem_cons.mpr ⟨okM42, List.forall_mem_cons.mpr ⟨okM43, List.forall_mem_cons.mpr ⟨okM44, List.forall_mem_cons.mpr ⟨okM45, List.forall_mem_cons.mpr ⟨okM46, List.forall_mem_cons.mpr ⟨okM47, fun _ h => absurd h List.not_mem_nil⟩⟩⟩⟩⟩⟩⟩⟩⟩⟩⟩⟩⟩⟩⟩⟩⟩⟩⟩⟩⟩⟩⟩⟩
theorem okM_c2 : ∀ q ∈ [48, 49, 50, 51, 52, 53, 54, 55, 56, 57, 58, 59, 60, 61, 62, 63, 64, 65, 66, 67, 68, 69, 70, 71], okT q := List.forall_mem_cons.mpr ⟨okM48, List.forall_mem_cons.mpr ⟨okM49, List.forall_mem_cons.mpr ⟨okM50, List.forall_mem_cons.mpr ⟨okM51, List.forall_mem_cons.mpr ⟨okM52, List.forall_mem_cons.mpr ⟨okM53, List.forall_mem_cons.mpr ⟨okM54, List.forall_mem_cons.mpr ⟨okM55, List.forall_mem_cons.mpr ⟨okM56, List.forall_mem_cons.mpr ⟨okM57, List.forall_mem_cons.mpr ⟨okM58, List.forall_mem_cons.mpr ⟨okM59, List.forall_mem_cons.mpr ⟨okM60, List.forall_mem_cons.mpr ⟨okM61, List.forall_mem_cons.mpr ⟨okM62, List.forall_mem_cons.mpr ⟨okM63, List.forall_mem_cons.mpr ⟨okM64, List.forall_mem_cons.mpr ⟨okM65, List.forall_mem_cons.mpr ⟨okM66, List.forall_mem_cons.mpr ⟨okM67, List.forall_mem_cons.mpr ⟨okM68, List.forall_mem_cons.mpr ⟨okM69, List.forall_mem_cons.mpr ⟨okM70, List.forall_mem_cons.mpr ⟨okM71, fun _ h => absurd h List.not_mem_nil⟩⟩⟩⟩⟩⟩⟩⟩⟩⟩⟩⟩⟩⟩⟩⟩⟩⟩⟩⟩⟩⟩⟩⟩
theorem okM_c3 : ∀ q ∈ [72, 73, 74, 75, 76, 77, 78, 79, 80, 81, 82, 83, 84, 85, 86, 87], okT q := List.forall_mem_cons.mpr ⟨okM72, List.forall_mem_cons.mpr ⟨okM73, List.forall_mem_cons.mpr ⟨okM74, List.forall_mem_cons.mpr ⟨okM75, List.forall_mem_cons.mpr ⟨okM76, List.forall_mem_cons.mpr ⟨okM77, List.forall_mem_cons.mpr ⟨okM78, List.forall_mem_cons.mpr ⟨okM79, List.forall_mem_cons.mpr ⟨okM80, List.forall_mem_cons.mpr ⟨okM81, List.forall_mem_cons.mpr ⟨okM82, List.forall_mem_cons.mpr ⟨okM83, List.forall_mem_cons.mpr ⟨okM84, List.forall_mem_cons.mpr ⟨okM85, List.forall_mem_cons.mpr ⟨okM86, List.forall_mem_cons.mpr ⟨okM87, fun _ h => absurd h List.not_mem_nil⟩⟩⟩⟩⟩⟩⟩⟩⟩⟩⟩⟩⟩⟩⟩⟩
theorem okM_all : ∀ q ∈ ([0, 1, 2, 3, 4, 5, 6, 7, 8, 9, 10, 11, 12, 13, 14, 15, 16, 17, 18, 19, 20, 21, 22, 23] ++ ([24, 25, 26, 27, 28, 29, 30, 31, 32, 33, 34, 35, 36, 37, 38, 39, 40, 41, 42, 43, 44, 45, 46, 47] ++ ([48, 49, 50, 51, 52, 53, 54, 55, 56, 57, 58, 59, 60, 61, 62, 63, 64, 65, 66, 67, 68, 69, 70, 71] ++ ([72, 73, 74, 75, 76, 77, 78, 79, 80, 81, 82, 83, 84, 85, 86, 87]))) : List Nat), okT q := List.forall_mem_append.mpr ⟨okM_c0, List.forall_mem_append.mpr ⟨okM_c1, List.forall_mem_append.mpr ⟨okM_c2, okM_c3⟩⟩⟩
theorem okI_lt {i : Nat} (h : i < 88) : okT i := okM_all i (by
  have h1 : ([0, 1, 2, 3, 4, 5, 6, 7, 8, 9, 10, 11, 12, 13, 14, 15, 16, 17, 18, 19, 20, 21, 22, 23] ++ ([24, 25, 26, 27, 28, 29, 30, 31, 32, 33, 34, 35, 36, 37, 38, 39, 40, 41, 42, 43, 44, 45, 46, 47] ++ ([48, 49, 50, 51, 52, 53, 54, 55, 56, 57, 58, 59, 60, 61, 62, 63, 64, 65, 66, 67, 68, 69, 70, 71] ++ ([72, 73, 74, 75, 76, 77, 78, 79, 80, 81, 82, 83, 84, 85, 86, 87]))) : List Nat) = List.range 88 := by decide +kernel
  rw [h1]; exact List.mem_range.mpr h)
theorem pF_none {i k : Nat} (h : 220 ≤ k) : pF i k = none := by
  unfold pF
  rw [Nat.ble_eq_true_of_le h, cond_true]
theorem pF_none2 {i k : Nat} (h : 88 ≤ i) : pF i k = none := by
  have h1 : ∀ u, u < 88 → Nat.ble i u = false := fun u hu => by
    rw [Bool.eq_false_iff]; intro e; have := Nat.le_of_ble_eq_true e; omega
  have h2 : ∀ u, u < 88 → Nat.beq i u = false := fun u hu => by
    rw [Bool.eq_false_iff]; intro e; have := Nat.eq_of_beq_eq_true e; omega
  unfold pF
  simp (discharger := decide) only [h1, h2, cond_false, Bool.cond_self]
theorem ok_all (i k : Nat) : okAt i k = true := by
  rcases Nat.lt_or_ge k 220 with hk | hk
  · rcases Nat.lt_or_ge i 88 with hi | hi
    · exact List.all_eq_true.mp (okI_lt hi) k (List.mem_range.mpr hk)
    · unfold okAt; rw [pF_none2 hi]
  · unfold okAt; rw [pF_none hk]
theorem pF_ok {id pc : Nat} {i : Instr} {len : Nat} {ops : List Nat} {v : Value} (h : pF id pc = some (i, len, ops, v)) : id < NM ∧ decode (pB id) pc = .ok (i, len) ∧ okI id pc i len ops v = true := by
  have h1 := ok_all id pc
  unfold okAt at h1
  rw [h] at h1
  obtain ⟨h2, h3⟩ := Bool.and_eq_true_iff.mp h1
  refine ⟨Nat.not_le.mp (fun q => ?_), of_decide_eq_true h2, h3⟩
  rw [pF_none2 q] at h; cases h
theorem clw0_0 : u_lay "TypesInside" fT0 0 ∈ LW := (lc1 178 rfl rfl)
theorem clw0_1 : u_lay "TypesInside" fT0 1 ∈ LW := (lc1 180 rfl rfl)
theorem clw0_2 : u_lay "TypesInside" fT0 2 ∈ LW := (lc1 182 rfl rfl)
theorem clw0_3 : u_lay "TypesInside" fT0 3 ∈ LW := (lc1 184 rfl rfl)
theorem clw0_4 : u_lay "TypesInside" fT0 4 ∈ LW := (lc1 186 rfl rfl)
theorem clw0_5 : u_lay "TypesInside" fT0 5 ∈ LW := (lc1 188 rfl rfl)
theorem clw0_6 : u_lay "TypesInside" fT0 6 ∈ LW := (lc1 190 rfl rfl)
theorem clw0_7 : u_lay "TypesInside" fT0 7 ∈ LW := (lc1 192 rfl rfl)
theorem clw0_8 : u_lay "TypesInside" fT0 8 ∈ LW := (lc1 194 rfl rfl)
theorem clw0_9 : u_lay "TypesInside" fT0 9 ∈ LW := (lc1 196 rfl rfl)
theorem clw0_10 : u_lay "TypesInside" fT0 10 ∈ LW := (lc1 198 rfl rfl)
theorem clw0_11 : u_lay "TypesInside" fT0 11 ∈ LW := (lc1 200 rfl rfl)
theorem clw0 : ∀ w ∈ u_ws "TypesInside" fT0 12, w ∈ LW := List.forall_mem_cons.mpr ⟨clw0_0, List.forall_mem_cons.mpr ⟨clw0_1, List.forall_mem_cons.mpr ⟨clw0_2, List.forall_mem_cons.mpr ⟨clw0_3, List.forall_mem_cons.mpr ⟨clw0_4, List.forall_mem_cons.mpr ⟨clw0_5, List.forall_mem_cons.mpr ⟨clw0_6, List.forall_mem_cons.mpr ⟨clw0_7, List.forall_mem_cons.mpr ⟨clw0_8, List.forall_mem_cons.mpr ⟨clw0_9, List.forall_mem_cons.mpr ⟨clw0_10, List.forall_mem_cons.mpr ⟨clw0_11, fun _ h => absurd h List.not_mem_nil⟩⟩⟩⟩⟩⟩⟩⟩⟩⟩⟩⟩
theorem clw1_0 : u_lay "TypesInside$Counts" fT1 0 ∈ LW := (lc1 35 rfl rfl)
theorem clw1_1 : u_lay "TypesInside$Counts" fT1 1 ∈ LW := (lc1 37 rfl rfl)
theorem clw1_2 : u_lay "TypesInside$Counts" fT1 2 ∈ LW := (lc1 39 rfl rfl)
theorem clw1_3 : u_lay "TypesInside$Counts" fT1 3 ∈ LW := (lc1 41 rfl rfl)
theorem clw1_4 : u_lay "TypesInside$Counts" fT1 4 ∈ LW := (lc1 43 rfl rfl)
theorem clw1 : ∀ w ∈ u_ws "TypesInside$Counts" fT1 5, w ∈ LW := List.forall_mem_cons.mpr ⟨clw1_0, List.forall_mem_cons.mpr ⟨clw1_1, List.forall_mem_cons.mpr ⟨clw1_2, List.forall_mem_cons.mpr ⟨clw1_3, List.forall_mem_cons.mpr ⟨clw1_4, fun _ h => absurd h List.not_mem_nil⟩⟩⟩⟩⟩
theorem clw2_0 : u_lay "TypesInside$Group" fT2 0 ∈ LW := (lc1 66 rfl rfl)
theorem clw2_1 : u_lay "TypesInside$Group" fT2 1 ∈ LW := (lc1 68 rfl rfl)
theorem clw2_2 : u_lay "TypesInside$Group" fT2 2 ∈ LW := (lc1 70 rfl rfl)
theorem clw2_3 : u_lay "TypesInside$Group" fT2 3 ∈ LW := (lc1 72 rfl rfl)
theorem clw2_4 : u_lay "TypesInside$Group" fT2 4 ∈ LW := (lc1 74 rfl rfl)
theorem clw2_5 : u_lay "TypesInside$Group" fT2 5 ∈ LW := (lc1 76 rfl rfl)
theorem clw2_6 : u_lay "TypesInside$Group" fT2 6 ∈ LW := (lc1 78 rfl rfl)
theorem clw2_7 : u_lay "TypesInside$Group" fT2 7 ∈ LW := (lc1 80 rfl rfl)
theorem clw2_8 : u_lay "TypesInside$Group" fT2 8 ∈ LW := (lc1 82 rfl rfl)
theorem clw2_9 : u_lay "TypesInside$Group" fT2 9 ∈ LW := (lc1 84 rfl rfl)
theorem clw2_10 : u_lay "TypesInside$Group" fT2 10 ∈ LW := (lc1 86 rfl rfl)
theorem clw2_11 : u_lay "TypesInside$Group" fT2 11 ∈ LW := (lc1 88 rfl rfl)
theorem clw2_12 : u_lay "TypesInside$Group" fT2 12 ∈ LW := (lc1 90 rfl rfl)
theorem clw2 : ∀ w ∈ u_ws "TypesInside$Group" fT2 13, w ∈ LW := List.forall_mem_cons.mpr ⟨clw2_0, List.forall_mem_cons.mpr ⟨clw2_1, List.forall_mem_cons.mpr ⟨clw2_2, List.forall_mem_cons.mpr ⟨clw2_3, List.forall_mem_cons.mpr ⟨clw2_4, List.forall_mem_cons.mpr ⟨clw2_5, List.forall_mem_cons.mpr ⟨clw2_6, List.forall_mem_cons.mpr ⟨clw2_7, List.forall_mem_cons.mpr ⟨clw2_8, List.forall_mem_cons.mpr ⟨clw2_9, List.forall_mem_cons.mpr ⟨clw2_10, List.forall_mem_cons.mpr ⟨clw2_11, List.forall_mem_cons.mpr ⟨clw2_12, fun _ h => absurd h List.not_mem_nil⟩⟩⟩⟩⟩⟩⟩⟩⟩⟩⟩⟩⟩
theorem clw3_0 : u_lay "TypesInside$Mix" fT3 0 ∈ LW := (lc1 112 rfl rfl)
theorem clw3 : ∀ w ∈ u_ws "TypesInside$Mix" fT3 1, w ∈ LW := List.forall_mem_cons.mpr ⟨clw3_0, fun _ h => absurd h List.not_mem_nil⟩
theorem clw4_0 : u_lay "TypesInside$Shelf" fT4 0 ∈ LW := (lc1 159 rfl rfl)
theorem clw4_1 : u_lay "TypesInside$Shelf" fT4 1 ∈ LW := (lc1 161 rfl rfl)
theorem clw4_2 : u_lay "TypesInside$Shelf" fT4 2 ∈ LW := (lc1 163 rfl rfl)
theorem clw4 : ∀ w ∈ u_ws "TypesInside$Shelf" fT4 3, w ∈ LW := List.forall_mem_cons.mpr ⟨clw4_0, List.forall_mem_cons.mpr ⟨clw4_1, List.forall_mem_cons.mpr ⟨clw4_2, fun _ h => absurd h List.not_mem_nil⟩⟩⟩
theorem clw5_0 : u_lay "TypesInside$Sums" fT5 0 ∈ LW := (lc1 124 rfl rfl)
theorem clw5_1 : u_lay "TypesInside$Sums" fT5 1 ∈ LW := (lc1 126 rfl rfl)
theorem clw5_2 : u_lay "TypesInside$Sums" fT5 2 ∈ LW := (lc1 128 rfl rfl)
theorem clw5_3 : u_lay "TypesInside$Sums" fT5 3 ∈ LW := (lc1 130 rfl rfl)
theorem clw5_4 : u_lay "TypesInside$Sums" fT5 4 ∈ LW := (lc1 132 rfl rfl)
theorem clw5_5 : u_lay "TypesInside$Sums" fT5 5 ∈ LW := (lc1 134 rfl rfl)
theorem clw5_6 : u_lay "TypesInside$Sums" fT5 6 ∈ LW := (lc1 136 rfl rfl)
theorem clw5_7 : u_lay "TypesInside$Sums" fT5 7 ∈ LW := (lc1 138 rfl rfl)
theorem clw5_8 : u_lay "TypesInside$Sums" fT5 8 ∈ LW := (lc1 140 rfl rfl)
theorem clw5 : ∀ w ∈ u_ws "TypesInside$Sums" fT5 9, w ∈ LW := List.forall_mem_cons.mpr ⟨clw5_0, List.forall_mem_cons.mpr ⟨clw5_1, List.forall_mem_cons.mpr ⟨clw5_2, List.forall_mem_cons.mpr ⟨clw5_3, List.forall_mem_cons.mpr ⟨clw5_4, List.forall_mem_cons.mpr ⟨clw5_5, List.forall_mem_cons.mpr ⟨clw5_6, List.forall_mem_cons.mpr ⟨clw5_7, List.forall_mem_cons.mpr ⟨clw5_8, fun _ h => absurd h List.not_mem_nil⟩⟩⟩⟩⟩⟩⟩⟩⟩
theorem clW {c : Nat} (h : c < 6) : ∀ w ∈ u_ws (pC c) (fTl c) (cN c), w ∈ LW := by
  rcases (show c = 0 ∨ c = 1 ∨ c = 2 ∨ c = 3 ∨ c = 4 ∨ c = 5 by omega) with rfl | rfl | rfl | rfl | rfl | rfl
  · exact clw0
  · exact clw1
  · exact clw2
  · exact clw3
  · exact clw4
  · exact clw5
