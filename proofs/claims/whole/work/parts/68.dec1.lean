/-! the law: what its bytes say (1) -/
theorem laX {L : List (Nat × Instr × Nat)} (h : (L.all fun q => decide (decode code q.1 = .ok (q.2.1, q.2.2))) = true) {q : Nat × Instr × Nat} (k : Nat) (e : L[k]? = some q) : decode code q.1 = .ok (q.2.1, q.2.2) := of_decide_eq_true (List.all_eq_true.mp h q (List.mem_of_getElem? e))
def laD0 : List (Nat × Instr × Nat) := [(0, .new 7, 3), (3, .dup, 1), (4, .invokespecial 9, 3), (7, .astore_n 1, 1), (8, .new 10, 3), (11, .dup, 1), (12, .invokespecial 12, 3), (15, .astore_n 2, 1), (16, .iconst 0, 1), (17, .istore_n 3, 1), (18, .iload_n 3, 1), (19, .aload_n 0, 1), (20, .arraylength, 1), (21, .bipush 6, 2), (23, .isub, 1), (24, .if_icmp .gt 1427, 3), (27, .aload_n 0, 1), (28, .iload_n 3, 1), (29, .iaload, 1), (30, .bipush 63, 2), (32, .iand, 1), (33, .tableswitch 1412 0 34 #[155, 178, 211, 244, 288, 332, 386, 430, 474, 507, 540, 573, 596, 629, 683, 777, 840, 864, 897, 921, 944, 988, 1032, 1045, 1068, 1081, 1114, 1148, 1191, 1234, 1267, 1330, 1363, 1376, 1389], 155), (188, .aload_n 1, 1), (189, .aload_n 0, 1), (190, .iload_n 3, 1), (191, .iconst 1, 1), (192, .iadd, 1), (193, .iaload, 1), (194, .invokevirtual 13, 3), (197, .aload_n 2, 1), (198, .aload_n 0, 1), (199, .iload_n 3, 1), (200, .iconst 1, 1), (201, .iadd, 1), (202, .iaload, 1), (203, .invokevirtual 17, 3), (206, .if_icmp .eq 1239, 3), (211, .aload_n 1, 1), (212, .aload_n 0, 1), (213, .iload_n 3, 1), (214, .iconst 1, 1), (215, .iadd, 1), (216, .iaload, 1), (217, .aload_n 0, 1), (218, .iload_n 3, 1), (219, .iconst 2, 1), (220, .iadd, 1), (221, .iaload, 1), (222, .invokevirtual 18, 3), (225, .aload_n 2, 1), (226, .aload_n 0, 1), (227, .iload_n 3, 1), (228, .iconst 1, 1), (229, .iadd, 1), (230, .iaload, 1), (231, .aload_n 0, 1), (232, .iload_n 3, 1), (233, .iconst 2, 1), (234, .iadd, 1), (235, .iaload, 1), (236, .invokevirtual 22, 3), (239, .if_icmp .eq 1206, 3), (244, .aload_n 1, 1), (245, .aload_n 0, 1), (246, .iload_n 3, 1), (247, .iconst 1, 1), (248, .iadd, 1), (249, .iaload, 1), (250, .aload_n 0, 1), (251, .iload_n 3, 1)]
theorem laD0_ok : (laD0.all fun q => decide (decode code q.1 = .ok (q.2.1, q.2.2))) = true := by decide +kernel
theorem zd_La_law_0 : decode code 0 = .ok (.new 7, 3) := laX laD0_ok (q := (0, .new 7, 3)) 0 rfl
theorem zd_La_law_3 : decode code 3 = .ok (.dup, 1) := laX laD0_ok (q := (3, .dup, 1)) 1 rfl
theorem zd_La_law_4 : decode code 4 = .ok (.invokespecial 9, 3) := laX laD0_ok (q := (4, .invokespecial 9, 3)) 2 rfl
theorem zd_La_law_7 : decode code 7 = .ok (.astore_n 1, 1) := laX laD0_ok (q := (7, .astore_n 1, 1)) 3 rfl
theorem zd_La_law_8 : decode code 8 = .ok (.new 10, 3) := laX laD0_ok (q := (8, .new 10, 3)) 4 rfl
theorem zd_La_law_11 : decode code 11 = .ok (.dup, 1) := laX laD0_ok (q := (11, .dup, 1)) 5 rfl
theorem zd_La_law_12 : decode code 12 = .ok (.invokespecial 12, 3) := laX laD0_ok (q := (12, .invokespecial 12, 3)) 6 rfl
theorem zd_La_law_15 : decode code 15 = .ok (.astore_n 2, 1) := laX laD0_ok (q := (15, .astore_n 2, 1)) 7 rfl
theorem zd_La_law_16 : decode code 16 = .ok (.iconst 0, 1) := laX laD0_ok (q := (16, .iconst 0, 1)) 8 rfl
theorem zd_La_law_17 : decode code 17 = .ok (.istore_n 3, 1) := laX laD0_ok (q := (17, .istore_n 3, 1)) 9 rfl
theorem zd_La_law_18 : decode code 18 = .ok (.iload_n 3, 1) := laX laD0_ok (q := (18, .iload_n 3, 1)) 10 rfl
theorem zd_La_law_19 : decode code 19 = .ok (.aload_n 0, 1) := laX laD0_ok (q := (19, .aload_n 0, 1)) 11 rfl
theorem zd_La_law_20 : decode code 20 = .ok (.arraylength, 1) := laX laD0_ok (q := (20, .arraylength, 1)) 12 rfl
theorem zd_La_law_21 : decode code 21 = .ok (.bipush 6, 2) := laX laD0_ok (q := (21, .bipush 6, 2)) 13 rfl
theorem zd_La_law_23 : decode code 23 = .ok (.isub, 1) := laX laD0_ok (q := (23, .isub, 1)) 14 rfl
theorem zd_La_law_24 : decode code 24 = .ok (.if_icmp .gt 1427, 3) := laX laD0_ok (q := (24, .if_icmp .gt 1427, 3)) 15 rfl
theorem zd_La_law_27 : decode code 27 = .ok (.aload_n 0, 1) := laX laD0_ok (q := (27, .aload_n 0, 1)) 16 rfl
theorem zd_La_law_28 : decode code 28 = .ok (.iload_n 3, 1) := laX laD0_ok (q := (28, .iload_n 3, 1)) 17 rfl
theorem zd_La_law_29 : decode code 29 = .ok (.iaload, 1) := laX laD0_ok (q := (29, .iaload, 1)) 18 rfl
theorem zd_La_law_30 : decode code 30 = .ok (.bipush 63, 2) := laX laD0_ok (q := (30, .bipush 63, 2)) 19 rfl
theorem zd_La_law_32 : decode code 32 = .ok (.iand, 1) := laX laD0_ok (q := (32, .iand, 1)) 20 rfl
theorem zd_La_law_33 : decode code 33 = .ok (.tableswitch 1412 0 34 #[155, 178, 211, 244, 288, 332, 386, 430, 474, 507, 540, 573, 596, 629, 683, 777, 840, 864, 897, 921, 944, 988, 1032, 1045, 1068, 1081, 1114, 1148, 1191, 1234, 1267, 1330, 1363, 1376, 1389], 155) := laX laD0_ok (q := (33, .tableswitch 1412 0 34 #[155, 178, 211, 244, 288, 332, 386, 430, 474, 507, 540, 573, 596, 629, 683, 777, 840, 864, 897, 921, 944, 988, 1032, 1045, 1068, 1081, 1114, 1148, 1191, 1234, 1267, 1330, 1363, 1376, 1389], 155)) 21 rfl
theorem zd_La_law_188 : decode code 188 = .ok (.aload_n 1, 1) := laX laD0_ok (q := (188, .aload_n 1, 1)) 22 rfl
theorem zd_La_law_189 : decode code 189 = .ok (.aload_n 0, 1) := laX laD0_ok (q := (189, .aload_n 0, 1)) 23 rfl
theorem zd_La_law_190 : decode code 190 = .ok (.iload_n 3, 1) := laX laD0_ok (q := (190, .iload_n 3, 1)) 24 rfl
theorem zd_La_law_191 : decode code 191 = .ok (.iconst 1, 1) := laX laD0_ok (q := (191, .iconst 1, 1)) 25 rfl
theorem zd_La_law_192 : decode code 192 = .ok (.iadd, 1) := laX laD0_ok (q := (192, .iadd, 1)) 26 rfl
theorem zd_La_law_193 : decode code 193 = .ok (.iaload, 1) := laX laD0_ok (q := (193, .iaload, 1)) 27 rfl
theorem zd_La_law_194 : decode code 194 = .ok (.invokevirtual 13, 3) := laX laD0_ok (q := (194, .invokevirtual 13, 3)) 28 rfl
theorem zd_La_law_197 : decode code 197 = .ok (.aload_n 2, 1) := laX laD0_ok (q := (197, .aload_n 2, 1)) 29 rfl
theorem zd_La_law_198 : decode code 198 = .ok (.aload_n 0, 1) := laX laD0_ok (q := (198, .aload_n 0, 1)) 30 rfl
theorem zd_La_law_199 : decode code 199 = .ok (.iload_n 3, 1) := laX laD0_ok (q := (199, .iload_n 3, 1)) 31 rfl
theorem zd_La_law_200 : decode code 200 = .ok (.iconst 1, 1) := laX laD0_ok (q := (200, .iconst 1, 1)) 32 rfl
theorem zd_La_law_201 : decode code 201 = .ok (.iadd, 1) := laX laD0_ok (q := (201, .iadd, 1)) 33 rfl
theorem zd_La_law_202 : decode code 202 = .ok (.iaload, 1) := laX laD0_ok (q := (202, .iaload, 1)) 34 rfl
theorem zd_La_law_203 : decode code 203 = .ok (.invokevirtual 17, 3) := laX laD0_ok (q := (203, .invokevirtual 17, 3)) 35 rfl
theorem zd_La_law_206 : decode code 206 = .ok (.if_icmp .eq 1239, 3) := laX laD0_ok (q := (206, .if_icmp .eq 1239, 3)) 36 rfl
theorem zd_La_law_211 : decode code 211 = .ok (.aload_n 1, 1) := laX laD0_ok (q := (211, .aload_n 1, 1)) 37 rfl
theorem zd_La_law_212 : decode code 212 = .ok (.aload_n 0, 1) := laX laD0_ok (q := (212, .aload_n 0, 1)) 38 rfl
theorem zd_La_law_213 : decode code 213 = .ok (.iload_n 3, 1) := laX laD0_ok (q := (213, .iload_n 3, 1)) 39 rfl
theorem zd_La_law_214 : decode code 214 = .ok (.iconst 1, 1) := laX laD0_ok (q := (214, .iconst 1, 1)) 40 rfl
theorem zd_La_law_215 : decode code 215 = .ok (.iadd, 1) := laX laD0_ok (q := (215, .iadd, 1)) 41 rfl
theorem zd_La_law_216 : decode code 216 = .ok (.iaload, 1) := laX laD0_ok (q := (216, .iaload, 1)) 42 rfl
theorem zd_La_law_217 : decode code 217 = .ok (.aload_n 0, 1) := laX laD0_ok (q := (217, .aload_n 0, 1)) 43 rfl
theorem zd_La_law_218 : decode code 218 = .ok (.iload_n 3, 1) := laX laD0_ok (q := (218, .iload_n 3, 1)) 44 rfl
theorem zd_La_law_219 : decode code 219 = .ok (.iconst 2, 1) := laX laD0_ok (q := (219, .iconst 2, 1)) 45 rfl
theorem zd_La_law_220 : decode code 220 = .ok (.iadd, 1) := laX laD0_ok (q := (220, .iadd, 1)) 46 rfl
theorem zd_La_law_221 : decode code 221 = .ok (.iaload, 1) := laX laD0_ok (q := (221, .iaload, 1)) 47 rfl
theorem zd_La_law_222 : decode code 222 = .ok (.invokevirtual 18, 3) := laX laD0_ok (q := (222, .invokevirtual 18, 3)) 48 rfl
theorem zd_La_law_225 : decode code 225 = .ok (.aload_n 2, 1) := laX laD0_ok (q := (225, .aload_n 2, 1)) 49 rfl
theorem zd_La_law_226 : decode code 226 = .ok (.aload_n 0, 1) := laX laD0_ok (q := (226, .aload_n 0, 1)) 50 rfl
theorem zd_La_law_227 : decode code 227 = .ok (.iload_n 3, 1) := laX laD0_ok (q := (227, .iload_n 3, 1)) 51 rfl
theorem zd_La_law_228 : decode code 228 = .ok (.iconst 1, 1) := laX laD0_ok (q := (228, .iconst 1, 1)) 52 rfl
theorem zd_La_law_229 : decode code 229 = .ok (.iadd, 1) := laX laD0_ok (q := (229, .iadd, 1)) 53 rfl
theorem zd_La_law_230 : decode code 230 = .ok (.iaload, 1) := laX laD0_ok (q := (230, .iaload, 1)) 54 rfl
theorem zd_La_law_231 : decode code 231 = .ok (.aload_n 0, 1) := laX laD0_ok (q := (231, .aload_n 0, 1)) 55 rfl
theorem zd_La_law_232 : decode code 232 = .ok (.iload_n 3, 1) := laX laD0_ok (q := (232, .iload_n 3, 1)) 56 rfl
theorem zd_La_law_233 : decode code 233 = .ok (.iconst 2, 1) := laX laD0_ok (q := (233, .iconst 2, 1)) 57 rfl
theorem zd_La_law_234 : decode code 234 = .ok (.iadd, 1) := laX laD0_ok (q := (234, .iadd, 1)) 58 rfl
theorem zd_La_law_235 : decode code 235 = .ok (.iaload, 1) := laX laD0_ok (q := (235, .iaload, 1)) 59 rfl
theorem zd_La_law_236 : decode code 236 = .ok (.invokevirtual 22, 3) := laX laD0_ok (q := (236, .invokevirtual 22, 3)) 60 rfl
theorem zd_La_law_239 : decode code 239 = .ok (.if_icmp .eq 1206, 3) := laX laD0_ok (q := (239, .if_icmp .eq 1206, 3)) 61 rfl
theorem zd_La_law_244 : decode code 244 = .ok (.aload_n 1, 1) := laX laD0_ok (q := (244, .aload_n 1, 1)) 62 rfl
theorem zd_La_law_245 : decode code 245 = .ok (.aload_n 0, 1) := laX laD0_ok (q := (245, .aload_n 0, 1)) 63 rfl
theorem zd_La_law_246 : decode code 246 = .ok (.iload_n 3, 1) := laX laD0_ok (q := (246, .iload_n 3, 1)) 64 rfl
theorem zd_La_law_247 : decode code 247 = .ok (.iconst 1, 1) := laX laD0_ok (q := (247, .iconst 1, 1)) 65 rfl
theorem zd_La_law_248 : decode code 248 = .ok (.iadd, 1) := laX laD0_ok (q := (248, .iadd, 1)) 66 rfl
theorem zd_La_law_249 : decode code 249 = .ok (.iaload, 1) := laX laD0_ok (q := (249, .iaload, 1)) 67 rfl
theorem zd_La_law_250 : decode code 250 = .ok (.aload_n 0, 1) := laX laD0_ok (q := (250, .aload_n 0, 1)) 68 rfl
theorem zd_La_law_251 : decode code 251 = .ok (.iload_n 3, 1) := laX laD0_ok (q := (251, .iload_n 3, 1)) 69 rfl
def laD1 : List (Nat × Instr × Nat) := [(252, .iconst 2, 1), (253, .iadd, 1), (254, .iaload, 1), (255, .invokevirtual 23, 3), (258, .aload_n 2, 1), (259, .aload_n 0, 1), (260, .iload_n 3, 1), (261, .iconst 1, 1), (262, .iadd, 1), (263, .iaload, 1), (264, .aload_n 0, 1), (265, .iload_n 3, 1), (266, .iconst 2, 1), (267, .iadd, 1), (268, .iaload, 1), (269, .invokevirtual 26, 3), (272, .if_icmp .eq 1173, 3), (277, .aload_n 1, 1), (278, .aload_n 0, 1), (279, .iload_n 3, 1), (280, .iconst 1, 1), (281, .iadd, 1), (282, .iaload, 1), (283, .aload_n 0, 1), (284, .iload_n 3, 1), (285, .iconst 2, 1), (286, .iadd, 1), (287, .iaload, 1), (288, .aload_n 0, 1), (289, .iload_n 3, 1), (290, .iconst 3, 1), (291, .iadd, 1), (292, .iaload, 1), (293, .invokevirtual 27, 3), (296, .aload_n 2, 1), (297, .aload_n 0, 1), (298, .iload_n 3, 1), (299, .iconst 1, 1), (300, .iadd, 1), (301, .iaload, 1), (302, .aload_n 0, 1), (303, .iload_n 3, 1), (304, .iconst 2, 1), (305, .iadd, 1), (306, .iaload, 1), (307, .aload_n 0, 1), (308, .iload_n 3, 1), (309, .iconst 3, 1), (310, .iadd, 1), (311, .iaload, 1), (312, .invokevirtual 31, 3), (315, .lcmp, 1), (316, .ifCond .eq 1129, 3), (321, .aload_n 1, 1), (322, .aload_n 0, 1), (323, .iload_n 3, 1), (324, .iconst 1, 1), (325, .iadd, 1), (326, .iaload, 1), (327, .aload_n 0, 1), (328, .iload_n 3, 1), (329, .iconst 2, 1), (330, .iadd, 1), (331, .iaload, 1), (332, .aload_n 0, 1), (333, .iload_n 3, 1), (334, .iconst 3, 1), (335, .iadd, 1), (336, .iaload, 1), (337, .invokevirtual 32, 3)]
theorem laD1_ok : (laD1.all fun q => decide (decode code q.1 = .ok (q.2.1, q.2.2))) = true := by decide +kernel
theorem zd_La_law_252 : decode code 252 = .ok (.iconst 2, 1) := laX laD1_ok (q := (252, .iconst 2, 1)) 0 rfl
theorem zd_La_law_253 : decode code 253 = .ok (.iadd, 1) := laX laD1_ok (q := (253, .iadd, 1)) 1 rfl
theorem zd_La_law_254 : decode code 254 = .ok (.iaload, 1) := laX laD1_ok (q := (254, .iaload, 1)) 2 rfl
theorem zd_La_law_255 : decode code 255 = .ok (.invokevirtual 23, 3) := laX laD1_ok (q := (255, .invokevirtual 23, 3)) 3 rfl
theorem zd_La_law_258 : decode code 258 = .ok (.aload_n 2, 1) := laX laD1_ok (q := (258, .aload_n 2, 1)) 4 rfl
theorem zd_La_law_259 : decode code 259 = .ok (.aload_n 0, 1) := laX laD1_ok (q := (259, .aload_n 0, 1)) 5 rfl
theorem zd_La_law_260 : decode code 260 = .ok (.iload_n 3, 1) := laX laD1_ok (q := (260, .iload_n 3, 1)) 6 rfl
theorem zd_La_law_261 : decode code 261 = .ok (.iconst 1, 1) := laX laD1_ok (q := (261, .iconst 1, 1)) 7 rfl
theorem zd_La_law_262 : decode code 262 = .ok (.iadd, 1) := laX laD1_ok (q := (262, .iadd, 1)) 8 rfl
theorem zd_La_law_263 : decode code 263 = .ok (.iaload, 1) := laX laD1_ok (q := (263, .iaload, 1)) 9 rfl
theorem zd_La_law_264 : decode code 264 = .ok (.aload_n 0, 1) := laX laD1_ok (q := (264, .aload_n 0, 1)) 10 rfl
theorem zd_La_law_265 : decode code 265 = .ok (.iload_n 3, 1) := laX laD1_ok (q := (265, .iload_n 3, 1)) 11 rfl
theorem zd_La_law_266 : decode code 266 = .ok (.iconst 2, 1) := laX laD1_ok (q := (266, .iconst 2, 1)) 12 rfl
theorem zd_La_law_267 : decode code 267 = .ok (.iadd, 1) := laX laD1_ok (q := (267, .iadd, 1)) 13 rfl
theorem zd_La_law_268 : decode code 268 = .ok (.iaload, 1) := laX laD1_ok (q := (268, .iaload, 1)) 14 rfl
theorem zd_La_law_269 : decode code 269 = .ok (.invokevirtual 26, 3) := laX laD1_ok (q := (269, .invokevirtual 26, 3)) 15 rfl
theorem zd_La_law_272 : decode code 272 = .ok (.if_icmp .eq 1173, 3) := laX laD1_ok (q := (272, .if_icmp .eq 1173, 3)) 16 rfl
theorem zd_La_law_277 : decode code 277 = .ok (.aload_n 1, 1) := laX laD1_ok (q := (277, .aload_n 1, 1)) 17 rfl
theorem zd_La_law_278 : decode code 278 = .ok (.aload_n 0, 1) := laX laD1_ok (q := (278, .aload_n 0, 1)) 18 rfl
theorem zd_La_law_279 : decode code 279 = .ok (.iload_n 3, 1) := laX laD1_ok (q := (279, .iload_n 3, 1)) 19 rfl
theorem zd_La_law_280 : decode code 280 = .ok (.iconst 1, 1) := laX laD1_ok (q := (280, .iconst 1, 1)) 20 rfl
theorem zd_La_law_281 : decode code 281 = .ok (.iadd, 1) := laX laD1_ok (q := (281, .iadd, 1)) 21 rfl
theorem zd_La_law_282 : decode code 282 = .ok (.iaload, 1) := laX laD1_ok (q := (282, .iaload, 1)) 22 rfl
theorem zd_La_law_283 : decode code 283 = .ok (.aload_n 0, 1) := laX laD1_ok (q := (283, .aload_n 0, 1)) 23 rfl
theorem zd_La_law_284 : decode code 284 = .ok (.iload_n 3, 1) := laX laD1_ok (q := (284, .iload_n 3, 1)) 24 rfl
theorem zd_La_law_285 : decode code 285 = .ok (.iconst 2, 1) := laX laD1_ok (q := (285, .iconst 2, 1)) 25 rfl
theorem zd_La_law_286 : decode code 286 = .ok (.iadd, 1) := laX laD1_ok (q := (286, .iadd, 1)) 26 rfl
theorem zd_La_law_287 : decode code 287 = .ok (.iaload, 1) := laX laD1_ok (q := (287, .iaload, 1)) 27 rfl
theorem zd_La_law_288 : decode code 288 = .ok (.aload_n 0, 1) := laX laD1_ok (q := (288, .aload_n 0, 1)) 28 rfl
theorem zd_La_law_289 : decode code 289 = .ok (.iload_n 3, 1) := laX laD1_ok (q := (289, .iload_n 3, 1)) 29 rfl
theorem zd_La_law_290 : decode code 290 = .ok (.iconst 3, 1) := laX laD1_ok (q := (290, .iconst 3, 1)) 30 rfl
theorem zd_La_law_291 : decode code 291 = .ok (.iadd, 1) := laX laD1_ok (q := (291, .iadd, 1)) 31 rfl
theorem zd_La_law_292 : decode code 292 = .ok (.iaload, 1) := laX laD1_ok (q := (292, .iaload, 1)) 32 rfl
theorem zd_La_law_293 : decode code 293 = .ok (.invokevirtual 27, 3) := laX laD1_ok (q := (293, .invokevirtual 27, 3)) 33 rfl
theorem zd_La_law_296 : decode code 296 = .ok (.aload_n 2, 1) := laX laD1_ok (q := (296, .aload_n 2, 1)) 34 rfl
theorem zd_La_law_297 : decode code 297 = .ok (.aload_n 0, 1) := laX laD1_ok (q := (297, .aload_n 0, 1)) 35 rfl
theorem zd_La_law_298 : decode code 298 = .ok (.iload_n 3, 1) := laX laD1_ok (q := (298, .iload_n 3, 1)) 36 rfl
theorem zd_La_law_299 : decode code 299 = .ok (.iconst 1, 1) := laX laD1_ok (q := (299, .iconst 1, 1)) 37 rfl
theorem zd_La_law_300 : decode code 300 = .ok (.iadd, 1) := laX laD1_ok (q := (300, .iadd, 1)) 38 rfl
theorem zd_La_law_301 : decode code 301 = .ok (.iaload, 1) := laX laD1_ok (q := (301, .iaload, 1)) 39 rfl
theorem zd_La_law_302 : decode code 302 = .ok (.aload_n 0, 1) := laX laD1_ok (q := (302, .aload_n 0, 1)) 40 rfl
theorem zd_La_law_303 : decode code 303 = .ok (.iload_n 3, 1) := laX laD1_ok (q := (303, .iload_n 3, 1)) 41 rfl
theorem zd_La_law_304 : decode code 304 = .ok (.iconst 2, 1) := laX laD1_ok (q := (304, .iconst 2, 1)) 42 rfl
theorem zd_La_law_305 : decode code 305 = .ok (.iadd, 1) := laX laD1_ok (q := (305, .iadd, 1)) 43 rfl
theorem zd_La_law_306 : decode code 306 = .ok (.iaload, 1) := laX laD1_ok (q := (306, .iaload, 1)) 44 rfl
theorem zd_La_law_307 : decode code 307 = .ok (.aload_n 0, 1) := laX laD1_ok (q := (307, .aload_n 0, 1)) 45 rfl
theorem zd_La_law_308 : decode code 308 = .ok (.iload_n 3, 1) := laX laD1_ok (q := (308, .iload_n 3, 1)) 46 rfl
theorem zd_La_law_309 : decode code 309 = .ok (.iconst 3, 1) := laX laD1_ok (q := (309, .iconst 3, 1)) 47 rfl
theorem zd_La_law_310 : decode code 310 = .ok (.iadd, 1) := laX laD1_ok (q := (310, .iadd, 1)) 48 rfl
theorem zd_La_law_311 : decode code 311 = .ok (.iaload, 1) := laX laD1_ok (q := (311, .iaload, 1)) 49 rfl
theorem zd_La_law_312 : decode code 312 = .ok (.invokevirtual 31, 3) := laX laD1_ok (q := (312, .invokevirtual 31, 3)) 50 rfl
theorem zd_La_law_315 : decode code 315 = .ok (.lcmp, 1) := laX laD1_ok (q := (315, .lcmp, 1)) 51 rfl
theorem zd_La_law_316 : decode code 316 = .ok (.ifCond .eq 1129, 3) := laX laD1_ok (q := (316, .ifCond .eq 1129, 3)) 52 rfl
theorem zd_La_law_321 : decode code 321 = .ok (.aload_n 1, 1) := laX laD1_ok (q := (321, .aload_n 1, 1)) 53 rfl
theorem zd_La_law_322 : decode code 322 = .ok (.aload_n 0, 1) := laX laD1_ok (q := (322, .aload_n 0, 1)) 54 rfl
theorem zd_La_law_323 : decode code 323 = .ok (.iload_n 3, 1) := laX laD1_ok (q := (323, .iload_n 3, 1)) 55 rfl
theorem zd_La_law_324 : decode code 324 = .ok (.iconst 1, 1) := laX laD1_ok (q := (324, .iconst 1, 1)) 56 rfl
theorem zd_La_law_325 : decode code 325 = .ok (.iadd, 1) := laX laD1_ok (q := (325, .iadd, 1)) 57 rfl
theorem zd_La_law_326 : decode code 326 = .ok (.iaload, 1) := laX laD1_ok (q := (326, .iaload, 1)) 58 rfl
theorem zd_La_law_327 : decode code 327 = .ok (.aload_n 0, 1) := laX laD1_ok (q := (327, .aload_n 0, 1)) 59 rfl
theorem zd_La_law_328 : decode code 328 = .ok (.iload_n 3, 1) := laX laD1_ok (q := (328, .iload_n 3, 1)) 60 rfl
theorem zd_La_law_329 : decode code 329 = .ok (.iconst 2, 1) := laX laD1_ok (q := (329, .iconst 2, 1)) 61 rfl
theorem zd_La_law_330 : decode code 330 = .ok (.iadd, 1) := laX laD1_ok (q := (330, .iadd, 1)) 62 rfl
theorem zd_La_law_331 : decode code 331 = .ok (.iaload, 1) := laX laD1_ok (q := (331, .iaload, 1)) 63 rfl
theorem zd_La_law_332 : decode code 332 = .ok (.aload_n 0, 1) := laX laD1_ok (q := (332, .aload_n 0, 1)) 64 rfl
theorem zd_La_law_333 : decode code 333 = .ok (.iload_n 3, 1) := laX laD1_ok (q := (333, .iload_n 3, 1)) 65 rfl
theorem zd_La_law_334 : decode code 334 = .ok (.iconst 3, 1) := laX laD1_ok (q := (334, .iconst 3, 1)) 66 rfl
theorem zd_La_law_335 : decode code 335 = .ok (.iadd, 1) := laX laD1_ok (q := (335, .iadd, 1)) 67 rfl
theorem zd_La_law_336 : decode code 336 = .ok (.iaload, 1) := laX laD1_ok (q := (336, .iaload, 1)) 68 rfl
theorem zd_La_law_337 : decode code 337 = .ok (.invokevirtual 32, 3) := laX laD1_ok (q := (337, .invokevirtual 32, 3)) 69 rfl
def laD2 : List (Nat × Instr × Nat) := [(340, .aload_n 2, 1), (341, .aload_n 0, 1), (342, .iload_n 3, 1), (343, .iconst 1, 1), (344, .iadd, 1), (345, .iaload, 1), (346, .aload_n 0, 1), (347, .iload_n 3, 1), (348, .iconst 2, 1), (349, .iadd, 1), (350, .iaload, 1), (351, .aload_n 0, 1), (352, .iload_n 3, 1), (353, .iconst 3, 1), (354, .iadd, 1), (355, .iaload, 1), (356, .invokevirtual 35, 3), (359, .lcmp, 1), (360, .ifCond .eq 1085, 3), (365, .aload_n 1, 1), (366, .aload_n 0, 1), (367, .iload_n 3, 1), (368, .iconst 1, 1), (369, .iadd, 1), (370, .iaload, 1), (371, .aload_n 0, 1), (372, .iload_n 3, 1), (373, .iconst 2, 1), (374, .iadd, 1), (375, .iaload, 1), (376, .aload_n 0, 1), (377, .iload_n 3, 1), (378, .iconst 3, 1), (379, .iadd, 1), (380, .iaload, 1), (381, .aload_n 0, 1), (382, .iload_n 3, 1), (383, .iconst 4, 1), (384, .iadd, 1), (385, .iaload, 1), (386, .invokevirtual 36, 3), (389, .aload_n 2, 1), (390, .aload_n 0, 1), (391, .iload_n 3, 1), (392, .iconst 1, 1), (393, .iadd, 1), (394, .iaload, 1), (395, .aload_n 0, 1), (396, .iload_n 3, 1), (397, .iconst 2, 1), (398, .iadd, 1), (399, .iaload, 1), (400, .aload_n 0, 1), (401, .iload_n 3, 1), (402, .iconst 3, 1), (403, .iadd, 1), (404, .iaload, 1), (405, .aload_n 0, 1), (406, .iload_n 3, 1), (407, .iconst 4, 1), (408, .iadd, 1), (409, .iaload, 1), (410, .invokevirtual 40, 3), (413, .lcmp, 1), (414, .ifCond .eq 1031, 3), (419, .aload_n 1, 1), (420, .aload_n 0, 1), (421, .iload_n 3, 1), (422, .iconst 1, 1), (423, .iadd, 1)]
theorem laD2_ok : (laD2.all fun q => decide (decode code q.1 = .ok (q.2.1, q.2.2))) = true := by decide +kernel
theorem zd_La_law_340 : decode code 340 = .ok (.aload_n 2, 1) := laX laD2_ok (q := (340, .aload_n 2, 1)) 0 rfl
theorem zd_La_law_341 : decode code 341 = .ok (.aload_n 0, 1) := laX laD2_ok (q := (341, .aload_n 0, 1)) 1 rfl
theorem zd_La_law_342 : decode code 342 = .ok (.iload_n 3, 1) := laX laD2_ok (q := (342, .iload_n 3, 1)) 2 rfl
theorem zd_La_law_343 : decode code 343 = .ok (.iconst 1, 1) := laX laD2_ok (q := (343, .iconst 1, 1)) 3 rfl
theorem zd_La_law_344 : decode code 344 = .ok (.iadd, 1) := laX laD2_ok (q := (344, .iadd, 1)) 4 rfl
theorem zd_La_law_345 : decode code 345 = .ok (.iaload, 1) := laX laD2_ok (q := (345, .iaload, 1)) 5 rfl
theorem zd_La_law_346 : decode code 346 = .ok (.aload_n 0, 1) := laX laD2_ok (q := (346, .aload_n 0, 1)) 6 rfl
theorem zd_La_law_347 : decode code 347 = .ok (.iload_n 3, 1) := laX laD2_ok (q := (347, .iload_n 3, 1)) 7 rfl
theorem zd_La_law_348 : decode code 348 = .ok (.iconst 2, 1) := laX laD2_ok (q := (348, .iconst 2, 1)) 8 rfl
theorem zd_La_law_349 : decode code 349 = .ok (.iadd, 1) := laX laD2_ok (q := (349, .iadd, 1)) 9 rfl
theorem zd_La_law_350 : decode code 350 = .ok (.iaload, 1) := laX laD2_ok (q := (350, .iaload, 1)) 10 rfl
theorem zd_La_law_351 : decode code 351 = .ok (.aload_n 0, 1) := laX laD2_ok (q := (351, .aload_n 0, 1)) 11 rfl
theorem zd_La_law_352 : decode code 352 = .ok (.iload_n 3, 1) := laX laD2_ok (q := (352, .iload_n 3, 1)) 12 rfl
theorem zd_La_law_353 : decode code 353 = .ok (.iconst 3, 1) := laX laD2_ok (q := (353, .iconst 3, 1)) 13 rfl
theorem zd_La_law_354 : decode code 354 = .ok (.iadd, 1) := laX laD2_ok (q := (354, .iadd, 1)) 14 rfl
theorem zd_La_law_355 : decode code 355 = .ok (.iaload, 1) := laX laD2_ok (q := (355, .iaload, 1)) 15 rfl
theorem zd_La_law_356 : decode code 356 = .ok (.invokevirtual 35, 3) := laX laD2_ok (q := (356, .invokevirtual 35, 3)) 16 rfl
theorem zd_La_law_359 : decode code 359 = .ok (.lcmp, 1) := laX laD2_ok (q := (359, .lcmp, 1)) 17 rfl
theorem zd_La_law_360 : decode code 360 = .ok (.ifCond .eq 1085, 3) := laX laD2_ok (q := (360, .ifCond .eq 1085, 3)) 18 rfl
theorem zd_La_law_365 : decode code 365 = .ok (.aload_n 1, 1) := laX laD2_ok (q := (365, .aload_n 1, 1)) 19 rfl
theorem zd_La_law_366 : decode code 366 = .ok (.aload_n 0, 1) := laX laD2_ok (q := (366, .aload_n 0, 1)) 20 rfl
theorem zd_La_law_367 : decode code 367 = .ok (.iload_n 3, 1) := laX laD2_ok (q := (367, .iload_n 3, 1)) 21 rfl
theorem zd_La_law_368 : decode code 368 = .ok (.iconst 1, 1) := laX laD2_ok (q := (368, .iconst 1, 1)) 22 rfl
theorem zd_La_law_369 : decode code 369 = .ok (.iadd, 1) := laX laD2_ok (q := (369, .iadd, 1)) 23 rfl
theorem zd_La_law_370 : decode code 370 = .ok (.iaload, 1) := laX laD2_ok (q := (370, .iaload, 1)) 24 rfl
theorem zd_La_law_371 : decode code 371 = .ok (.aload_n 0, 1) := laX laD2_ok (q := (371, .aload_n 0, 1)) 25 rfl
theorem zd_La_law_372 : decode code 372 = .ok (.iload_n 3, 1) := laX laD2_ok (q := (372, .iload_n 3, 1)) 26 rfl
theorem zd_La_law_373 : decode code 373 = .ok (.iconst 2, 1) := laX laD2_ok (q := (373, .iconst 2, 1)) 27 rfl
theorem zd_La_law_374 : decode code 374 = .ok (.iadd, 1) := laX laD2_ok (q := (374, .iadd, 1)) 28 rfl
theorem zd_La_law_375 : decode code 375 = .ok (.iaload, 1) := laX laD2_ok (q := (375, .iaload, 1)) 29 rfl
theorem zd_La_law_376 : decode code 376 = .ok (.aload_n 0, 1) := laX laD2_ok (q := (376, .aload_n 0, 1)) 30 rfl
theorem zd_La_law_377 : decode code 377 = .ok (.iload_n 3, 1) := laX laD2_ok (q := (377, .iload_n 3, 1)) 31 rfl
theorem zd_La_law_378 : decode code 378 = .ok (.iconst 3, 1) := laX laD2_ok (q := (378, .iconst 3, 1)) 32 rfl
theorem zd_La_law_379 : decode code 379 = .ok (.iadd, 1) := laX laD2_ok (q := (379, .iadd, 1)) 33 rfl
theorem zd_La_law_380 : decode code 380 = .ok (.iaload, 1) := laX laD2_ok (q := (380, .iaload, 1)) 34 rfl
theorem zd_La_law_381 : decode code 381 = .ok (.aload_n 0, 1) := laX laD2_ok (q := (381, .aload_n 0, 1)) 35 rfl
theorem zd_La_law_382 : decode code 382 = .ok (.iload_n 3, 1) := laX laD2_ok (q := (382, .iload_n 3, 1)) 36 rfl
theorem zd_La_law_383 : decode code 383 = .ok (.iconst 4, 1) := laX laD2_ok (q := (383, .iconst 4, 1)) 37 rfl
theorem zd_La_law_384 : decode code 384 = .ok (.iadd, 1) := laX laD2_ok (q := (384, .iadd, 1)) 38 rfl
theorem zd_La_law_385 : decode code 385 = .ok (.iaload, 1) := laX laD2_ok (q := (385, .iaload, 1)) 39 rfl
theorem zd_La_law_386 : decode code 386 = .ok (.invokevirtual 36, 3) := laX laD2_ok (q := (386, .invokevirtual 36, 3)) 40 rfl
theorem zd_La_law_389 : decode code 389 = .ok (.aload_n 2, 1) := laX laD2_ok (q := (389, .aload_n 2, 1)) 41 rfl
theorem zd_La_law_390 : decode code 390 = .ok (.aload_n 0, 1) := laX laD2_ok (q := (390, .aload_n 0, 1)) 42 rfl
theorem zd_La_law_391 : decode code 391 = .ok (.iload_n 3, 1) := laX laD2_ok (q := (391, .iload_n 3, 1)) 43 rfl
theorem zd_La_law_392 : decode code 392 = .ok (.iconst 1, 1) := laX laD2_ok (q := (392, .iconst 1, 1)) 44 rfl
theorem zd_La_law_393 : decode code 393 = .ok (.iadd, 1) := laX laD2_ok (q := (393, .iadd, 1)) 45 rfl
theorem zd_La_law_394 : decode code 394 = .ok (.iaload, 1) := laX laD2_ok (q := (394, .iaload, 1)) 46 rfl
theorem zd_La_law_395 : decode code 395 = .ok (.aload_n 0, 1) := laX laD2_ok (q := (395, .aload_n 0, 1)) 47 rfl
theorem zd_La_law_396 : decode code 396 = .ok (.iload_n 3, 1) := laX laD2_ok (q := (396, .iload_n 3, 1)) 48 rfl
theorem zd_La_law_397 : decode code 397 = .ok (.iconst 2, 1) := laX laD2_ok (q := (397, .iconst 2, 1)) 49 rfl
theorem zd_La_law_398 : decode code 398 = .ok (.iadd, 1) := laX laD2_ok (q := (398, .iadd, 1)) 50 rfl
theorem zd_La_law_399 : decode code 399 = .ok (.iaload, 1) := laX laD2_ok (q := (399, .iaload, 1)) 51 rfl
theorem zd_La_law_400 : decode code 400 = .ok (.aload_n 0, 1) := laX laD2_ok (q := (400, .aload_n 0, 1)) 52 rfl
theorem zd_La_law_401 : decode code 401 = .ok (.iload_n 3, 1) := laX laD2_ok (q := (401, .iload_n 3, 1)) 53 rfl
theorem zd_La_law_402 : decode code 402 = .ok (.iconst 3, 1) := laX laD2_ok (q := (402, .iconst 3, 1)) 54 rfl
theorem zd_La_law_403 : decode code 403 = .ok (.iadd, 1) := laX laD2_ok (q := (403, .iadd, 1)) 55 rfl
theorem zd_La_law_404 : decode code 404 = .ok (.iaload, 1) := laX laD2_ok (q := (404, .iaload, 1)) 56 rfl
theorem zd_La_law_405 : decode code 405 = .ok (.aload_n 0, 1) := laX laD2_ok (q := (405, .aload_n 0, 1)) 57 rfl
theorem zd_La_law_406 : decode code 406 = .ok (.iload_n 3, 1) := laX laD2_ok (q := (406, .iload_n 3, 1)) 58 rfl
theorem zd_La_law_407 : decode code 407 = .ok (.iconst 4, 1) := laX laD2_ok (q := (407, .iconst 4, 1)) 59 rfl
theorem zd_La_law_408 : decode code 408 = .ok (.iadd, 1) := laX laD2_ok (q := (408, .iadd, 1)) 60 rfl
theorem zd_La_law_409 : decode code 409 = .ok (.iaload, 1) := laX laD2_ok (q := (409, .iaload, 1)) 61 rfl
theorem zd_La_law_410 : decode code 410 = .ok (.invokevirtual 40, 3) := laX laD2_ok (q := (410, .invokevirtual 40, 3)) 62 rfl
theorem zd_La_law_413 : decode code 413 = .ok (.lcmp, 1) := laX laD2_ok (q := (413, .lcmp, 1)) 63 rfl
theorem zd_La_law_414 : decode code 414 = .ok (.ifCond .eq 1031, 3) := laX laD2_ok (q := (414, .ifCond .eq 1031, 3)) 64 rfl
theorem zd_La_law_419 : decode code 419 = .ok (.aload_n 1, 1) := laX laD2_ok (q := (419, .aload_n 1, 1)) 65 rfl
theorem zd_La_law_420 : decode code 420 = .ok (.aload_n 0, 1) := laX laD2_ok (q := (420, .aload_n 0, 1)) 66 rfl
theorem zd_La_law_421 : decode code 421 = .ok (.iload_n 3, 1) := laX laD2_ok (q := (421, .iload_n 3, 1)) 67 rfl
theorem zd_La_law_422 : decode code 422 = .ok (.iconst 1, 1) := laX laD2_ok (q := (422, .iconst 1, 1)) 68 rfl
theorem zd_La_law_423 : decode code 423 = .ok (.iadd, 1) := laX laD2_ok (q := (423, .iadd, 1)) 69 rfl
def laD3 : List (Nat × Instr × Nat) := [(424, .iaload, 1), (425, .aload_n 0, 1), (426, .iload_n 3, 1), (427, .iconst 2, 1), (428, .iadd, 1), (429, .iaload, 1), (430, .aload_n 0, 1), (431, .iload_n 3, 1), (432, .iconst 3, 1), (433, .iadd, 1), (434, .iaload, 1), (435, .invokevirtual 41, 3), (438, .aload_n 2, 1), (439, .aload_n 0, 1), (440, .iload_n 3, 1), (441, .iconst 1, 1), (442, .iadd, 1), (443, .iaload, 1), (444, .aload_n 0, 1), (445, .iload_n 3, 1), (446, .iconst 2, 1), (447, .iadd, 1), (448, .iaload, 1), (449, .aload_n 0, 1), (450, .iload_n 3, 1), (451, .iconst 3, 1), (452, .iadd, 1), (453, .iaload, 1), (454, .invokevirtual 44, 3), (457, .lcmp, 1), (458, .ifCond .eq 987, 3), (463, .aload_n 1, 1), (464, .aload_n 0, 1), (465, .iload_n 3, 1), (466, .iconst 1, 1), (467, .iadd, 1), (468, .iaload, 1), (469, .aload_n 0, 1), (470, .iload_n 3, 1), (471, .iconst 2, 1), (472, .iadd, 1), (473, .iaload, 1), (474, .aload_n 0, 1), (475, .iload_n 3, 1), (476, .iconst 3, 1), (477, .iadd, 1), (478, .iaload, 1), (479, .invokevirtual 45, 3), (482, .aload_n 2, 1), (483, .aload_n 0, 1), (484, .iload_n 3, 1), (485, .iconst 1, 1), (486, .iadd, 1), (487, .iaload, 1), (488, .aload_n 0, 1), (489, .iload_n 3, 1), (490, .iconst 2, 1), (491, .iadd, 1), (492, .iaload, 1), (493, .aload_n 0, 1), (494, .iload_n 3, 1), (495, .iconst 3, 1), (496, .iadd, 1), (497, .iaload, 1), (498, .invokevirtual 48, 3), (501, .lcmp, 1), (502, .ifCond .eq 943, 3), (507, .aload_n 1, 1), (508, .aload_n 0, 1), (509, .iload_n 3, 1)]
theorem laD3_ok : (laD3.all fun q => decide (decode code q.1 = .ok (q.2.1, q.2.2))) = true := by decide +kernel
theorem zd_La_law_424 : decode code 424 = .ok (.iaload, 1) := laX laD3_ok (q := (424, .iaload, 1)) 0 rfl
theorem zd_La_law_425 : decode code 425 = .ok (.aload_n 0, 1) := laX laD3_ok (q := (425, .aload_n 0, 1)) 1 rfl
theorem zd_La_law_426 : decode code 426 = .ok (.iload_n 3, 1) := laX laD3_ok (q := (426, .iload_n 3, 1)) 2 rfl
theorem zd_La_law_427 : decode code 427 = .ok (.iconst 2, 1) := laX laD3_ok (q := (427, .iconst 2, 1)) 3 rfl
theorem zd_La_law_428 : decode code 428 = .ok (.iadd, 1) := laX laD3_ok (q := (428, .iadd, 1)) 4 rfl
theorem zd_La_law_429 : decode code 429 = .ok (.iaload, 1) := laX laD3_ok (q := (429, .iaload, 1)) 5 rfl
theorem zd_La_law_430 : decode code 430 = .ok (.aload_n 0, 1) := laX laD3_ok (q := (430, .aload_n 0, 1)) 6 rfl
theorem zd_La_law_431 : decode code 431 = .ok (.iload_n 3, 1) := laX laD3_ok (q := (431, .iload_n 3, 1)) 7 rfl
theorem zd_La_law_432 : decode code 432 = .ok (.iconst 3, 1) := laX laD3_ok (q := (432, .iconst 3, 1)) 8 rfl
theorem zd_La_law_433 : decode code 433 = .ok (.iadd, 1) := laX laD3_ok (q := (433, .iadd, 1)) 9 rfl
theorem zd_La_law_434 : decode code 434 = .ok (.iaload, 1) := laX laD3_ok (q := (434, .iaload, 1)) 10 rfl
theorem zd_La_law_435 : decode code 435 = .ok (.invokevirtual 41, 3) := laX laD3_ok (q := (435, .invokevirtual 41, 3)) 11 rfl
theorem zd_La_law_438 : decode code 438 = .ok (.aload_n 2, 1) := laX laD3_ok (q := (438, .aload_n 2, 1)) 12 rfl
theorem zd_La_law_439 : decode code 439 = .ok (.aload_n 0, 1) := laX laD3_ok (q := (439, .aload_n 0, 1)) 13 rfl
theorem zd_La_law_440 : decode code 440 = .ok (.iload_n 3, 1) := laX laD3_ok (q := (440, .iload_n 3, 1)) 14 rfl
theorem zd_La_law_441 : decode code 441 = .ok (.iconst 1, 1) := laX laD3_ok (q := (441, .iconst 1, 1)) 15 rfl
theorem zd_La_law_442 : decode code 442 = .ok (.iadd, 1) := laX laD3_ok (q := (442, .iadd, 1)) 16 rfl
theorem zd_La_law_443 : decode code 443 = .ok (.iaload, 1) := laX laD3_ok (q := (443, .iaload, 1)) 17 rfl
theorem zd_La_law_444 : decode code 444 = .ok (.aload_n 0, 1) := laX laD3_ok (q := (444, .aload_n 0, 1)) 18 rfl
theorem zd_La_law_445 : decode code 445 = .ok (.iload_n 3, 1) := laX laD3_ok (q := (445, .iload_n 3, 1)) 19 rfl
theorem zd_La_law_446 : decode code 446 = .ok (.iconst 2, 1) := laX laD3_ok (q := (446, .iconst 2, 1)) 20 rfl
theorem zd_La_law_447 : decode code 447 = .ok (.iadd, 1) := laX laD3_ok (q := (447, .iadd, 1)) 21 rfl
theorem zd_La_law_448 : decode code 448 = .ok (.iaload, 1) := laX laD3_ok (q := (448, .iaload, 1)) 22 rfl
theorem zd_La_law_449 : decode code 449 = .ok (.aload_n 0, 1) := laX laD3_ok (q := (449, .aload_n 0, 1)) 23 rfl
theorem zd_La_law_450 : decode code 450 = .ok (.iload_n 3, 1) := laX laD3_ok (q := (450, .iload_n 3, 1)) 24 rfl
theorem zd_La_law_451 : decode code 451 = .ok (.iconst 3, 1) := laX laD3_ok (q := (451, .iconst 3, 1)) 25 rfl
theorem zd_La_law_452 : decode code 452 = .ok (.iadd, 1) := laX laD3_ok (q := (452, .iadd, 1)) 26 rfl
theorem zd_La_law_453 : decode code 453 = .ok (.iaload, 1) := laX laD3_ok (q := (453, .iaload, 1)) 27 rfl
theorem zd_La_law_454 : decode code 454 = .ok (.invokevirtual 44, 3) := laX laD3_ok (q := (454, .invokevirtual 44, 3)) 28 rfl
theorem zd_La_law_457 : decode code 457 = .ok (.lcmp, 1) := laX laD3_ok (q := (457, .lcmp, 1)) 29 rfl
theorem zd_La_law_458 : decode code 458 = .ok (.ifCond .eq 987, 3) := laX laD3_ok (q := (458, .ifCond .eq 987, 3)) 30 rfl
theorem zd_La_law_463 : decode code 463 = .ok (.aload_n 1, 1) := laX laD3_ok (q := (463, .aload_n 1, 1)) 31 rfl
theorem zd_La_law_464 : decode code 464 = .ok (.aload_n 0, 1) := laX laD3_ok (q := (464, .aload_n 0, 1)) 32 rfl
theorem zd_La_law_465 : decode code 465 = .ok (.iload_n 3, 1) := laX laD3_ok (q := (465, .iload_n 3, 1)) 33 rfl
theorem zd_La_law_466 : decode code 466 = .ok (.iconst 1, 1) := laX laD3_ok (q := (466, .iconst 1, 1)) 34 rfl
theorem zd_La_law_467 : decode code 467 = .ok (.iadd, 1) := laX laD3_ok (q := (467, .iadd, 1)) 35 rfl
theorem zd_La_law_468 : decode code 468 = .ok (.iaload, 1) := laX laD3_ok (q := (468, .iaload, 1)) 36 rfl
theorem zd_La_law_469 : decode code 469 = .ok (.aload_n 0, 1) := laX laD3_ok (q := (469, .aload_n 0, 1)) 37 rfl
theorem zd_La_law_470 : decode code 470 = .ok (.iload_n 3, 1) := laX laD3_ok (q := (470, .iload_n 3, 1)) 38 rfl
theorem zd_La_law_471 : decode code 471 = .ok (.iconst 2, 1) := laX laD3_ok (q := (471, .iconst 2, 1)) 39 rfl
theorem zd_La_law_472 : decode code 472 = .ok (.iadd, 1) := laX laD3_ok (q := (472, .iadd, 1)) 40 rfl
theorem zd_La_law_473 : decode code 473 = .ok (.iaload, 1) := laX laD3_ok (q := (473, .iaload, 1)) 41 rfl
theorem zd_La_law_474 : decode code 474 = .ok (.aload_n 0, 1) := laX laD3_ok (q := (474, .aload_n 0, 1)) 42 rfl
theorem zd_La_law_475 : decode code 475 = .ok (.iload_n 3, 1) := laX laD3_ok (q := (475, .iload_n 3, 1)) 43 rfl
theorem zd_La_law_476 : decode code 476 = .ok (.iconst 3, 1) := laX laD3_ok (q := (476, .iconst 3, 1)) 44 rfl
theorem zd_La_law_477 : decode code 477 = .ok (.iadd, 1) := laX laD3_ok (q := (477, .iadd, 1)) 45 rfl
theorem zd_La_law_478 : decode code 478 = .ok (.iaload, 1) := laX laD3_ok (q := (478, .iaload, 1)) 46 rfl
theorem zd_La_law_479 : decode code 479 = .ok (.invokevirtual 45, 3) := laX laD3_ok (q := (479, .invokevirtual 45, 3)) 47 rfl
theorem zd_La_law_482 : decode code 482 = .ok (.aload_n 2, 1) := laX laD3_ok (q := (482, .aload_n 2, 1)) 48 rfl
theorem zd_La_law_483 : decode code 483 = .ok (.aload_n 0, 1) := laX laD3_ok (q := (483, .aload_n 0, 1)) 49 rfl
theorem zd_La_law_484 : decode code 484 = .ok (.iload_n 3, 1) := laX laD3_ok (q := (484, .iload_n 3, 1)) 50 rfl
theorem zd_La_law_485 : decode code 485 = .ok (.iconst 1, 1) := laX laD3_ok (q := (485, .iconst 1, 1)) 51 rfl
theorem zd_La_law_486 : decode code 486 = .ok (.iadd, 1) := laX laD3_ok (q := (486, .iadd, 1)) 52 rfl
theorem zd_La_law_487 : decode code 487 = .ok (.iaload, 1) := laX laD3_ok (q := (487, .iaload, 1)) 53 rfl
theorem zd_La_law_488 : decode code 488 = .ok (.aload_n 0, 1) := laX laD3_ok (q := (488, .aload_n 0, 1)) 54 rfl
theorem zd_La_law_489 : decode code 489 = .ok (.iload_n 3, 1) := laX laD3_ok (q := (489, .iload_n 3, 1)) 55 rfl
theorem zd_La_law_490 : decode code 490 = .ok (.iconst 2, 1) := laX laD3_ok (q := (490, .iconst 2, 1)) 56 rfl
theorem zd_La_law_491 : decode code 491 = .ok (.iadd, 1) := laX laD3_ok (q := (491, .iadd, 1)) 57 rfl
theorem zd_La_law_492 : decode code 492 = .ok (.iaload, 1) := laX laD3_ok (q := (492, .iaload, 1)) 58 rfl
theorem zd_La_law_493 : decode code 493 = .ok (.aload_n 0, 1) := laX laD3_ok (q := (493, .aload_n 0, 1)) 59 rfl
theorem zd_La_law_494 : decode code 494 = .ok (.iload_n 3, 1) := laX laD3_ok (q := (494, .iload_n 3, 1)) 60 rfl
theorem zd_La_law_495 : decode code 495 = .ok (.iconst 3, 1) := laX laD3_ok (q := (495, .iconst 3, 1)) 61 rfl
theorem zd_La_law_496 : decode code 496 = .ok (.iadd, 1) := laX laD3_ok (q := (496, .iadd, 1)) 62 rfl
theorem zd_La_law_497 : decode code 497 = .ok (.iaload, 1) := laX laD3_ok (q := (497, .iaload, 1)) 63 rfl
theorem zd_La_law_498 : decode code 498 = .ok (.invokevirtual 48, 3) := laX laD3_ok (q := (498, .invokevirtual 48, 3)) 64 rfl
theorem zd_La_law_501 : decode code 501 = .ok (.lcmp, 1) := laX laD3_ok (q := (501, .lcmp, 1)) 65 rfl
theorem zd_La_law_502 : decode code 502 = .ok (.ifCond .eq 943, 3) := laX laD3_ok (q := (502, .ifCond .eq 943, 3)) 66 rfl
theorem zd_La_law_507 : decode code 507 = .ok (.aload_n 1, 1) := laX laD3_ok (q := (507, .aload_n 1, 1)) 67 rfl
theorem zd_La_law_508 : decode code 508 = .ok (.aload_n 0, 1) := laX laD3_ok (q := (508, .aload_n 0, 1)) 68 rfl
theorem zd_La_law_509 : decode code 509 = .ok (.iload_n 3, 1) := laX laD3_ok (q := (509, .iload_n 3, 1)) 69 rfl
