/-! the law: what its bytes say (4) -/
def laD11 : List (Nat × Instr × Nat) := [(1170, .iadd, 1), (1171, .iaload, 1), (1172, .invokevirtual 132, 3), (1175, .lcmp, 1), (1176, .ifCond .eq 269, 3), (1181, .aload_n 1, 1), (1182, .aload_n 0, 1), (1183, .iload_n 3, 1), (1184, .iconst 1, 1), (1185, .iadd, 1), (1186, .iaload, 1), (1187, .aload_n 0, 1), (1188, .iload_n 3, 1), (1189, .iconst 2, 1), (1190, .iadd, 1), (1191, .iaload, 1), (1192, .aload_n 0, 1), (1193, .iload_n 3, 1), (1194, .iconst 3, 1), (1195, .iadd, 1), (1196, .iaload, 1), (1197, .invokevirtual 133, 3), (1200, .aload_n 2, 1), (1201, .aload_n 0, 1), (1202, .iload_n 3, 1), (1203, .iconst 1, 1), (1204, .iadd, 1), (1205, .iaload, 1), (1206, .aload_n 0, 1), (1207, .iload_n 3, 1), (1208, .iconst 2, 1), (1209, .iadd, 1), (1210, .iaload, 1), (1211, .aload_n 0, 1), (1212, .iload_n 3, 1), (1213, .iconst 3, 1), (1214, .iadd, 1), (1215, .iaload, 1), (1216, .invokevirtual 137, 3), (1219, .if_icmp .eq 226, 3), (1224, .aload_n 1, 1), (1225, .aload_n 0, 1), (1226, .iload_n 3, 1), (1227, .iconst 1, 1), (1228, .iadd, 1), (1229, .iaload, 1), (1230, .aload_n 0, 1), (1231, .iload_n 3, 1), (1232, .iconst 2, 1), (1233, .iadd, 1), (1234, .iaload, 1), (1235, .aload_n 0, 1), (1236, .iload_n 3, 1), (1237, .iconst 3, 1), (1238, .iadd, 1), (1239, .iaload, 1), (1240, .invokevirtual 138, 3), (1243, .aload_n 2, 1), (1244, .aload_n 0, 1), (1245, .iload_n 3, 1), (1246, .iconst 1, 1), (1247, .iadd, 1), (1248, .iaload, 1), (1249, .aload_n 0, 1), (1250, .iload_n 3, 1), (1251, .iconst 2, 1), (1252, .iadd, 1), (1253, .iaload, 1), (1254, .aload_n 0, 1), (1255, .iload_n 3, 1)]
theorem laD11_ok : (laD11.all fun q => decide (decode code q.1 = .ok (q.2.1, q.2.2))) = true := by decide +kernel
theorem zd_La_law_1170 : decode code 1170 = .ok (.iadd, 1) := laX laD11_ok (q := (1170, .iadd, 1)) 0 rfl
theorem zd_La_law_1171 : decode code 1171 = .ok (.iaload, 1) := laX laD11_ok (q := (1171, .iaload, 1)) 1 rfl
theorem zd_La_law_1172 : decode code 1172 = .ok (.invokevirtual 132, 3) := laX laD11_ok (q := (1172, .invokevirtual 132, 3)) 2 rfl
theorem zd_La_law_1175 : decode code 1175 = .ok (.lcmp, 1) := laX laD11_ok (q := (1175, .lcmp, 1)) 3 rfl
theorem zd_La_law_1176 : decode code 1176 = .ok (.ifCond .eq 269, 3) := laX laD11_ok (q := (1176, .ifCond .eq 269, 3)) 4 rfl
theorem zd_La_law_1181 : decode code 1181 = .ok (.aload_n 1, 1) := laX laD11_ok (q := (1181, .aload_n 1, 1)) 5 rfl
theorem zd_La_law_1182 : decode code 1182 = .ok (.aload_n 0, 1) := laX laD11_ok (q := (1182, .aload_n 0, 1)) 6 rfl
theorem zd_La_law_1183 : decode code 1183 = .ok (.iload_n 3, 1) := laX laD11_ok (q := (1183, .iload_n 3, 1)) 7 rfl
theorem zd_La_law_1184 : decode code 1184 = .ok (.iconst 1, 1) := laX laD11_ok (q := (1184, .iconst 1, 1)) 8 rfl
theorem zd_La_law_1185 : decode code 1185 = .ok (.iadd, 1) := laX laD11_ok (q := (1185, .iadd, 1)) 9 rfl
theorem zd_La_law_1186 : decode code 1186 = .ok (.iaload, 1) := laX laD11_ok (q := (1186, .iaload, 1)) 10 rfl
theorem zd_La_law_1187 : decode code 1187 = .ok (.aload_n 0, 1) := laX laD11_ok (q := (1187, .aload_n 0, 1)) 11 rfl
theorem zd_La_law_1188 : decode code 1188 = .ok (.iload_n 3, 1) := laX laD11_ok (q := (1188, .iload_n 3, 1)) 12 rfl
theorem zd_La_law_1189 : decode code 1189 = .ok (.iconst 2, 1) := laX laD11_ok (q := (1189, .iconst 2, 1)) 13 rfl
theorem zd_La_law_1190 : decode code 1190 = .ok (.iadd, 1) := laX laD11_ok (q := (1190, .iadd, 1)) 14 rfl
theorem zd_La_law_1191 : decode code 1191 = .ok (.iaload, 1) := laX laD11_ok (q := (1191, .iaload, 1)) 15 rfl
theorem zd_La_law_1192 : decode code 1192 = .ok (.aload_n 0, 1) := laX laD11_ok (q := (1192, .aload_n 0, 1)) 16 rfl
theorem zd_La_law_1193 : decode code 1193 = .ok (.iload_n 3, 1) := laX laD11_ok (q := (1193, .iload_n 3, 1)) 17 rfl
theorem zd_La_law_1194 : decode code 1194 = .ok (.iconst 3, 1) := laX laD11_ok (q := (1194, .iconst 3, 1)) 18 rfl
theorem zd_La_law_1195 : decode code 1195 = .ok (.iadd, 1) := laX laD11_ok (q := (1195, .iadd, 1)) 19 rfl
theorem zd_La_law_1196 : decode code 1196 = .ok (.iaload, 1) := laX laD11_ok (q := (1196, .iaload, 1)) 20 rfl
theorem zd_La_law_1197 : decode code 1197 = .ok (.invokevirtual 133, 3) := laX laD11_ok (q := (1197, .invokevirtual 133, 3)) 21 rfl
theorem zd_La_law_1200 : decode code 1200 = .ok (.aload_n 2, 1) := laX laD11_ok (q := (1200, .aload_n 2, 1)) 22 rfl
theorem zd_La_law_1201 : decode code 1201 = .ok (.aload_n 0, 1) := laX laD11_ok (q := (1201, .aload_n 0, 1)) 23 rfl
theorem zd_La_law_1202 : decode code 1202 = .ok (.iload_n 3, 1) := laX laD11_ok (q := (1202, .iload_n 3, 1)) 24 rfl
theorem zd_La_law_1203 : decode code 1203 = .ok (.iconst 1, 1) := laX laD11_ok (q := (1203, .iconst 1, 1)) 25 rfl
theorem zd_La_law_1204 : decode code 1204 = .ok (.iadd, 1) := laX laD11_ok (q := (1204, .iadd, 1)) 26 rfl
theorem zd_La_law_1205 : decode code 1205 = .ok (.iaload, 1) := laX laD11_ok (q := (1205, .iaload, 1)) 27 rfl
theorem zd_La_law_1206 : decode code 1206 = .ok (.aload_n 0, 1) := laX laD11_ok (q := (1206, .aload_n 0, 1)) 28 rfl
theorem zd_La_law_1207 : decode code 1207 = .ok (.iload_n 3, 1) := laX laD11_ok (q := (1207, .iload_n 3, 1)) 29 rfl
theorem zd_La_law_1208 : decode code 1208 = .ok (.iconst 2, 1) := laX laD11_ok (q := (1208, .iconst 2, 1)) 30 rfl
theorem zd_La_law_1209 : decode code 1209 = .ok (.iadd, 1) := laX laD11_ok (q := (1209, .iadd, 1)) 31 rfl
theorem zd_La_law_1210 : decode code 1210 = .ok (.iaload, 1) := laX laD11_ok (q := (1210, .iaload, 1)) 32 rfl
theorem zd_La_law_1211 : decode code 1211 = .ok (.aload_n 0, 1) := laX laD11_ok (q := (1211, .aload_n 0, 1)) 33 rfl
theorem zd_La_law_1212 : decode code 1212 = .ok (.iload_n 3, 1) := laX laD11_ok (q := (1212, .iload_n 3, 1)) 34 rfl
theorem zd_La_law_1213 : decode code 1213 = .ok (.iconst 3, 1) := laX laD11_ok (q := (1213, .iconst 3, 1)) 35 rfl
theorem zd_La_law_1214 : decode code 1214 = .ok (.iadd, 1) := laX laD11_ok (q := (1214, .iadd, 1)) 36 rfl
theorem zd_La_law_1215 : decode code 1215 = .ok (.iaload, 1) := laX laD11_ok (q := (1215, .iaload, 1)) 37 rfl
theorem zd_La_law_1216 : decode code 1216 = .ok (.invokevirtual 137, 3) := laX laD11_ok (q := (1216, .invokevirtual 137, 3)) 38 rfl
theorem zd_La_law_1219 : decode code 1219 = .ok (.if_icmp .eq 226, 3) := laX laD11_ok (q := (1219, .if_icmp .eq 226, 3)) 39 rfl
theorem zd_La_law_1224 : decode code 1224 = .ok (.aload_n 1, 1) := laX laD11_ok (q := (1224, .aload_n 1, 1)) 40 rfl
theorem zd_La_law_1225 : decode code 1225 = .ok (.aload_n 0, 1) := laX laD11_ok (q := (1225, .aload_n 0, 1)) 41 rfl
theorem zd_La_law_1226 : decode code 1226 = .ok (.iload_n 3, 1) := laX laD11_ok (q := (1226, .iload_n 3, 1)) 42 rfl
theorem zd_La_law_1227 : decode code 1227 = .ok (.iconst 1, 1) := laX laD11_ok (q := (1227, .iconst 1, 1)) 43 rfl
theorem zd_La_law_1228 : decode code 1228 = .ok (.iadd, 1) := laX laD11_ok (q := (1228, .iadd, 1)) 44 rfl
theorem zd_La_law_1229 : decode code 1229 = .ok (.iaload, 1) := laX laD11_ok (q := (1229, .iaload, 1)) 45 rfl
theorem zd_La_law_1230 : decode code 1230 = .ok (.aload_n 0, 1) := laX laD11_ok (q := (1230, .aload_n 0, 1)) 46 rfl
theorem zd_La_law_1231 : decode code 1231 = .ok (.iload_n 3, 1) := laX laD11_ok (q := (1231, .iload_n 3, 1)) 47 rfl
theorem zd_La_law_1232 : decode code 1232 = .ok (.iconst 2, 1) := laX laD11_ok (q := (1232, .iconst 2, 1)) 48 rfl
theorem zd_La_law_1233 : decode code 1233 = .ok (.iadd, 1) := laX laD11_ok (q := (1233, .iadd, 1)) 49 rfl
theorem zd_La_law_1234 : decode code 1234 = .ok (.iaload, 1) := laX laD11_ok (q := (1234, .iaload, 1)) 50 rfl
theorem zd_La_law_1235 : decode code 1235 = .ok (.aload_n 0, 1) := laX laD11_ok (q := (1235, .aload_n 0, 1)) 51 rfl
theorem zd_La_law_1236 : decode code 1236 = .ok (.iload_n 3, 1) := laX laD11_ok (q := (1236, .iload_n 3, 1)) 52 rfl
theorem zd_La_law_1237 : decode code 1237 = .ok (.iconst 3, 1) := laX laD11_ok (q := (1237, .iconst 3, 1)) 53 rfl
theorem zd_La_law_1238 : decode code 1238 = .ok (.iadd, 1) := laX laD11_ok (q := (1238, .iadd, 1)) 54 rfl
theorem zd_La_law_1239 : decode code 1239 = .ok (.iaload, 1) := laX laD11_ok (q := (1239, .iaload, 1)) 55 rfl
theorem zd_La_law_1240 : decode code 1240 = .ok (.invokevirtual 138, 3) := laX laD11_ok (q := (1240, .invokevirtual 138, 3)) 56 rfl
theorem zd_La_law_1243 : decode code 1243 = .ok (.aload_n 2, 1) := laX laD11_ok (q := (1243, .aload_n 2, 1)) 57 rfl
theorem zd_La_law_1244 : decode code 1244 = .ok (.aload_n 0, 1) := laX laD11_ok (q := (1244, .aload_n 0, 1)) 58 rfl
theorem zd_La_law_1245 : decode code 1245 = .ok (.iload_n 3, 1) := laX laD11_ok (q := (1245, .iload_n 3, 1)) 59 rfl
theorem zd_La_law_1246 : decode code 1246 = .ok (.iconst 1, 1) := laX laD11_ok (q := (1246, .iconst 1, 1)) 60 rfl
theorem zd_La_law_1247 : decode code 1247 = .ok (.iadd, 1) := laX laD11_ok (q := (1247, .iadd, 1)) 61 rfl
theorem zd_La_law_1248 : decode code 1248 = .ok (.iaload, 1) := laX laD11_ok (q := (1248, .iaload, 1)) 62 rfl
theorem zd_La_law_1249 : decode code 1249 = .ok (.aload_n 0, 1) := laX laD11_ok (q := (1249, .aload_n 0, 1)) 63 rfl
theorem zd_La_law_1250 : decode code 1250 = .ok (.iload_n 3, 1) := laX laD11_ok (q := (1250, .iload_n 3, 1)) 64 rfl
theorem zd_La_law_1251 : decode code 1251 = .ok (.iconst 2, 1) := laX laD11_ok (q := (1251, .iconst 2, 1)) 65 rfl
theorem zd_La_law_1252 : decode code 1252 = .ok (.iadd, 1) := laX laD11_ok (q := (1252, .iadd, 1)) 66 rfl
theorem zd_La_law_1253 : decode code 1253 = .ok (.iaload, 1) := laX laD11_ok (q := (1253, .iaload, 1)) 67 rfl
theorem zd_La_law_1254 : decode code 1254 = .ok (.aload_n 0, 1) := laX laD11_ok (q := (1254, .aload_n 0, 1)) 68 rfl
theorem zd_La_law_1255 : decode code 1255 = .ok (.iload_n 3, 1) := laX laD11_ok (q := (1255, .iload_n 3, 1)) 69 rfl
def laD12 : List (Nat × Instr × Nat) := [(1256, .iconst 3, 1), (1257, .iadd, 1), (1258, .iaload, 1), (1259, .invokevirtual 141, 3), (1262, .if_icmp .eq 183, 3), (1267, .aload_n 1, 1), (1268, .aload_n 0, 1), (1269, .iload_n 3, 1), (1270, .iconst 1, 1), (1271, .iadd, 1), (1272, .iaload, 1), (1273, .aload_n 0, 1), (1274, .iload_n 3, 1), (1275, .iconst 2, 1), (1276, .iadd, 1), (1277, .iaload, 1), (1278, .invokevirtual 142, 3), (1281, .aload_n 2, 1), (1282, .aload_n 0, 1), (1283, .iload_n 3, 1), (1284, .iconst 1, 1), (1285, .iadd, 1), (1286, .iaload, 1), (1287, .aload_n 0, 1), (1288, .iload_n 3, 1), (1289, .iconst 2, 1), (1290, .iadd, 1), (1291, .iaload, 1), (1292, .invokevirtual 145, 3), (1295, .if_icmp .eq 150, 3), (1300, .aload_n 1, 1), (1301, .aload_n 0, 1), (1302, .iload_n 3, 1), (1303, .iconst 1, 1), (1304, .iadd, 1), (1305, .iaload, 1), (1306, .aload_n 0, 1), (1307, .iload_n 3, 1), (1308, .iconst 2, 1), (1309, .iadd, 1), (1310, .iaload, 1), (1311, .aload_n 0, 1), (1312, .iload_n 3, 1), (1313, .iconst 3, 1), (1314, .iadd, 1), (1315, .iaload, 1), (1316, .aload_n 0, 1), (1317, .iload_n 3, 1), (1318, .iconst 4, 1), (1319, .iadd, 1), (1320, .iaload, 1), (1321, .aload_n 0, 1), (1322, .iload_n 3, 1), (1323, .iconst 5, 1), (1324, .iadd, 1), (1325, .iaload, 1), (1326, .invokevirtual 146, 3), (1329, .aload_n 2, 1), (1330, .aload_n 0, 1), (1331, .iload_n 3, 1), (1332, .iconst 1, 1), (1333, .iadd, 1), (1334, .iaload, 1), (1335, .aload_n 0, 1), (1336, .iload_n 3, 1), (1337, .iconst 2, 1), (1338, .iadd, 1), (1339, .iaload, 1), (1340, .aload_n 0, 1), (1341, .iload_n 3, 1)]
theorem laD12_ok : (laD12.all fun q => decide (decode code q.1 = .ok (q.2.1, q.2.2))) = true := by decide +kernel
theorem zd_La_law_1256 : decode code 1256 = .ok (.iconst 3, 1) := laX laD12_ok (q := (1256, .iconst 3, 1)) 0 rfl
theorem zd_La_law_1257 : decode code 1257 = .ok (.iadd, 1) := laX laD12_ok (q := (1257, .iadd, 1)) 1 rfl
theorem zd_La_law_1258 : decode code 1258 = .ok (.iaload, 1) := laX laD12_ok (q := (1258, .iaload, 1)) 2 rfl
theorem zd_La_law_1259 : decode code 1259 = .ok (.invokevirtual 141, 3) := laX laD12_ok (q := (1259, .invokevirtual 141, 3)) 3 rfl
theorem zd_La_law_1262 : decode code 1262 = .ok (.if_icmp .eq 183, 3) := laX laD12_ok (q := (1262, .if_icmp .eq 183, 3)) 4 rfl
theorem zd_La_law_1267 : decode code 1267 = .ok (.aload_n 1, 1) := laX laD12_ok (q := (1267, .aload_n 1, 1)) 5 rfl
theorem zd_La_law_1268 : decode code 1268 = .ok (.aload_n 0, 1) := laX laD12_ok (q := (1268, .aload_n 0, 1)) 6 rfl
theorem zd_La_law_1269 : decode code 1269 = .ok (.iload_n 3, 1) := laX laD12_ok (q := (1269, .iload_n 3, 1)) 7 rfl
theorem zd_La_law_1270 : decode code 1270 = .ok (.iconst 1, 1) := laX laD12_ok (q := (1270, .iconst 1, 1)) 8 rfl
theorem zd_La_law_1271 : decode code 1271 = .ok (.iadd, 1) := laX laD12_ok (q := (1271, .iadd, 1)) 9 rfl
theorem zd_La_law_1272 : decode code 1272 = .ok (.iaload, 1) := laX laD12_ok (q := (1272, .iaload, 1)) 10 rfl
theorem zd_La_law_1273 : decode code 1273 = .ok (.aload_n 0, 1) := laX laD12_ok (q := (1273, .aload_n 0, 1)) 11 rfl
theorem zd_La_law_1274 : decode code 1274 = .ok (.iload_n 3, 1) := laX laD12_ok (q := (1274, .iload_n 3, 1)) 12 rfl
theorem zd_La_law_1275 : decode code 1275 = .ok (.iconst 2, 1) := laX laD12_ok (q := (1275, .iconst 2, 1)) 13 rfl
theorem zd_La_law_1276 : decode code 1276 = .ok (.iadd, 1) := laX laD12_ok (q := (1276, .iadd, 1)) 14 rfl
theorem zd_La_law_1277 : decode code 1277 = .ok (.iaload, 1) := laX laD12_ok (q := (1277, .iaload, 1)) 15 rfl
theorem zd_La_law_1278 : decode code 1278 = .ok (.invokevirtual 142, 3) := laX laD12_ok (q := (1278, .invokevirtual 142, 3)) 16 rfl
theorem zd_La_law_1281 : decode code 1281 = .ok (.aload_n 2, 1) := laX laD12_ok (q := (1281, .aload_n 2, 1)) 17 rfl
theorem zd_La_law_1282 : decode code 1282 = .ok (.aload_n 0, 1) := laX laD12_ok (q := (1282, .aload_n 0, 1)) 18 rfl
theorem zd_La_law_1283 : decode code 1283 = .ok (.iload_n 3, 1) := laX laD12_ok (q := (1283, .iload_n 3, 1)) 19 rfl
theorem zd_La_law_1284 : decode code 1284 = .ok (.iconst 1, 1) := laX laD12_ok (q := (1284, .iconst 1, 1)) 20 rfl
theorem zd_La_law_1285 : decode code 1285 = .ok (.iadd, 1) := laX laD12_ok (q := (1285, .iadd, 1)) 21 rfl
theorem zd_La_law_1286 : decode code 1286 = .ok (.iaload, 1) := laX laD12_ok (q := (1286, .iaload, 1)) 22 rfl
theorem zd_La_law_1287 : decode code 1287 = .ok (.aload_n 0, 1) := laX laD12_ok (q := (1287, .aload_n 0, 1)) 23 rfl
theorem zd_La_law_1288 : decode code 1288 = .ok (.iload_n 3, 1) := laX laD12_ok (q := (1288, .iload_n 3, 1)) 24 rfl
theorem zd_La_law_1289 : decode code 1289 = .ok (.iconst 2, 1) := laX laD12_ok (q := (1289, .iconst 2, 1)) 25 rfl
theorem zd_La_law_1290 : decode code 1290 = .ok (.iadd, 1) := laX laD12_ok (q := (1290, .iadd, 1)) 26 rfl
theorem zd_La_law_1291 : decode code 1291 = .ok (.iaload, 1) := laX laD12_ok (q := (1291, .iaload, 1)) 27 rfl
theorem zd_La_law_1292 : decode code 1292 = .ok (.invokevirtual 145, 3) := laX laD12_ok (q := (1292, .invokevirtual 145, 3)) 28 rfl
theorem zd_La_law_1295 : decode code 1295 = .ok (.if_icmp .eq 150, 3) := laX laD12_ok (q := (1295, .if_icmp .eq 150, 3)) 29 rfl
theorem zd_La_law_1300 : decode code 1300 = .ok (.aload_n 1, 1) := laX laD12_ok (q := (1300, .aload_n 1, 1)) 30 rfl
theorem zd_La_law_1301 : decode code 1301 = .ok (.aload_n 0, 1) := laX laD12_ok (q := (1301, .aload_n 0, 1)) 31 rfl
theorem zd_La_law_1302 : decode code 1302 = .ok (.iload_n 3, 1) := laX laD12_ok (q := (1302, .iload_n 3, 1)) 32 rfl
theorem zd_La_law_1303 : decode code 1303 = .ok (.iconst 1, 1) := laX laD12_ok (q := (1303, .iconst 1, 1)) 33 rfl
theorem zd_La_law_1304 : decode code 1304 = .ok (.iadd, 1) := laX laD12_ok (q := (1304, .iadd, 1)) 34 rfl
theorem zd_La_law_1305 : decode code 1305 = .ok (.iaload, 1) := laX laD12_ok (q := (1305, .iaload, 1)) 35 rfl
theorem zd_La_law_1306 : decode code 1306 = .ok (.aload_n 0, 1) := laX laD12_ok (q := (1306, .aload_n 0, 1)) 36 rfl
theorem zd_La_law_1307 : decode code 1307 = .ok (.iload_n 3, 1) := laX laD12_ok (q := (1307, .iload_n 3, 1)) 37 rfl
theorem zd_La_law_1308 : decode code 1308 = .ok (.iconst 2, 1) := laX laD12_ok (q := (1308, .iconst 2, 1)) 38 rfl
theorem zd_La_law_1309 : decode code 1309 = .ok (.iadd, 1) := laX laD12_ok (q := (1309, .iadd, 1)) 39 rfl
theorem zd_La_law_1310 : decode code 1310 = .ok (.iaload, 1) := laX laD12_ok (q := (1310, .iaload, 1)) 40 rfl
theorem zd_La_law_1311 : decode code 1311 = .ok (.aload_n 0, 1) := laX laD12_ok (q := (1311, .aload_n 0, 1)) 41 rfl
theorem zd_La_law_1312 : decode code 1312 = .ok (.iload_n 3, 1) := laX laD12_ok (q := (1312, .iload_n 3, 1)) 42 rfl
theorem zd_La_law_1313 : decode code 1313 = .ok (.iconst 3, 1) := laX laD12_ok (q := (1313, .iconst 3, 1)) 43 rfl
theorem zd_La_law_1314 : decode code 1314 = .ok (.iadd, 1) := laX laD12_ok (q := (1314, .iadd, 1)) 44 rfl
theorem zd_La_law_1315 : decode code 1315 = .ok (.iaload, 1) := laX laD12_ok (q := (1315, .iaload, 1)) 45 rfl
theorem zd_La_law_1316 : decode code 1316 = .ok (.aload_n 0, 1) := laX laD12_ok (q := (1316, .aload_n 0, 1)) 46 rfl
theorem zd_La_law_1317 : decode code 1317 = .ok (.iload_n 3, 1) := laX laD12_ok (q := (1317, .iload_n 3, 1)) 47 rfl
theorem zd_La_law_1318 : decode code 1318 = .ok (.iconst 4, 1) := laX laD12_ok (q := (1318, .iconst 4, 1)) 48 rfl
theorem zd_La_law_1319 : decode code 1319 = .ok (.iadd, 1) := laX laD12_ok (q := (1319, .iadd, 1)) 49 rfl
theorem zd_La_law_1320 : decode code 1320 = .ok (.iaload, 1) := laX laD12_ok (q := (1320, .iaload, 1)) 50 rfl
theorem zd_La_law_1321 : decode code 1321 = .ok (.aload_n 0, 1) := laX laD12_ok (q := (1321, .aload_n 0, 1)) 51 rfl
theorem zd_La_law_1322 : decode code 1322 = .ok (.iload_n 3, 1) := laX laD12_ok (q := (1322, .iload_n 3, 1)) 52 rfl
theorem zd_La_law_1323 : decode code 1323 = .ok (.iconst 5, 1) := laX laD12_ok (q := (1323, .iconst 5, 1)) 53 rfl
theorem zd_La_law_1324 : decode code 1324 = .ok (.iadd, 1) := laX laD12_ok (q := (1324, .iadd, 1)) 54 rfl
theorem zd_La_law_1325 : decode code 1325 = .ok (.iaload, 1) := laX laD12_ok (q := (1325, .iaload, 1)) 55 rfl
theorem zd_La_law_1326 : decode code 1326 = .ok (.invokevirtual 146, 3) := laX laD12_ok (q := (1326, .invokevirtual 146, 3)) 56 rfl
theorem zd_La_law_1329 : decode code 1329 = .ok (.aload_n 2, 1) := laX laD12_ok (q := (1329, .aload_n 2, 1)) 57 rfl
theorem zd_La_law_1330 : decode code 1330 = .ok (.aload_n 0, 1) := laX laD12_ok (q := (1330, .aload_n 0, 1)) 58 rfl
theorem zd_La_law_1331 : decode code 1331 = .ok (.iload_n 3, 1) := laX laD12_ok (q := (1331, .iload_n 3, 1)) 59 rfl
theorem zd_La_law_1332 : decode code 1332 = .ok (.iconst 1, 1) := laX laD12_ok (q := (1332, .iconst 1, 1)) 60 rfl
theorem zd_La_law_1333 : decode code 1333 = .ok (.iadd, 1) := laX laD12_ok (q := (1333, .iadd, 1)) 61 rfl
theorem zd_La_law_1334 : decode code 1334 = .ok (.iaload, 1) := laX laD12_ok (q := (1334, .iaload, 1)) 62 rfl
theorem zd_La_law_1335 : decode code 1335 = .ok (.aload_n 0, 1) := laX laD12_ok (q := (1335, .aload_n 0, 1)) 63 rfl
theorem zd_La_law_1336 : decode code 1336 = .ok (.iload_n 3, 1) := laX laD12_ok (q := (1336, .iload_n 3, 1)) 64 rfl
theorem zd_La_law_1337 : decode code 1337 = .ok (.iconst 2, 1) := laX laD12_ok (q := (1337, .iconst 2, 1)) 65 rfl
theorem zd_La_law_1338 : decode code 1338 = .ok (.iadd, 1) := laX laD12_ok (q := (1338, .iadd, 1)) 66 rfl
theorem zd_La_law_1339 : decode code 1339 = .ok (.iaload, 1) := laX laD12_ok (q := (1339, .iaload, 1)) 67 rfl
theorem zd_La_law_1340 : decode code 1340 = .ok (.aload_n 0, 1) := laX laD12_ok (q := (1340, .aload_n 0, 1)) 68 rfl
theorem zd_La_law_1341 : decode code 1341 = .ok (.iload_n 3, 1) := laX laD12_ok (q := (1341, .iload_n 3, 1)) 69 rfl
def laD13 : List (Nat × Instr × Nat) := [(1342, .iconst 3, 1), (1343, .iadd, 1), (1344, .iaload, 1), (1345, .aload_n 0, 1), (1346, .iload_n 3, 1), (1347, .iconst 4, 1), (1348, .iadd, 1), (1349, .iaload, 1), (1350, .aload_n 0, 1), (1351, .iload_n 3, 1), (1352, .iconst 5, 1), (1353, .iadd, 1), (1354, .iaload, 1), (1355, .invokevirtual 150, 3), (1358, .if_icmp .eq 87, 3), (1363, .aload_n 1, 1), (1364, .aload_n 0, 1), (1365, .iload_n 3, 1), (1366, .iconst 1, 1), (1367, .iadd, 1), (1368, .iaload, 1), (1369, .aload_n 0, 1), (1370, .iload_n 3, 1), (1371, .iconst 2, 1), (1372, .iadd, 1), (1373, .iaload, 1), (1374, .invokevirtual 151, 3), (1377, .aload_n 2, 1), (1378, .aload_n 0, 1), (1379, .iload_n 3, 1), (1380, .iconst 1, 1), (1381, .iadd, 1), (1382, .iaload, 1), (1383, .aload_n 0, 1), (1384, .iload_n 3, 1), (1385, .iconst 2, 1), (1386, .iadd, 1), (1387, .iaload, 1), (1388, .invokevirtual 154, 3), (1391, .if_icmp .eq 54, 3), (1396, .aload_n 1, 1), (1397, .invokevirtual 155, 3), (1400, .aload_n 2, 1), (1401, .invokevirtual 158, 3), (1404, .if_icmp .eq 41, 3), (1409, .aload_n 1, 1), (1410, .invokevirtual 159, 3), (1413, .aload_n 2, 1), (1414, .invokevirtual 162, 3), (1417, .if_icmp .eq 28, 3), (1422, .aload_n 1, 1), (1423, .aload_n 0, 1), (1424, .iload_n 3, 1), (1425, .iconst 1, 1), (1426, .iadd, 1), (1427, .iaload, 1), (1428, .invokevirtual 163, 3), (1431, .aload_n 2, 1), (1432, .aload_n 0, 1), (1433, .iload_n 3, 1), (1434, .iconst 1, 1), (1435, .iadd, 1), (1436, .iaload, 1), (1437, .invokevirtual 166, 3), (1440, .if_icmp .eq 5, 3), (1445, .iinc 3 6, 3), (1448, .goto (-1430), 3), (1451, .iconst 1, 1), (1452, .ireturn, 1)]
theorem laD13_ok : (laD13.all fun q => decide (decode code q.1 = .ok (q.2.1, q.2.2))) = true := by decide +kernel
theorem zd_La_law_1342 : decode code 1342 = .ok (.iconst 3, 1) := laX laD13_ok (q := (1342, .iconst 3, 1)) 0 rfl
theorem zd_La_law_1343 : decode code 1343 = .ok (.iadd, 1) := laX laD13_ok (q := (1343, .iadd, 1)) 1 rfl
theorem zd_La_law_1344 : decode code 1344 = .ok (.iaload, 1) := laX laD13_ok (q := (1344, .iaload, 1)) 2 rfl
theorem zd_La_law_1345 : decode code 1345 = .ok (.aload_n 0, 1) := laX laD13_ok (q := (1345, .aload_n 0, 1)) 3 rfl
theorem zd_La_law_1346 : decode code 1346 = .ok (.iload_n 3, 1) := laX laD13_ok (q := (1346, .iload_n 3, 1)) 4 rfl
theorem zd_La_law_1347 : decode code 1347 = .ok (.iconst 4, 1) := laX laD13_ok (q := (1347, .iconst 4, 1)) 5 rfl
theorem zd_La_law_1348 : decode code 1348 = .ok (.iadd, 1) := laX laD13_ok (q := (1348, .iadd, 1)) 6 rfl
theorem zd_La_law_1349 : decode code 1349 = .ok (.iaload, 1) := laX laD13_ok (q := (1349, .iaload, 1)) 7 rfl
theorem zd_La_law_1350 : decode code 1350 = .ok (.aload_n 0, 1) := laX laD13_ok (q := (1350, .aload_n 0, 1)) 8 rfl
theorem zd_La_law_1351 : decode code 1351 = .ok (.iload_n 3, 1) := laX laD13_ok (q := (1351, .iload_n 3, 1)) 9 rfl
theorem zd_La_law_1352 : decode code 1352 = .ok (.iconst 5, 1) := laX laD13_ok (q := (1352, .iconst 5, 1)) 10 rfl
theorem zd_La_law_1353 : decode code 1353 = .ok (.iadd, 1) := laX laD13_ok (q := (1353, .iadd, 1)) 11 rfl
theorem zd_La_law_1354 : decode code 1354 = .ok (.iaload, 1) := laX laD13_ok (q := (1354, .iaload, 1)) 12 rfl
theorem zd_La_law_1355 : decode code 1355 = .ok (.invokevirtual 150, 3) := laX laD13_ok (q := (1355, .invokevirtual 150, 3)) 13 rfl
theorem zd_La_law_1358 : decode code 1358 = .ok (.if_icmp .eq 87, 3) := laX laD13_ok (q := (1358, .if_icmp .eq 87, 3)) 14 rfl
theorem zd_La_law_1363 : decode code 1363 = .ok (.aload_n 1, 1) := laX laD13_ok (q := (1363, .aload_n 1, 1)) 15 rfl
theorem zd_La_law_1364 : decode code 1364 = .ok (.aload_n 0, 1) := laX laD13_ok (q := (1364, .aload_n 0, 1)) 16 rfl
theorem zd_La_law_1365 : decode code 1365 = .ok (.iload_n 3, 1) := laX laD13_ok (q := (1365, .iload_n 3, 1)) 17 rfl
theorem zd_La_law_1366 : decode code 1366 = .ok (.iconst 1, 1) := laX laD13_ok (q := (1366, .iconst 1, 1)) 18 rfl
theorem zd_La_law_1367 : decode code 1367 = .ok (.iadd, 1) := laX laD13_ok (q := (1367, .iadd, 1)) 19 rfl
theorem zd_La_law_1368 : decode code 1368 = .ok (.iaload, 1) := laX laD13_ok (q := (1368, .iaload, 1)) 20 rfl
theorem zd_La_law_1369 : decode code 1369 = .ok (.aload_n 0, 1) := laX laD13_ok (q := (1369, .aload_n 0, 1)) 21 rfl
theorem zd_La_law_1370 : decode code 1370 = .ok (.iload_n 3, 1) := laX laD13_ok (q := (1370, .iload_n 3, 1)) 22 rfl
theorem zd_La_law_1371 : decode code 1371 = .ok (.iconst 2, 1) := laX laD13_ok (q := (1371, .iconst 2, 1)) 23 rfl
theorem zd_La_law_1372 : decode code 1372 = .ok (.iadd, 1) := laX laD13_ok (q := (1372, .iadd, 1)) 24 rfl
theorem zd_La_law_1373 : decode code 1373 = .ok (.iaload, 1) := laX laD13_ok (q := (1373, .iaload, 1)) 25 rfl
theorem zd_La_law_1374 : decode code 1374 = .ok (.invokevirtual 151, 3) := laX laD13_ok (q := (1374, .invokevirtual 151, 3)) 26 rfl
theorem zd_La_law_1377 : decode code 1377 = .ok (.aload_n 2, 1) := laX laD13_ok (q := (1377, .aload_n 2, 1)) 27 rfl
theorem zd_La_law_1378 : decode code 1378 = .ok (.aload_n 0, 1) := laX laD13_ok (q := (1378, .aload_n 0, 1)) 28 rfl
theorem zd_La_law_1379 : decode code 1379 = .ok (.iload_n 3, 1) := laX laD13_ok (q := (1379, .iload_n 3, 1)) 29 rfl
theorem zd_La_law_1380 : decode code 1380 = .ok (.iconst 1, 1) := laX laD13_ok (q := (1380, .iconst 1, 1)) 30 rfl
theorem zd_La_law_1381 : decode code 1381 = .ok (.iadd, 1) := laX laD13_ok (q := (1381, .iadd, 1)) 31 rfl
theorem zd_La_law_1382 : decode code 1382 = .ok (.iaload, 1) := laX laD13_ok (q := (1382, .iaload, 1)) 32 rfl
theorem zd_La_law_1383 : decode code 1383 = .ok (.aload_n 0, 1) := laX laD13_ok (q := (1383, .aload_n 0, 1)) 33 rfl
theorem zd_La_law_1384 : decode code 1384 = .ok (.iload_n 3, 1) := laX laD13_ok (q := (1384, .iload_n 3, 1)) 34 rfl
theorem zd_La_law_1385 : decode code 1385 = .ok (.iconst 2, 1) := laX laD13_ok (q := (1385, .iconst 2, 1)) 35 rfl
theorem zd_La_law_1386 : decode code 1386 = .ok (.iadd, 1) := laX laD13_ok (q := (1386, .iadd, 1)) 36 rfl
theorem zd_La_law_1387 : decode code 1387 = .ok (.iaload, 1) := laX laD13_ok (q := (1387, .iaload, 1)) 37 rfl
theorem zd_La_law_1388 : decode code 1388 = .ok (.invokevirtual 154, 3) := laX laD13_ok (q := (1388, .invokevirtual 154, 3)) 38 rfl
theorem zd_La_law_1391 : decode code 1391 = .ok (.if_icmp .eq 54, 3) := laX laD13_ok (q := (1391, .if_icmp .eq 54, 3)) 39 rfl
theorem zd_La_law_1396 : decode code 1396 = .ok (.aload_n 1, 1) := laX laD13_ok (q := (1396, .aload_n 1, 1)) 40 rfl
theorem zd_La_law_1397 : decode code 1397 = .ok (.invokevirtual 155, 3) := laX laD13_ok (q := (1397, .invokevirtual 155, 3)) 41 rfl
theorem zd_La_law_1400 : decode code 1400 = .ok (.aload_n 2, 1) := laX laD13_ok (q := (1400, .aload_n 2, 1)) 42 rfl
theorem zd_La_law_1401 : decode code 1401 = .ok (.invokevirtual 158, 3) := laX laD13_ok (q := (1401, .invokevirtual 158, 3)) 43 rfl
theorem zd_La_law_1404 : decode code 1404 = .ok (.if_icmp .eq 41, 3) := laX laD13_ok (q := (1404, .if_icmp .eq 41, 3)) 44 rfl
theorem zd_La_law_1409 : decode code 1409 = .ok (.aload_n 1, 1) := laX laD13_ok (q := (1409, .aload_n 1, 1)) 45 rfl
theorem zd_La_law_1410 : decode code 1410 = .ok (.invokevirtual 159, 3) := laX laD13_ok (q := (1410, .invokevirtual 159, 3)) 46 rfl
theorem zd_La_law_1413 : decode code 1413 = .ok (.aload_n 2, 1) := laX laD13_ok (q := (1413, .aload_n 2, 1)) 47 rfl
theorem zd_La_law_1414 : decode code 1414 = .ok (.invokevirtual 162, 3) := laX laD13_ok (q := (1414, .invokevirtual 162, 3)) 48 rfl
theorem zd_La_law_1417 : decode code 1417 = .ok (.if_icmp .eq 28, 3) := laX laD13_ok (q := (1417, .if_icmp .eq 28, 3)) 49 rfl
theorem zd_La_law_1422 : decode code 1422 = .ok (.aload_n 1, 1) := laX laD13_ok (q := (1422, .aload_n 1, 1)) 50 rfl
theorem zd_La_law_1423 : decode code 1423 = .ok (.aload_n 0, 1) := laX laD13_ok (q := (1423, .aload_n 0, 1)) 51 rfl
theorem zd_La_law_1424 : decode code 1424 = .ok (.iload_n 3, 1) := laX laD13_ok (q := (1424, .iload_n 3, 1)) 52 rfl
theorem zd_La_law_1425 : decode code 1425 = .ok (.iconst 1, 1) := laX laD13_ok (q := (1425, .iconst 1, 1)) 53 rfl
theorem zd_La_law_1426 : decode code 1426 = .ok (.iadd, 1) := laX laD13_ok (q := (1426, .iadd, 1)) 54 rfl
theorem zd_La_law_1427 : decode code 1427 = .ok (.iaload, 1) := laX laD13_ok (q := (1427, .iaload, 1)) 55 rfl
theorem zd_La_law_1428 : decode code 1428 = .ok (.invokevirtual 163, 3) := laX laD13_ok (q := (1428, .invokevirtual 163, 3)) 56 rfl
theorem zd_La_law_1431 : decode code 1431 = .ok (.aload_n 2, 1) := laX laD13_ok (q := (1431, .aload_n 2, 1)) 57 rfl
theorem zd_La_law_1432 : decode code 1432 = .ok (.aload_n 0, 1) := laX laD13_ok (q := (1432, .aload_n 0, 1)) 58 rfl
theorem zd_La_law_1433 : decode code 1433 = .ok (.iload_n 3, 1) := laX laD13_ok (q := (1433, .iload_n 3, 1)) 59 rfl
theorem zd_La_law_1434 : decode code 1434 = .ok (.iconst 1, 1) := laX laD13_ok (q := (1434, .iconst 1, 1)) 60 rfl
theorem zd_La_law_1435 : decode code 1435 = .ok (.iadd, 1) := laX laD13_ok (q := (1435, .iadd, 1)) 61 rfl
theorem zd_La_law_1436 : decode code 1436 = .ok (.iaload, 1) := laX laD13_ok (q := (1436, .iaload, 1)) 62 rfl
theorem zd_La_law_1437 : decode code 1437 = .ok (.invokevirtual 166, 3) := laX laD13_ok (q := (1437, .invokevirtual 166, 3)) 63 rfl
theorem zd_La_law_1440 : decode code 1440 = .ok (.if_icmp .eq 5, 3) := laX laD13_ok (q := (1440, .if_icmp .eq 5, 3)) 64 rfl
theorem zd_La_law_1445 : decode code 1445 = .ok (.iinc 3 6, 3) := laX laD13_ok (q := (1445, .iinc 3 6, 3)) 65 rfl
theorem zd_La_law_1448 : decode code 1448 = .ok (.goto (-1430), 3) := laX laD13_ok (q := (1448, .goto (-1430), 3)) 66 rfl
theorem zd_La_law_1451 : decode code 1451 = .ok (.iconst 1, 1) := laX laD13_ok (q := (1451, .iconst 1, 1)) 67 rfl
theorem zd_La_law_1452 : decode code 1452 = .ok (.ireturn, 1) := laX laD13_ok (q := (1452, .ireturn, 1)) 68 rfl
