theorem drL_law_1172 : ([(1172, (.iconst 2), 1), (1173, .iadd, 1), (1174, .iaload, 1), (1175, (.aload_n 0), 1), (1176, (.iload 4), 2), (1178, (.iconst 3), 1), (1179, .iadd, 1), (1180, .iaload, 1), (1181, (.aload_n 3), 1), (1182, (.invokestatic 210), 3), (1185, (.istore 5), 2), (1187, (.aload_n 2), 1), (1188, (.aload_n 0), 1), (1189, (.iload 4), 2), (1191, (.iconst 1), 1), (1192, .iadd, 1), (1193, .iaload, 1), (1194, (.aload_n 0), 1), (1195, (.iload 4), 2), (1197, (.iconst 2), 1), (1198, .iadd, 1), (1199, .iaload, 1), (1200, (.aload_n 0), 1), (1201, (.iload 4), 2), (1203, (.iconst 3), 1), (1204, .iadd, 1), (1205, .iaload, 1), (1206, (.invokevirtual 212), 3), (1209, (.istore 6), 2), (1211, (.goto 788), 3), (1214, (.aload_n 1), 1), (1215, (.invokevirtual 213), 3), (1218, .pop, 1), (1219, (.aload_n 2), 1), (1220, (.invokevirtual 216), 3), (1223, .pop, 1), (1224, (.goto 775), 3), (1227, (.aload_n 1), 1), (1228, (.aload_n 0), 1), (1229, (.iload 4), 2), (1231, (.iconst 1), 1), (1232, .iadd, 1), (1233, .iaload, 1), (1234, (.aload_n 0), 1), (1235, (.iload 4), 2), (1237, (.iconst 2), 1), (1238, .iadd, 1), (1239, .iaload, 1), (1240, (.invokestatic 217), 3), (1243, (.istore 5), 2), (1245, (.aload_n 2), 1), (1246, (.aload_n 0), 1), (1247, (.iload 4), 2), (1249, (.iconst 1), 1), (1250, .iadd, 1), (1251, .iaload, 1), (1252, (.aload_n 0), 1), (1253, (.iload 4), 2), (1255, (.iconst 2), 1), (1256, .iadd, 1), (1257, .iaload, 1), (1258, (.invokevirtual 219), 3), (1261, (.goto 738), 3), (1264, (.aload_n 1), 1), (1265, (.aload_n 0), 1), (1266, (.iload 4), 2), (1268, (.iconst 1), 1), (1269, .iadd, 1)] : List (Nat × Instr × Nat)).all (fun q => decide (decode code q.1 = .ok q.2)) = true := by decide +kernel
theorem dL_1172 : dc code 1172 1173 (.iconst 2) 1 := ⟨dr_at drL_law_1172 (i := 0) rfl, rfl⟩
theorem dL_1173 : dc code 1173 1174 .iadd 1 := ⟨dr_at drL_law_1172 (i := 1) rfl, rfl⟩
theorem dL_1174 : dc code 1174 1175 .iaload 1 := ⟨dr_at drL_law_1172 (i := 2) rfl, rfl⟩
theorem dL_1175 : dc code 1175 1176 (.aload_n 0) 1 := ⟨dr_at drL_law_1172 (i := 3) rfl, rfl⟩
theorem dL_1176 : dc code 1176 1178 (.iload 4) 2 := ⟨dr_at drL_law_1172 (i := 4) rfl, rfl⟩
theorem dL_1178 : dc code 1178 1179 (.iconst 3) 1 := ⟨dr_at drL_law_1172 (i := 5) rfl, rfl⟩
theorem dL_1179 : dc code 1179 1180 .iadd 1 := ⟨dr_at drL_law_1172 (i := 6) rfl, rfl⟩
theorem dL_1180 : dc code 1180 1181 .iaload 1 := ⟨dr_at drL_law_1172 (i := 7) rfl, rfl⟩
theorem dL_1181 : dc code 1181 1182 (.aload_n 3) 1 := ⟨dr_at drL_law_1172 (i := 8) rfl, rfl⟩
theorem dL_1182 : dc code 1182 1185 (.invokestatic 210) 3 := ⟨dr_at drL_law_1172 (i := 9) rfl, rfl⟩
theorem dL_1185 : dc code 1185 1187 (.istore 5) 2 := ⟨dr_at drL_law_1172 (i := 10) rfl, rfl⟩
theorem dL_1187 : dc code 1187 1188 (.aload_n 2) 1 := ⟨dr_at drL_law_1172 (i := 11) rfl, rfl⟩
theorem dL_1188 : dc code 1188 1189 (.aload_n 0) 1 := ⟨dr_at drL_law_1172 (i := 12) rfl, rfl⟩
theorem dL_1189 : dc code 1189 1191 (.iload 4) 2 := ⟨dr_at drL_law_1172 (i := 13) rfl, rfl⟩
theorem dL_1191 : dc code 1191 1192 (.iconst 1) 1 := ⟨dr_at drL_law_1172 (i := 14) rfl, rfl⟩
theorem dL_1192 : dc code 1192 1193 .iadd 1 := ⟨dr_at drL_law_1172 (i := 15) rfl, rfl⟩
theorem dL_1193 : dc code 1193 1194 .iaload 1 := ⟨dr_at drL_law_1172 (i := 16) rfl, rfl⟩
theorem dL_1194 : dc code 1194 1195 (.aload_n 0) 1 := ⟨dr_at drL_law_1172 (i := 17) rfl, rfl⟩
theorem dL_1195 : dc code 1195 1197 (.iload 4) 2 := ⟨dr_at drL_law_1172 (i := 18) rfl, rfl⟩
theorem dL_1197 : dc code 1197 1198 (.iconst 2) 1 := ⟨dr_at drL_law_1172 (i := 19) rfl, rfl⟩
theorem dL_1198 : dc code 1198 1199 .iadd 1 := ⟨dr_at drL_law_1172 (i := 20) rfl, rfl⟩
theorem dL_1199 : dc code 1199 1200 .iaload 1 := ⟨dr_at drL_law_1172 (i := 21) rfl, rfl⟩
theorem dL_1200 : dc code 1200 1201 (.aload_n 0) 1 := ⟨dr_at drL_law_1172 (i := 22) rfl, rfl⟩
theorem dL_1201 : dc code 1201 1203 (.iload 4) 2 := ⟨dr_at drL_law_1172 (i := 23) rfl, rfl⟩
theorem dL_1203 : dc code 1203 1204 (.iconst 3) 1 := ⟨dr_at drL_law_1172 (i := 24) rfl, rfl⟩
theorem dL_1204 : dc code 1204 1205 .iadd 1 := ⟨dr_at drL_law_1172 (i := 25) rfl, rfl⟩
theorem dL_1205 : dc code 1205 1206 .iaload 1 := ⟨dr_at drL_law_1172 (i := 26) rfl, rfl⟩
theorem dL_1206 : dc code 1206 1209 (.invokevirtual 212) 3 := ⟨dr_at drL_law_1172 (i := 27) rfl, rfl⟩
theorem dL_1209 : dc code 1209 1211 (.istore 6) 2 := ⟨dr_at drL_law_1172 (i := 28) rfl, rfl⟩
theorem dL_1211 : dc code 1211 1214 (.goto 788) 3 := ⟨dr_at drL_law_1172 (i := 29) rfl, rfl⟩
theorem dL_1214 : dc code 1214 1215 (.aload_n 1) 1 := ⟨dr_at drL_law_1172 (i := 30) rfl, rfl⟩
theorem dL_1215 : dc code 1215 1218 (.invokevirtual 213) 3 := ⟨dr_at drL_law_1172 (i := 31) rfl, rfl⟩
theorem dL_1218 : dc code 1218 1219 .pop 1 := ⟨dr_at drL_law_1172 (i := 32) rfl, rfl⟩
theorem dL_1219 : dc code 1219 1220 (.aload_n 2) 1 := ⟨dr_at drL_law_1172 (i := 33) rfl, rfl⟩
theorem dL_1220 : dc code 1220 1223 (.invokevirtual 216) 3 := ⟨dr_at drL_law_1172 (i := 34) rfl, rfl⟩
theorem dL_1223 : dc code 1223 1224 .pop 1 := ⟨dr_at drL_law_1172 (i := 35) rfl, rfl⟩
theorem dL_1224 : dc code 1224 1227 (.goto 775) 3 := ⟨dr_at drL_law_1172 (i := 36) rfl, rfl⟩
theorem dL_1227 : dc code 1227 1228 (.aload_n 1) 1 := ⟨dr_at drL_law_1172 (i := 37) rfl, rfl⟩
theorem dL_1228 : dc code 1228 1229 (.aload_n 0) 1 := ⟨dr_at drL_law_1172 (i := 38) rfl, rfl⟩
theorem dL_1229 : dc code 1229 1231 (.iload 4) 2 := ⟨dr_at drL_law_1172 (i := 39) rfl, rfl⟩
theorem dL_1231 : dc code 1231 1232 (.iconst 1) 1 := ⟨dr_at drL_law_1172 (i := 40) rfl, rfl⟩
theorem dL_1232 : dc code 1232 1233 .iadd 1 := ⟨dr_at drL_law_1172 (i := 41) rfl, rfl⟩
theorem dL_1233 : dc code 1233 1234 .iaload 1 := ⟨dr_at drL_law_1172 (i := 42) rfl, rfl⟩
theorem dL_1234 : dc code 1234 1235 (.aload_n 0) 1 := ⟨dr_at drL_law_1172 (i := 43) rfl, rfl⟩
theorem dL_1235 : dc code 1235 1237 (.iload 4) 2 := ⟨dr_at drL_law_1172 (i := 44) rfl, rfl⟩
theorem dL_1237 : dc code 1237 1238 (.iconst 2) 1 := ⟨dr_at drL_law_1172 (i := 45) rfl, rfl⟩
theorem dL_1238 : dc code 1238 1239 .iadd 1 := ⟨dr_at drL_law_1172 (i := 46) rfl, rfl⟩
theorem dL_1239 : dc code 1239 1240 .iaload 1 := ⟨dr_at drL_law_1172 (i := 47) rfl, rfl⟩
theorem dL_1240 : dc code 1240 1243 (.invokestatic 217) 3 := ⟨dr_at drL_law_1172 (i := 48) rfl, rfl⟩
theorem dL_1243 : dc code 1243 1245 (.istore 5) 2 := ⟨dr_at drL_law_1172 (i := 49) rfl, rfl⟩
theorem dL_1245 : dc code 1245 1246 (.aload_n 2) 1 := ⟨dr_at drL_law_1172 (i := 50) rfl, rfl⟩
theorem dL_1246 : dc code 1246 1247 (.aload_n 0) 1 := ⟨dr_at drL_law_1172 (i := 51) rfl, rfl⟩
theorem dL_1247 : dc code 1247 1249 (.iload 4) 2 := ⟨dr_at drL_law_1172 (i := 52) rfl, rfl⟩
theorem dL_1249 : dc code 1249 1250 (.iconst 1) 1 := ⟨dr_at drL_law_1172 (i := 53) rfl, rfl⟩
theorem dL_1250 : dc code 1250 1251 .iadd 1 := ⟨dr_at drL_law_1172 (i := 54) rfl, rfl⟩
theorem dL_1251 : dc code 1251 1252 .iaload 1 := ⟨dr_at drL_law_1172 (i := 55) rfl, rfl⟩
theorem dL_1252 : dc code 1252 1253 (.aload_n 0) 1 := ⟨dr_at drL_law_1172 (i := 56) rfl, rfl⟩
theorem dL_1253 : dc code 1253 1255 (.iload 4) 2 := ⟨dr_at drL_law_1172 (i := 57) rfl, rfl⟩
theorem dL_1255 : dc code 1255 1256 (.iconst 2) 1 := ⟨dr_at drL_law_1172 (i := 58) rfl, rfl⟩
theorem dL_1256 : dc code 1256 1257 .iadd 1 := ⟨dr_at drL_law_1172 (i := 59) rfl, rfl⟩
theorem dL_1257 : dc code 1257 1258 .iaload 1 := ⟨dr_at drL_law_1172 (i := 60) rfl, rfl⟩
theorem dL_1258 : dc code 1258 1261 (.invokevirtual 219) 3 := ⟨dr_at drL_law_1172 (i := 61) rfl, rfl⟩
theorem dL_1261 : dc code 1261 1264 (.goto 738) 3 := ⟨dr_at drL_law_1172 (i := 62) rfl, rfl⟩
theorem dL_1264 : dc code 1264 1265 (.aload_n 1) 1 := ⟨dr_at drL_law_1172 (i := 63) rfl, rfl⟩
theorem dL_1265 : dc code 1265 1266 (.aload_n 0) 1 := ⟨dr_at drL_law_1172 (i := 64) rfl, rfl⟩
theorem dL_1266 : dc code 1266 1268 (.iload 4) 2 := ⟨dr_at drL_law_1172 (i := 65) rfl, rfl⟩
theorem dL_1268 : dc code 1268 1269 (.iconst 1) 1 := ⟨dr_at drL_law_1172 (i := 66) rfl, rfl⟩
theorem dL_1269 : dc code 1269 1270 .iadd 1 := ⟨dr_at drL_law_1172 (i := 67) rfl, rfl⟩
theorem drL_law_1270 : ([(1270, .iaload, 1), (1271, (.aload_n 0), 1), (1272, (.iload 4), 2), (1274, (.iconst 2), 1), (1275, .iadd, 1), (1276, .iaload, 1), (1277, (.aload_n 0), 1), (1278, (.iload 4), 2), (1280, (.iconst 3), 1), (1281, .iadd, 1), (1282, .iaload, 1), (1283, (.aload_n 0), 1), (1284, (.iload 4), 2), (1286, (.iconst 4), 1), (1287, .iadd, 1), (1288, .iaload, 1), (1289, (.ifCond .eq 7), 3), (1292, (.iconst 1), 1), (1293, (.goto 4), 3), (1296, (.iconst 0), 1), (1297, (.aload_n 0), 1), (1298, (.iload 4), 2), (1300, (.iconst 5), 1), (1301, .iadd, 1), (1302, .iaload, 1), (1303, (.ifCond .eq 7), 3), (1306, (.iconst 1), 1), (1307, (.goto 4), 3), (1310, (.iconst 0), 1), (1311, (.aload_n 3), 1), (1312, (.invokestatic 220), 3), (1315, (.istore 5), 2), (1317, (.aload_n 2), 1), (1318, (.aload_n 0), 1), (1319, (.iload 4), 2), (1321, (.iconst 1), 1), (1322, .iadd, 1), (1323, .iaload, 1), (1324, (.aload_n 0), 1), (1325, (.iload 4), 2), (1327, (.iconst 2), 1), (1328, .iadd, 1), (1329, .iaload, 1), (1330, (.aload_n 0), 1), (1331, (.iload 4), 2), (1333, (.iconst 3), 1), (1334, .iadd, 1), (1335, .iaload, 1), (1336, (.aload_n 0), 1), (1337, (.iload 4), 2), (1339, (.iconst 4), 1), (1340, .iadd, 1), (1341, .iaload, 1), (1342, (.ifCond .eq 7), 3), (1345, (.iconst 1), 1), (1346, (.goto 4), 3), (1349, (.iconst 0), 1), (1350, (.aload_n 0), 1), (1351, (.iload 4), 2), (1353, (.iconst 5), 1), (1354, .iadd, 1), (1355, .iaload, 1)] : List (Nat × Instr × Nat)).all (fun q => decide (decode code q.1 = .ok q.2)) = true := by decide +kernel
theorem dL_1270 : dc code 1270 1271 .iaload 1 := ⟨dr_at drL_law_1270 (i := 0) rfl, rfl⟩
theorem dL_1271 : dc code 1271 1272 (.aload_n 0) 1 := ⟨dr_at drL_law_1270 (i := 1) rfl, rfl⟩
theorem dL_1272 : dc code 1272 1274 (.iload 4) 2 := ⟨dr_at drL_law_1270 (i := 2) rfl, rfl⟩
theorem dL_1274 : dc code 1274 1275 (.iconst 2) 1 := ⟨dr_at drL_law_1270 (i := 3) rfl, rfl⟩
theorem dL_1275 : dc code 1275 1276 .iadd 1 := ⟨dr_at drL_law_1270 (i := 4) rfl, rfl⟩
theorem dL_1276 : dc code 1276 1277 .iaload 1 := ⟨dr_at drL_law_1270 (i := 5) rfl, rfl⟩
theorem dL_1277 : dc code 1277 1278 (.aload_n 0) 1 := ⟨dr_at drL_law_1270 (i := 6) rfl, rfl⟩
theorem dL_1278 : dc code 1278 1280 (.iload 4) 2 := ⟨dr_at drL_law_1270 (i := 7) rfl, rfl⟩
theorem dL_1280 : dc code 1280 1281 (.iconst 3) 1 := ⟨dr_at drL_law_1270 (i := 8) rfl, rfl⟩
theorem dL_1281 : dc code 1281 1282 .iadd 1 := ⟨dr_at drL_law_1270 (i := 9) rfl, rfl⟩
theorem dL_1282 : dc code 1282 1283 .iaload 1 := ⟨dr_at drL_law_1270 (i := 10) rfl, rfl⟩
theorem dL_1283 : dc code 1283 1284 (.aload_n 0) 1 := ⟨dr_at drL_law_1270 (i := 11) rfl, rfl⟩
theorem dL_1284 : dc code 1284 1286 (.iload 4) 2 := ⟨dr_at drL_law_1270 (i := 12) rfl, rfl⟩
theorem dL_1286 : dc code 1286 1287 (.iconst 4) 1 := ⟨dr_at drL_law_1270 (i := 13) rfl, rfl⟩
theorem dL_1287 : dc code 1287 1288 .iadd 1 := ⟨dr_at drL_law_1270 (i := 14) rfl, rfl⟩
theorem dL_1288 : dc code 1288 1289 .iaload 1 := ⟨dr_at drL_law_1270 (i := 15) rfl, rfl⟩
theorem dL_1289 : dc code 1289 1292 (.ifCond .eq 7) 3 := ⟨dr_at drL_law_1270 (i := 16) rfl, rfl⟩
theorem dL_1292 : dc code 1292 1293 (.iconst 1) 1 := ⟨dr_at drL_law_1270 (i := 17) rfl, rfl⟩
theorem dL_1293 : dc code 1293 1296 (.goto 4) 3 := ⟨dr_at drL_law_1270 (i := 18) rfl, rfl⟩
theorem dL_1296 : dc code 1296 1297 (.iconst 0) 1 := ⟨dr_at drL_law_1270 (i := 19) rfl, rfl⟩
theorem dL_1297 : dc code 1297 1298 (.aload_n 0) 1 := ⟨dr_at drL_law_1270 (i := 20) rfl, rfl⟩
theorem dL_1298 : dc code 1298 1300 (.iload 4) 2 := ⟨dr_at drL_law_1270 (i := 21) rfl, rfl⟩
theorem dL_1300 : dc code 1300 1301 (.iconst 5) 1 := ⟨dr_at drL_law_1270 (i := 22) rfl, rfl⟩
theorem dL_1301 : dc code 1301 1302 .iadd 1 := ⟨dr_at drL_law_1270 (i := 23) rfl, rfl⟩
theorem dL_1302 : dc code 1302 1303 .iaload 1 := ⟨dr_at drL_law_1270 (i := 24) rfl, rfl⟩
theorem dL_1303 : dc code 1303 1306 (.ifCond .eq 7) 3 := ⟨dr_at drL_law_1270 (i := 25) rfl, rfl⟩
theorem dL_1306 : dc code 1306 1307 (.iconst 1) 1 := ⟨dr_at drL_law_1270 (i := 26) rfl, rfl⟩
theorem dL_1307 : dc code 1307 1310 (.goto 4) 3 := ⟨dr_at drL_law_1270 (i := 27) rfl, rfl⟩
theorem dL_1310 : dc code 1310 1311 (.iconst 0) 1 := ⟨dr_at drL_law_1270 (i := 28) rfl, rfl⟩
theorem dL_1311 : dc code 1311 1312 (.aload_n 3) 1 := ⟨dr_at drL_law_1270 (i := 29) rfl, rfl⟩
theorem dL_1312 : dc code 1312 1315 (.invokestatic 220) 3 := ⟨dr_at drL_law_1270 (i := 30) rfl, rfl⟩
theorem dL_1315 : dc code 1315 1317 (.istore 5) 2 := ⟨dr_at drL_law_1270 (i := 31) rfl, rfl⟩
theorem dL_1317 : dc code 1317 1318 (.aload_n 2) 1 := ⟨dr_at drL_law_1270 (i := 32) rfl, rfl⟩
theorem dL_1318 : dc code 1318 1319 (.aload_n 0) 1 := ⟨dr_at drL_law_1270 (i := 33) rfl, rfl⟩
theorem dL_1319 : dc code 1319 1321 (.iload 4) 2 := ⟨dr_at drL_law_1270 (i := 34) rfl, rfl⟩
theorem dL_1321 : dc code 1321 1322 (.iconst 1) 1 := ⟨dr_at drL_law_1270 (i := 35) rfl, rfl⟩
theorem dL_1322 : dc code 1322 1323 .iadd 1 := ⟨dr_at drL_law_1270 (i := 36) rfl, rfl⟩
theorem dL_1323 : dc code 1323 1324 .iaload 1 := ⟨dr_at drL_law_1270 (i := 37) rfl, rfl⟩
theorem dL_1324 : dc code 1324 1325 (.aload_n 0) 1 := ⟨dr_at drL_law_1270 (i := 38) rfl, rfl⟩
theorem dL_1325 : dc code 1325 1327 (.iload 4) 2 := ⟨dr_at drL_law_1270 (i := 39) rfl, rfl⟩
theorem dL_1327 : dc code 1327 1328 (.iconst 2) 1 := ⟨dr_at drL_law_1270 (i := 40) rfl, rfl⟩
theorem dL_1328 : dc code 1328 1329 .iadd 1 := ⟨dr_at drL_law_1270 (i := 41) rfl, rfl⟩
theorem dL_1329 : dc code 1329 1330 .iaload 1 := ⟨dr_at drL_law_1270 (i := 42) rfl, rfl⟩
theorem dL_1330 : dc code 1330 1331 (.aload_n 0) 1 := ⟨dr_at drL_law_1270 (i := 43) rfl, rfl⟩
theorem dL_1331 : dc code 1331 1333 (.iload 4) 2 := ⟨dr_at drL_law_1270 (i := 44) rfl, rfl⟩
theorem dL_1333 : dc code 1333 1334 (.iconst 3) 1 := ⟨dr_at drL_law_1270 (i := 45) rfl, rfl⟩
theorem dL_1334 : dc code 1334 1335 .iadd 1 := ⟨dr_at drL_law_1270 (i := 46) rfl, rfl⟩
theorem dL_1335 : dc code 1335 1336 .iaload 1 := ⟨dr_at drL_law_1270 (i := 47) rfl, rfl⟩
theorem dL_1336 : dc code 1336 1337 (.aload_n 0) 1 := ⟨dr_at drL_law_1270 (i := 48) rfl, rfl⟩
theorem dL_1337 : dc code 1337 1339 (.iload 4) 2 := ⟨dr_at drL_law_1270 (i := 49) rfl, rfl⟩
theorem dL_1339 : dc code 1339 1340 (.iconst 4) 1 := ⟨dr_at drL_law_1270 (i := 50) rfl, rfl⟩
theorem dL_1340 : dc code 1340 1341 .iadd 1 := ⟨dr_at drL_law_1270 (i := 51) rfl, rfl⟩
theorem dL_1341 : dc code 1341 1342 .iaload 1 := ⟨dr_at drL_law_1270 (i := 52) rfl, rfl⟩
theorem dL_1342 : dc code 1342 1345 (.ifCond .eq 7) 3 := ⟨dr_at drL_law_1270 (i := 53) rfl, rfl⟩
theorem dL_1345 : dc code 1345 1346 (.iconst 1) 1 := ⟨dr_at drL_law_1270 (i := 54) rfl, rfl⟩
theorem dL_1346 : dc code 1346 1349 (.goto 4) 3 := ⟨dr_at drL_law_1270 (i := 55) rfl, rfl⟩
theorem dL_1349 : dc code 1349 1350 (.iconst 0) 1 := ⟨dr_at drL_law_1270 (i := 56) rfl, rfl⟩
theorem dL_1350 : dc code 1350 1351 (.aload_n 0) 1 := ⟨dr_at drL_law_1270 (i := 57) rfl, rfl⟩
theorem dL_1351 : dc code 1351 1353 (.iload 4) 2 := ⟨dr_at drL_law_1270 (i := 58) rfl, rfl⟩
theorem dL_1353 : dc code 1353 1354 (.iconst 5) 1 := ⟨dr_at drL_law_1270 (i := 59) rfl, rfl⟩
theorem dL_1354 : dc code 1354 1355 .iadd 1 := ⟨dr_at drL_law_1270 (i := 60) rfl, rfl⟩
theorem dL_1355 : dc code 1355 1356 .iaload 1 := ⟨dr_at drL_law_1270 (i := 61) rfl, rfl⟩
theorem drL_law_1356 : ([(1356, (.ifCond .eq 7), 3), (1359, (.iconst 1), 1), (1360, (.goto 4), 3), (1363, (.iconst 0), 1), (1364, (.invokevirtual 223), 3), (1367, (.lstore 6), 2), (1369, (.goto 630), 3), (1372, (.aload_n 1), 1), (1373, (.aload_n 3), 1), (1374, (.invokestatic 224), 3), (1377, (.istore 5), 2), (1379, (.aload_n 2), 1), (1380, (.invokevirtual 226), 3), (1383, (.istore 6), 2), (1385, (.goto 614), 3), (1388, (.aload_n 1), 1), (1389, (.aload_n 0), 1), (1390, (.iload 4), 2), (1392, (.iconst 1), 1), (1393, .iadd, 1), (1394, .iaload, 1), (1395, (.aload_n 0), 1), (1396, (.iload 4), 2), (1398, (.iconst 2), 1), (1399, .iadd, 1), (1400, .iaload, 1), (1401, (.aload_n 3), 1), (1402, (.invokestatic 227), 3), (1405, (.istore 5), 2), (1407, (.aload_n 2), 1), (1408, (.aload_n 0), 1), (1409, (.iload 4), 2), (1411, (.iconst 1), 1), (1412, .iadd, 1), (1413, .iaload, 1), (1414, (.aload_n 0), 1), (1415, (.iload 4), 2), (1417, (.iconst 2), 1), (1418, .iadd, 1), (1419, .iaload, 1), (1420, (.invokevirtual 229), 3), (1423, (.istore 6), 2), (1425, (.goto 574), 3), (1428, (.aload_n 1), 1), (1429, (.aload_n 0), 1), (1430, (.iload 4), 2), (1432, (.iconst 1), 1), (1433, .iadd, 1), (1434, .iaload, 1), (1435, (.aload_n 3), 1), (1436, (.invokestatic 230), 3), (1439, (.istore 5), 2), (1441, (.aload_n 2), 1), (1442, (.aload_n 0), 1), (1443, (.iload 4), 2), (1445, (.iconst 1), 1), (1446, .iadd, 1), (1447, .iaload, 1)] : List (Nat × Instr × Nat)).all (fun q => decide (decode code q.1 = .ok q.2)) = true := by decide +kernel
theorem dL_1356 : dc code 1356 1359 (.ifCond .eq 7) 3 := ⟨dr_at drL_law_1356 (i := 0) rfl, rfl⟩
theorem dL_1359 : dc code 1359 1360 (.iconst 1) 1 := ⟨dr_at drL_law_1356 (i := 1) rfl, rfl⟩
theorem dL_1360 : dc code 1360 1363 (.goto 4) 3 := ⟨dr_at drL_law_1356 (i := 2) rfl, rfl⟩
theorem dL_1363 : dc code 1363 1364 (.iconst 0) 1 := ⟨dr_at drL_law_1356 (i := 3) rfl, rfl⟩
theorem dL_1364 : dc code 1364 1367 (.invokevirtual 223) 3 := ⟨dr_at drL_law_1356 (i := 4) rfl, rfl⟩
theorem dL_1367 : dc code 1367 1369 (.lstore 6) 2 := ⟨dr_at drL_law_1356 (i := 5) rfl, rfl⟩
theorem dL_1369 : dc code 1369 1372 (.goto 630) 3 := ⟨dr_at drL_law_1356 (i := 6) rfl, rfl⟩
theorem dL_1372 : dc code 1372 1373 (.aload_n 1) 1 := ⟨dr_at drL_law_1356 (i := 7) rfl, rfl⟩
theorem dL_1373 : dc code 1373 1374 (.aload_n 3) 1 := ⟨dr_at drL_law_1356 (i := 8) rfl, rfl⟩
theorem dL_1374 : dc code 1374 1377 (.invokestatic 224) 3 := ⟨dr_at drL_law_1356 (i := 9) rfl, rfl⟩
theorem dL_1377 : dc code 1377 1379 (.istore 5) 2 := ⟨dr_at drL_law_1356 (i := 10) rfl, rfl⟩
theorem dL_1379 : dc code 1379 1380 (.aload_n 2) 1 := ⟨dr_at drL_law_1356 (i := 11) rfl, rfl⟩
theorem dL_1380 : dc code 1380 1383 (.invokevirtual 226) 3 := ⟨dr_at drL_law_1356 (i := 12) rfl, rfl⟩
theorem dL_1383 : dc code 1383 1385 (.istore 6) 2 := ⟨dr_at drL_law_1356 (i := 13) rfl, rfl⟩
theorem dL_1385 : dc code 1385 1388 (.goto 614) 3 := ⟨dr_at drL_law_1356 (i := 14) rfl, rfl⟩
theorem dL_1388 : dc code 1388 1389 (.aload_n 1) 1 := ⟨dr_at drL_law_1356 (i := 15) rfl, rfl⟩
theorem dL_1389 : dc code 1389 1390 (.aload_n 0) 1 := ⟨dr_at drL_law_1356 (i := 16) rfl, rfl⟩
theorem dL_1390 : dc code 1390 1392 (.iload 4) 2 := ⟨dr_at drL_law_1356 (i := 17) rfl, rfl⟩
theorem dL_1392 : dc code 1392 1393 (.iconst 1) 1 := ⟨dr_at drL_law_1356 (i := 18) rfl, rfl⟩
theorem dL_1393 : dc code 1393 1394 .iadd 1 := ⟨dr_at drL_law_1356 (i := 19) rfl, rfl⟩
theorem dL_1394 : dc code 1394 1395 .iaload 1 := ⟨dr_at drL_law_1356 (i := 20) rfl, rfl⟩
theorem dL_1395 : dc code 1395 1396 (.aload_n 0) 1 := ⟨dr_at drL_law_1356 (i := 21) rfl, rfl⟩
theorem dL_1396 : dc code 1396 1398 (.iload 4) 2 := ⟨dr_at drL_law_1356 (i := 22) rfl, rfl⟩
theorem dL_1398 : dc code 1398 1399 (.iconst 2) 1 := ⟨dr_at drL_law_1356 (i := 23) rfl, rfl⟩
theorem dL_1399 : dc code 1399 1400 .iadd 1 := ⟨dr_at drL_law_1356 (i := 24) rfl, rfl⟩
theorem dL_1400 : dc code 1400 1401 .iaload 1 := ⟨dr_at drL_law_1356 (i := 25) rfl, rfl⟩
theorem dL_1401 : dc code 1401 1402 (.aload_n 3) 1 := ⟨dr_at drL_law_1356 (i := 26) rfl, rfl⟩
theorem dL_1402 : dc code 1402 1405 (.invokestatic 227) 3 := ⟨dr_at drL_law_1356 (i := 27) rfl, rfl⟩
theorem dL_1405 : dc code 1405 1407 (.istore 5) 2 := ⟨dr_at drL_law_1356 (i := 28) rfl, rfl⟩
theorem dL_1407 : dc code 1407 1408 (.aload_n 2) 1 := ⟨dr_at drL_law_1356 (i := 29) rfl, rfl⟩
theorem dL_1408 : dc code 1408 1409 (.aload_n 0) 1 := ⟨dr_at drL_law_1356 (i := 30) rfl, rfl⟩
theorem dL_1409 : dc code 1409 1411 (.iload 4) 2 := ⟨dr_at drL_law_1356 (i := 31) rfl, rfl⟩
theorem dL_1411 : dc code 1411 1412 (.iconst 1) 1 := ⟨dr_at drL_law_1356 (i := 32) rfl, rfl⟩
theorem dL_1412 : dc code 1412 1413 .iadd 1 := ⟨dr_at drL_law_1356 (i := 33) rfl, rfl⟩
theorem dL_1413 : dc code 1413 1414 .iaload 1 := ⟨dr_at drL_law_1356 (i := 34) rfl, rfl⟩
theorem dL_1414 : dc code 1414 1415 (.aload_n 0) 1 := ⟨dr_at drL_law_1356 (i := 35) rfl, rfl⟩
theorem dL_1415 : dc code 1415 1417 (.iload 4) 2 := ⟨dr_at drL_law_1356 (i := 36) rfl, rfl⟩
theorem dL_1417 : dc code 1417 1418 (.iconst 2) 1 := ⟨dr_at drL_law_1356 (i := 37) rfl, rfl⟩
theorem dL_1418 : dc code 1418 1419 .iadd 1 := ⟨dr_at drL_law_1356 (i := 38) rfl, rfl⟩
theorem dL_1419 : dc code 1419 1420 .iaload 1 := ⟨dr_at drL_law_1356 (i := 39) rfl, rfl⟩
theorem dL_1420 : dc code 1420 1423 (.invokevirtual 229) 3 := ⟨dr_at drL_law_1356 (i := 40) rfl, rfl⟩
theorem dL_1423 : dc code 1423 1425 (.istore 6) 2 := ⟨dr_at drL_law_1356 (i := 41) rfl, rfl⟩
theorem dL_1425 : dc code 1425 1428 (.goto 574) 3 := ⟨dr_at drL_law_1356 (i := 42) rfl, rfl⟩
theorem dL_1428 : dc code 1428 1429 (.aload_n 1) 1 := ⟨dr_at drL_law_1356 (i := 43) rfl, rfl⟩
theorem dL_1429 : dc code 1429 1430 (.aload_n 0) 1 := ⟨dr_at drL_law_1356 (i := 44) rfl, rfl⟩
theorem dL_1430 : dc code 1430 1432 (.iload 4) 2 := ⟨dr_at drL_law_1356 (i := 45) rfl, rfl⟩
theorem dL_1432 : dc code 1432 1433 (.iconst 1) 1 := ⟨dr_at drL_law_1356 (i := 46) rfl, rfl⟩
theorem dL_1433 : dc code 1433 1434 .iadd 1 := ⟨dr_at drL_law_1356 (i := 47) rfl, rfl⟩
theorem dL_1434 : dc code 1434 1435 .iaload 1 := ⟨dr_at drL_law_1356 (i := 48) rfl, rfl⟩
theorem dL_1435 : dc code 1435 1436 (.aload_n 3) 1 := ⟨dr_at drL_law_1356 (i := 49) rfl, rfl⟩
theorem dL_1436 : dc code 1436 1439 (.invokestatic 230) 3 := ⟨dr_at drL_law_1356 (i := 50) rfl, rfl⟩
theorem dL_1439 : dc code 1439 1441 (.istore 5) 2 := ⟨dr_at drL_law_1356 (i := 51) rfl, rfl⟩
theorem dL_1441 : dc code 1441 1442 (.aload_n 2) 1 := ⟨dr_at drL_law_1356 (i := 52) rfl, rfl⟩
theorem dL_1442 : dc code 1442 1443 (.aload_n 0) 1 := ⟨dr_at drL_law_1356 (i := 53) rfl, rfl⟩
theorem dL_1443 : dc code 1443 1445 (.iload 4) 2 := ⟨dr_at drL_law_1356 (i := 54) rfl, rfl⟩
theorem dL_1445 : dc code 1445 1446 (.iconst 1) 1 := ⟨dr_at drL_law_1356 (i := 55) rfl, rfl⟩
theorem dL_1446 : dc code 1446 1447 .iadd 1 := ⟨dr_at drL_law_1356 (i := 56) rfl, rfl⟩
theorem dL_1447 : dc code 1447 1448 .iaload 1 := ⟨dr_at drL_law_1356 (i := 57) rfl, rfl⟩
theorem drL_law_1448 : ([(1448, (.invokevirtual 233), 3), (1451, (.istore 6), 2), (1453, (.goto 546), 3), (1456, (.aload_n 1), 1), (1457, (.aload_n 0), 1), (1458, (.iload 4), 2), (1460, (.iconst 1), 1), (1461, .iadd, 1), (1462, .iaload, 1), (1463, (.aload_n 0), 1), (1464, (.iload 4), 2), (1466, (.iconst 2), 1), (1467, .iadd, 1), (1468, .iaload, 1), (1469, (.aload_n 0), 1), (1470, (.iload 4), 2), (1472, (.iconst 3), 1), (1473, .iadd, 1), (1474, .iaload, 1), (1475, (.aload_n 0), 1), (1476, (.iload 4), 2), (1478, (.iconst 4), 1), (1479, .iadd, 1), (1480, .iaload, 1), (1481, (.aload_n 0), 1), (1482, (.iload 4), 2), (1484, (.iconst 5), 1), (1485, .iadd, 1), (1486, .iaload, 1), (1487, (.aload_n 3), 1), (1488, (.invokestatic 234), 3), (1491, (.istore 5), 2), (1493, (.aload_n 2), 1), (1494, (.aload_n 0), 1), (1495, (.iload 4), 2), (1497, (.iconst 1), 1), (1498, .iadd, 1), (1499, .iaload, 1), (1500, (.aload_n 0), 1), (1501, (.iload 4), 2), (1503, (.iconst 2), 1), (1504, .iadd, 1), (1505, .iaload, 1), (1506, (.aload_n 0), 1), (1507, (.iload 4), 2), (1509, (.iconst 3), 1), (1510, .iadd, 1), (1511, .iaload, 1), (1512, (.aload_n 0), 1), (1513, (.iload 4), 2), (1515, (.iconst 4), 1), (1516, .iadd, 1), (1517, .iaload, 1), (1518, (.aload_n 0), 1), (1519, (.iload 4), 2)] : List (Nat × Instr × Nat)).all (fun q => decide (decode code q.1 = .ok q.2)) = true := by decide +kernel
theorem dL_1448 : dc code 1448 1451 (.invokevirtual 233) 3 := ⟨dr_at drL_law_1448 (i := 0) rfl, rfl⟩
theorem dL_1451 : dc code 1451 1453 (.istore 6) 2 := ⟨dr_at drL_law_1448 (i := 1) rfl, rfl⟩
theorem dL_1453 : dc code 1453 1456 (.goto 546) 3 := ⟨dr_at drL_law_1448 (i := 2) rfl, rfl⟩
theorem dL_1456 : dc code 1456 1457 (.aload_n 1) 1 := ⟨dr_at drL_law_1448 (i := 3) rfl, rfl⟩
theorem dL_1457 : dc code 1457 1458 (.aload_n 0) 1 := ⟨dr_at drL_law_1448 (i := 4) rfl, rfl⟩
theorem dL_1458 : dc code 1458 1460 (.iload 4) 2 := ⟨dr_at drL_law_1448 (i := 5) rfl, rfl⟩
theorem dL_1460 : dc code 1460 1461 (.iconst 1) 1 := ⟨dr_at drL_law_1448 (i := 6) rfl, rfl⟩
theorem dL_1461 : dc code 1461 1462 .iadd 1 := ⟨dr_at drL_law_1448 (i := 7) rfl, rfl⟩
theorem dL_1462 : dc code 1462 1463 .iaload 1 := ⟨dr_at drL_law_1448 (i := 8) rfl, rfl⟩
theorem dL_1463 : dc code 1463 1464 (.aload_n 0) 1 := ⟨dr_at drL_law_1448 (i := 9) rfl, rfl⟩
theorem dL_1464 : dc code 1464 1466 (.iload 4) 2 := ⟨dr_at drL_law_1448 (i := 10) rfl, rfl⟩
theorem dL_1466 : dc code 1466 1467 (.iconst 2) 1 := ⟨dr_at drL_law_1448 (i := 11) rfl, rfl⟩
theorem dL_1467 : dc code 1467 1468 .iadd 1 := ⟨dr_at drL_law_1448 (i := 12) rfl, rfl⟩
theorem dL_1468 : dc code 1468 1469 .iaload 1 := ⟨dr_at drL_law_1448 (i := 13) rfl, rfl⟩
theorem dL_1469 : dc code 1469 1470 (.aload_n 0) 1 := ⟨dr_at drL_law_1448 (i := 14) rfl, rfl⟩
theorem dL_1470 : dc code 1470 1472 (.iload 4) 2 := ⟨dr_at drL_law_1448 (i := 15) rfl, rfl⟩
theorem dL_1472 : dc code 1472 1473 (.iconst 3) 1 := ⟨dr_at drL_law_1448 (i := 16) rfl, rfl⟩
theorem dL_1473 : dc code 1473 1474 .iadd 1 := ⟨dr_at drL_law_1448 (i := 17) rfl, rfl⟩
theorem dL_1474 : dc code 1474 1475 .iaload 1 := ⟨dr_at drL_law_1448 (i := 18) rfl, rfl⟩
theorem dL_1475 : dc code 1475 1476 (.aload_n 0) 1 := ⟨dr_at drL_law_1448 (i := 19) rfl, rfl⟩
theorem dL_1476 : dc code 1476 1478 (.iload 4) 2 := ⟨dr_at drL_law_1448 (i := 20) rfl, rfl⟩
theorem dL_1478 : dc code 1478 1479 (.iconst 4) 1 := ⟨dr_at drL_law_1448 (i := 21) rfl, rfl⟩
theorem dL_1479 : dc code 1479 1480 .iadd 1 := ⟨dr_at drL_law_1448 (i := 22) rfl, rfl⟩
theorem dL_1480 : dc code 1480 1481 .iaload 1 := ⟨dr_at drL_law_1448 (i := 23) rfl, rfl⟩
theorem dL_1481 : dc code 1481 1482 (.aload_n 0) 1 := ⟨dr_at drL_law_1448 (i := 24) rfl, rfl⟩
theorem dL_1482 : dc code 1482 1484 (.iload 4) 2 := ⟨dr_at drL_law_1448 (i := 25) rfl, rfl⟩
theorem dL_1484 : dc code 1484 1485 (.iconst 5) 1 := ⟨dr_at drL_law_1448 (i := 26) rfl, rfl⟩
theorem dL_1485 : dc code 1485 1486 .iadd 1 := ⟨dr_at drL_law_1448 (i := 27) rfl, rfl⟩
theorem dL_1486 : dc code 1486 1487 .iaload 1 := ⟨dr_at drL_law_1448 (i := 28) rfl, rfl⟩
theorem dL_1487 : dc code 1487 1488 (.aload_n 3) 1 := ⟨dr_at drL_law_1448 (i := 29) rfl, rfl⟩
theorem dL_1488 : dc code 1488 1491 (.invokestatic 234) 3 := ⟨dr_at drL_law_1448 (i := 30) rfl, rfl⟩
theorem dL_1491 : dc code 1491 1493 (.istore 5) 2 := ⟨dr_at drL_law_1448 (i := 31) rfl, rfl⟩
theorem dL_1493 : dc code 1493 1494 (.aload_n 2) 1 := ⟨dr_at drL_law_1448 (i := 32) rfl, rfl⟩
theorem dL_1494 : dc code 1494 1495 (.aload_n 0) 1 := ⟨dr_at drL_law_1448 (i := 33) rfl, rfl⟩
theorem dL_1495 : dc code 1495 1497 (.iload 4) 2 := ⟨dr_at drL_law_1448 (i := 34) rfl, rfl⟩
theorem dL_1497 : dc code 1497 1498 (.iconst 1) 1 := ⟨dr_at drL_law_1448 (i := 35) rfl, rfl⟩
theorem dL_1498 : dc code 1498 1499 .iadd 1 := ⟨dr_at drL_law_1448 (i := 36) rfl, rfl⟩
theorem dL_1499 : dc code 1499 1500 .iaload 1 := ⟨dr_at drL_law_1448 (i := 37) rfl, rfl⟩
theorem dL_1500 : dc code 1500 1501 (.aload_n 0) 1 := ⟨dr_at drL_law_1448 (i := 38) rfl, rfl⟩
theorem dL_1501 : dc code 1501 1503 (.iload 4) 2 := ⟨dr_at drL_law_1448 (i := 39) rfl, rfl⟩
theorem dL_1503 : dc code 1503 1504 (.iconst 2) 1 := ⟨dr_at drL_law_1448 (i := 40) rfl, rfl⟩
theorem dL_1504 : dc code 1504 1505 .iadd 1 := ⟨dr_at drL_law_1448 (i := 41) rfl, rfl⟩
theorem dL_1505 : dc code 1505 1506 .iaload 1 := ⟨dr_at drL_law_1448 (i := 42) rfl, rfl⟩
theorem dL_1506 : dc code 1506 1507 (.aload_n 0) 1 := ⟨dr_at drL_law_1448 (i := 43) rfl, rfl⟩
theorem dL_1507 : dc code 1507 1509 (.iload 4) 2 := ⟨dr_at drL_law_1448 (i := 44) rfl, rfl⟩
theorem dL_1509 : dc code 1509 1510 (.iconst 3) 1 := ⟨dr_at drL_law_1448 (i := 45) rfl, rfl⟩
theorem dL_1510 : dc code 1510 1511 .iadd 1 := ⟨dr_at drL_law_1448 (i := 46) rfl, rfl⟩
theorem dL_1511 : dc code 1511 1512 .iaload 1 := ⟨dr_at drL_law_1448 (i := 47) rfl, rfl⟩
theorem dL_1512 : dc code 1512 1513 (.aload_n 0) 1 := ⟨dr_at drL_law_1448 (i := 48) rfl, rfl⟩
theorem dL_1513 : dc code 1513 1515 (.iload 4) 2 := ⟨dr_at drL_law_1448 (i := 49) rfl, rfl⟩
theorem dL_1515 : dc code 1515 1516 (.iconst 4) 1 := ⟨dr_at drL_law_1448 (i := 50) rfl, rfl⟩
theorem dL_1516 : dc code 1516 1517 .iadd 1 := ⟨dr_at drL_law_1448 (i := 51) rfl, rfl⟩
theorem dL_1517 : dc code 1517 1518 .iaload 1 := ⟨dr_at drL_law_1448 (i := 52) rfl, rfl⟩
theorem dL_1518 : dc code 1518 1519 (.aload_n 0) 1 := ⟨dr_at drL_law_1448 (i := 53) rfl, rfl⟩
theorem dL_1519 : dc code 1519 1521 (.iload 4) 2 := ⟨dr_at drL_law_1448 (i := 54) rfl, rfl⟩
theorem drL_law_1521 : ([(1521, (.iconst 5), 1), (1522, .iadd, 1), (1523, .iaload, 1), (1524, (.invokevirtual 237), 3), (1527, (.istore 6), 2), (1529, (.goto 470), 3), (1532, (.aload_n 1), 1), (1533, (.aload_n 0), 1), (1534, (.iload 4), 2), (1536, (.iconst 1), 1), (1537, .iadd, 1), (1538, .iaload, 1), (1539, (.aload_n 0), 1), (1540, (.iload 4), 2), (1542, (.iconst 2), 1), (1543, .iadd, 1), (1544, .iaload, 1), (1545, (.invokestatic 238), 3), (1548, (.istore 5), 2), (1550, (.aload_n 2), 1), (1551, (.aload_n 0), 1), (1552, (.iload 4), 2), (1554, (.iconst 1), 1), (1555, .iadd, 1), (1556, .iaload, 1), (1557, (.aload_n 0), 1), (1558, (.iload 4), 2), (1560, (.iconst 2), 1), (1561, .iadd, 1), (1562, .iaload, 1), (1563, (.invokevirtual 240), 3), (1566, (.goto 433), 3), (1569, (.aload_n 1), 1), (1570, (.aload_n 0), 1), (1571, (.iload 4), 2), (1573, (.iconst 1), 1), (1574, .iadd, 1), (1575, .iaload, 1), (1576, (.invokestatic 241), 3), (1579, (.istore 5), 2), (1581, (.aload_n 2), 1), (1582, (.aload_n 0), 1), (1583, (.iload 4), 2), (1585, (.iconst 1), 1), (1586, .iadd, 1), (1587, .iaload, 1), (1588, (.invokevirtual 243), 3), (1591, (.goto 408), 3), (1594, (.aload_n 1), 1), (1595, (.aload_n 0), 1), (1596, (.iload 4), 2), (1598, (.iconst 1), 1)] : List (Nat × Instr × Nat)).all (fun q => decide (decode code q.1 = .ok q.2)) = true := by decide +kernel
theorem dL_1521 : dc code 1521 1522 (.iconst 5) 1 := ⟨dr_at drL_law_1521 (i := 0) rfl, rfl⟩
theorem dL_1522 : dc code 1522 1523 .iadd 1 := ⟨dr_at drL_law_1521 (i := 1) rfl, rfl⟩
theorem dL_1523 : dc code 1523 1524 .iaload 1 := ⟨dr_at drL_law_1521 (i := 2) rfl, rfl⟩
theorem dL_1524 : dc code 1524 1527 (.invokevirtual 237) 3 := ⟨dr_at drL_law_1521 (i := 3) rfl, rfl⟩
theorem dL_1527 : dc code 1527 1529 (.istore 6) 2 := ⟨dr_at drL_law_1521 (i := 4) rfl, rfl⟩
theorem dL_1529 : dc code 1529 1532 (.goto 470) 3 := ⟨dr_at drL_law_1521 (i := 5) rfl, rfl⟩
theorem dL_1532 : dc code 1532 1533 (.aload_n 1) 1 := ⟨dr_at drL_law_1521 (i := 6) rfl, rfl⟩
theorem dL_1533 : dc code 1533 1534 (.aload_n 0) 1 := ⟨dr_at drL_law_1521 (i := 7) rfl, rfl⟩
theorem dL_1534 : dc code 1534 1536 (.iload 4) 2 := ⟨dr_at drL_law_1521 (i := 8) rfl, rfl⟩
theorem dL_1536 : dc code 1536 1537 (.iconst 1) 1 := ⟨dr_at drL_law_1521 (i := 9) rfl, rfl⟩
theorem dL_1537 : dc code 1537 1538 .iadd 1 := ⟨dr_at drL_law_1521 (i := 10) rfl, rfl⟩
theorem dL_1538 : dc code 1538 1539 .iaload 1 := ⟨dr_at drL_law_1521 (i := 11) rfl, rfl⟩
theorem dL_1539 : dc code 1539 1540 (.aload_n 0) 1 := ⟨dr_at drL_law_1521 (i := 12) rfl, rfl⟩
theorem dL_1540 : dc code 1540 1542 (.iload 4) 2 := ⟨dr_at drL_law_1521 (i := 13) rfl, rfl⟩
theorem dL_1542 : dc code 1542 1543 (.iconst 2) 1 := ⟨dr_at drL_law_1521 (i := 14) rfl, rfl⟩
theorem dL_1543 : dc code 1543 1544 .iadd 1 := ⟨dr_at drL_law_1521 (i := 15) rfl, rfl⟩
theorem dL_1544 : dc code 1544 1545 .iaload 1 := ⟨dr_at drL_law_1521 (i := 16) rfl, rfl⟩
theorem dL_1545 : dc code 1545 1548 (.invokestatic 238) 3 := ⟨dr_at drL_law_1521 (i := 17) rfl, rfl⟩
theorem dL_1548 : dc code 1548 1550 (.istore 5) 2 := ⟨dr_at drL_law_1521 (i := 18) rfl, rfl⟩
theorem dL_1550 : dc code 1550 1551 (.aload_n 2) 1 := ⟨dr_at drL_law_1521 (i := 19) rfl, rfl⟩
theorem dL_1551 : dc code 1551 1552 (.aload_n 0) 1 := ⟨dr_at drL_law_1521 (i := 20) rfl, rfl⟩
theorem dL_1552 : dc code 1552 1554 (.iload 4) 2 := ⟨dr_at drL_law_1521 (i := 21) rfl, rfl⟩
theorem dL_1554 : dc code 1554 1555 (.iconst 1) 1 := ⟨dr_at drL_law_1521 (i := 22) rfl, rfl⟩
theorem dL_1555 : dc code 1555 1556 .iadd 1 := ⟨dr_at drL_law_1521 (i := 23) rfl, rfl⟩
theorem dL_1556 : dc code 1556 1557 .iaload 1 := ⟨dr_at drL_law_1521 (i := 24) rfl, rfl⟩
theorem dL_1557 : dc code 1557 1558 (.aload_n 0) 1 := ⟨dr_at drL_law_1521 (i := 25) rfl, rfl⟩
theorem dL_1558 : dc code 1558 1560 (.iload 4) 2 := ⟨dr_at drL_law_1521 (i := 26) rfl, rfl⟩
theorem dL_1560 : dc code 1560 1561 (.iconst 2) 1 := ⟨dr_at drL_law_1521 (i := 27) rfl, rfl⟩
theorem dL_1561 : dc code 1561 1562 .iadd 1 := ⟨dr_at drL_law_1521 (i := 28) rfl, rfl⟩
theorem dL_1562 : dc code 1562 1563 .iaload 1 := ⟨dr_at drL_law_1521 (i := 29) rfl, rfl⟩
theorem dL_1563 : dc code 1563 1566 (.invokevirtual 240) 3 := ⟨dr_at drL_law_1521 (i := 30) rfl, rfl⟩
theorem dL_1566 : dc code 1566 1569 (.goto 433) 3 := ⟨dr_at drL_law_1521 (i := 31) rfl, rfl⟩
theorem dL_1569 : dc code 1569 1570 (.aload_n 1) 1 := ⟨dr_at drL_law_1521 (i := 32) rfl, rfl⟩
theorem dL_1570 : dc code 1570 1571 (.aload_n 0) 1 := ⟨dr_at drL_law_1521 (i := 33) rfl, rfl⟩
theorem dL_1571 : dc code 1571 1573 (.iload 4) 2 := ⟨dr_at drL_law_1521 (i := 34) rfl, rfl⟩
theorem dL_1573 : dc code 1573 1574 (.iconst 1) 1 := ⟨dr_at drL_law_1521 (i := 35) rfl, rfl⟩
theorem dL_1574 : dc code 1574 1575 .iadd 1 := ⟨dr_at drL_law_1521 (i := 36) rfl, rfl⟩
theorem dL_1575 : dc code 1575 1576 .iaload 1 := ⟨dr_at drL_law_1521 (i := 37) rfl, rfl⟩
theorem dL_1576 : dc code 1576 1579 (.invokestatic 241) 3 := ⟨dr_at drL_law_1521 (i := 38) rfl, rfl⟩
theorem dL_1579 : dc code 1579 1581 (.istore 5) 2 := ⟨dr_at drL_law_1521 (i := 39) rfl, rfl⟩
theorem dL_1581 : dc code 1581 1582 (.aload_n 2) 1 := ⟨dr_at drL_law_1521 (i := 40) rfl, rfl⟩
theorem dL_1582 : dc code 1582 1583 (.aload_n 0) 1 := ⟨dr_at drL_law_1521 (i := 41) rfl, rfl⟩
theorem dL_1583 : dc code 1583 1585 (.iload 4) 2 := ⟨dr_at drL_law_1521 (i := 42) rfl, rfl⟩
theorem dL_1585 : dc code 1585 1586 (.iconst 1) 1 := ⟨dr_at drL_law_1521 (i := 43) rfl, rfl⟩
theorem dL_1586 : dc code 1586 1587 .iadd 1 := ⟨dr_at drL_law_1521 (i := 44) rfl, rfl⟩
theorem dL_1587 : dc code 1587 1588 .iaload 1 := ⟨dr_at drL_law_1521 (i := 45) rfl, rfl⟩
theorem dL_1588 : dc code 1588 1591 (.invokevirtual 243) 3 := ⟨dr_at drL_law_1521 (i := 46) rfl, rfl⟩
theorem dL_1591 : dc code 1591 1594 (.goto 408) 3 := ⟨dr_at drL_law_1521 (i := 47) rfl, rfl⟩
theorem dL_1594 : dc code 1594 1595 (.aload_n 1) 1 := ⟨dr_at drL_law_1521 (i := 48) rfl, rfl⟩
theorem dL_1595 : dc code 1595 1596 (.aload_n 0) 1 := ⟨dr_at drL_law_1521 (i := 49) rfl, rfl⟩
theorem dL_1596 : dc code 1596 1598 (.iload 4) 2 := ⟨dr_at drL_law_1521 (i := 50) rfl, rfl⟩
theorem dL_1598 : dc code 1598 1599 (.iconst 1) 1 := ⟨dr_at drL_law_1521 (i := 51) rfl, rfl⟩
