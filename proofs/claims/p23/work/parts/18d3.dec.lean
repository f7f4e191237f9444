theorem drL_law_1172 : ([(1172, (.iconst 2), 1), (1173, .iadd, 1), (1174, .iaload, 1), (1175, (.aload_n 0), 1), (1176, (.iload 4), 2), (1178, (.iconst 3), 1), (1179, .iadd, 1), (1180, .iaload, 1), (1181, (.aload_n 3), 1), (1182, (.invokestatic 210), 3), (1185, (.istore 5), 2), (1187, (.aload_n 2), 1), (1188, (.aload_n 0), 1), (1189, (.iload 4), 2), (1191, (.iconst 1), 1), (1192, .iadd, 1), (1193, .iaload, 1), (1194, (.aload_n 0), 1), (1195, (.iload 4), 2), (1197, (.iconst 2), 1), (1198, .iadd, 1), (1199, .iaload, 1), (1200, (.aload_n 0), 1), (1201, (.iload 4), 2), (1203, (.iconst 3), 1), (1204, .iadd, 1), (1205, .iaload, 1), (1206, (.invokevirtual 212), 3), (1209, (.istore 6), 2), (1211, (.goto 771), 3), (1214, (.aload_n 1), 1), (1215, (.invokevirtual 213), 3), (1218, .pop, 1), (1219, (.aload_n 2), 1), (1220, (.invokevirtual 216), 3), (1223, .pop, 1), (1224, (.goto 758), 3), (1227, (.aload_n 1), 1), (1228, (.aload_n 0), 1), (1229, (.iload 4), 2), (1231, (.iconst 1), 1), (1232, .iadd, 1), (1233, .iaload, 1), (1234, (.aload_n 0), 1), (1235, (.iload 4), 2), (1237, (.iconst 2), 1), (1238, .iadd, 1), (1239, .iaload, 1), (1240, (.invokestatic 217), 3), (1243, (.istore 5), 2), (1245, (.aload_n 2), 1), (1246, (.aload_n 0), 1), (1247, (.iload 4), 2), (1249, (.iconst 1), 1), (1250, .iadd, 1), (1251, .iaload, 1), (1252, (.aload_n 0), 1), (1253, (.iload 4), 2), (1255, (.iconst 2), 1), (1256, .iadd, 1), (1257, .iaload, 1), (1258, (.invokevirtual 219), 3), (1261, (.aload_n 2), 1), (1262, (.invokevirtual 220), 3), (1265, (.iload 5), 2), (1267, (.if_icmp .eq 5), 3), (1270, (.iconst 0), 1), (1272, (.goto 710), 3)] : List (Nat × Instr × Nat)).all (fun q => decide (decode code q.1 = .ok q.2)) = true := by decide +kernel
theorem dL_1172 : dc code 1172 1173 (.iconst 2) 1 := ⟨dr_at drL_law_1172 (i := 0) rfl, rfl⟩
theorem dL_1173 : dc code 1173 1174 .iadd 1 := ⟨dr_at drL_law_1172 (i := 1) rfl, rfl⟩
theorem dL_1174 : dc code 1174 1175 .iaload 1 := ⟨dr_at drL_law_1172 (i := 2) rfl, rfl⟩
theorem dL_1175 : dc code 1175 1176 (.aload_n 0) 1 := ⟨dr_at drL_law_1172 (i := 3) rfl, rfl⟩
theorem dL_1176 : dc code 1176 1178 (.iload 4) 2 := ⟨dr_at drL_law_1172 (i := 4) rfl, rfl⟩
theorem dL_1178 : dc code 1178 1179 (.iconst 3) 1 := ⟨dr_at drL_law_1172 (i := 5) rfl, rfl⟩
theorem dL_1179 : dc code 1179 1180 .iadd 1 := ⟨dr_at drL_law_1172 (i := 6) rfl, rfl⟩
theorem dL_1180 : dc code 1180 1181 .iaload 1 := ⟨dr_at drL_law_1172 (i := 7) rfl, rfl⟩
theorem dL_1181 : dc code 1181 1182 (.aload_n 3) 1 := ⟨dr_at drL_law_1172 (i := 8) rfl, rfl⟩
theorem dL_1182 : dc code 1182 1185 (.invokestatic 210) 3 := ⟨dr_at drL_law_1172 (i := 9) rfl, rfl⟩
theorem dL_1185 : dc code 1185 1187 (.istore 5) 2 := ⟨dr_at drL_law_1172 (i := 10) rfl, rfl⟩
theorem dL_1187 : dc code 1187 1188 (.aload_n 2) 1 := ⟨dr_at drL_law_1172 (i := 11) rfl, rfl⟩
theorem dL_1188 : dc code 1188 1189 (.aload_n 0) 1 := ⟨dr_at drL_law_1172 (i := 12) rfl, rfl⟩
theorem dL_1189 : dc code 1189 1191 (.iload 4) 2 := ⟨dr_at drL_law_1172 (i := 13) rfl, rfl⟩
theorem dL_1191 : dc code 1191 1192 (.iconst 1) 1 := ⟨dr_at drL_law_1172 (i := 14) rfl, rfl⟩
theorem dL_1192 : dc code 1192 1193 .iadd 1 := ⟨dr_at drL_law_1172 (i := 15) rfl, rfl⟩
theorem dL_1193 : dc code 1193 1194 .iaload 1 := ⟨dr_at drL_law_1172 (i := 16) rfl, rfl⟩
theorem dL_1194 : dc code 1194 1195 (.aload_n 0) 1 := ⟨dr_at drL_law_1172 (i := 17) rfl, rfl⟩
theorem dL_1195 : dc code 1195 1197 (.iload 4) 2 := ⟨dr_at drL_law_1172 (i := 18) rfl, rfl⟩
theorem dL_1197 : dc code 1197 1198 (.iconst 2) 1 := ⟨dr_at drL_law_1172 (i := 19) rfl, rfl⟩
theorem dL_1198 : dc code 1198 1199 .iadd 1 := ⟨dr_at drL_law_1172 (i := 20) rfl, rfl⟩
theorem dL_1199 : dc code 1199 1200 .iaload 1 := ⟨dr_at drL_law_1172 (i := 21) rfl, rfl⟩
theorem dL_1200 : dc code 1200 1201 (.aload_n 0) 1 := ⟨dr_at drL_law_1172 (i := 22) rfl, rfl⟩
theorem dL_1201 : dc code 1201 1203 (.iload 4) 2 := ⟨dr_at drL_law_1172 (i := 23) rfl, rfl⟩
theorem dL_1203 : dc code 1203 1204 (.iconst 3) 1 := ⟨dr_at drL_law_1172 (i := 24) rfl, rfl⟩
theorem dL_1204 : dc code 1204 1205 .iadd 1 := ⟨dr_at drL_law_1172 (i := 25) rfl, rfl⟩
theorem dL_1205 : dc code 1205 1206 .iaload 1 := ⟨dr_at drL_law_1172 (i := 26) rfl, rfl⟩
theorem dL_1206 : dc code 1206 1209 (.invokevirtual 212) 3 := ⟨dr_at drL_law_1172 (i := 27) rfl, rfl⟩
theorem dL_1209 : dc code 1209 1211 (.istore 6) 2 := ⟨dr_at drL_law_1172 (i := 28) rfl, rfl⟩
theorem dL_1211 : dc code 1211 1214 (.goto 771) 3 := ⟨dr_at drL_law_1172 (i := 29) rfl, rfl⟩
theorem dL_1214 : dc code 1214 1215 (.aload_n 1) 1 := ⟨dr_at drL_law_1172 (i := 30) rfl, rfl⟩
theorem dL_1215 : dc code 1215 1218 (.invokevirtual 213) 3 := ⟨dr_at drL_law_1172 (i := 31) rfl, rfl⟩
theorem dL_1218 : dc code 1218 1219 .pop 1 := ⟨dr_at drL_law_1172 (i := 32) rfl, rfl⟩
theorem dL_1219 : dc code 1219 1220 (.aload_n 2) 1 := ⟨dr_at drL_law_1172 (i := 33) rfl, rfl⟩
theorem dL_1220 : dc code 1220 1223 (.invokevirtual 216) 3 := ⟨dr_at drL_law_1172 (i := 34) rfl, rfl⟩
theorem dL_1223 : dc code 1223 1224 .pop 1 := ⟨dr_at drL_law_1172 (i := 35) rfl, rfl⟩
theorem dL_1224 : dc code 1224 1227 (.goto 758) 3 := ⟨dr_at drL_law_1172 (i := 36) rfl, rfl⟩
theorem dL_1227 : dc code 1227 1228 (.aload_n 1) 1 := ⟨dr_at drL_law_1172 (i := 37) rfl, rfl⟩
theorem dL_1228 : dc code 1228 1229 (.aload_n 0) 1 := ⟨dr_at drL_law_1172 (i := 38) rfl, rfl⟩
theorem dL_1229 : dc code 1229 1231 (.iload 4) 2 := ⟨dr_at drL_law_1172 (i := 39) rfl, rfl⟩
theorem dL_1231 : dc code 1231 1232 (.iconst 1) 1 := ⟨dr_at drL_law_1172 (i := 40) rfl, rfl⟩
theorem dL_1232 : dc code 1232 1233 .iadd 1 := ⟨dr_at drL_law_1172 (i := 41) rfl, rfl⟩
theorem dL_1233 : dc code 1233 1234 .iaload 1 := ⟨dr_at drL_law_1172 (i := 42) rfl, rfl⟩
theorem dL_1234 : dc code 1234 1235 (.aload_n 0) 1 := ⟨dr_at drL_law_1172 (i := 43) rfl, rfl⟩
theorem dL_1235 : dc code 1235 1237 (.iload 4) 2 := ⟨dr_at drL_law_1172 (i := 44) rfl, rfl⟩
theorem dL_1237 : dc code 1237 1238 (.iconst 2) 1 := ⟨dr_at drL_law_1172 (i := 45) rfl, rfl⟩
theorem dL_1238 : dc code 1238 1239 .iadd 1 := ⟨dr_at drL_law_1172 (i := 46) rfl, rfl⟩
theorem dL_1239 : dc code 1239 1240 .iaload 1 := ⟨dr_at drL_law_1172 (i := 47) rfl, rfl⟩
theorem dL_1240 : dc code 1240 1243 (.invokestatic 217) 3 := ⟨dr_at drL_law_1172 (i := 48) rfl, rfl⟩
theorem dL_1243 : dc code 1243 1245 (.istore 5) 2 := ⟨dr_at drL_law_1172 (i := 49) rfl, rfl⟩
theorem dL_1245 : dc code 1245 1246 (.aload_n 2) 1 := ⟨dr_at drL_law_1172 (i := 50) rfl, rfl⟩
theorem dL_1246 : dc code 1246 1247 (.aload_n 0) 1 := ⟨dr_at drL_law_1172 (i := 51) rfl, rfl⟩
theorem dL_1247 : dc code 1247 1249 (.iload 4) 2 := ⟨dr_at drL_law_1172 (i := 52) rfl, rfl⟩
theorem dL_1249 : dc code 1249 1250 (.iconst 1) 1 := ⟨dr_at drL_law_1172 (i := 53) rfl, rfl⟩
theorem dL_1250 : dc code 1250 1251 .iadd 1 := ⟨dr_at drL_law_1172 (i := 54) rfl, rfl⟩
theorem dL_1251 : dc code 1251 1252 .iaload 1 := ⟨dr_at drL_law_1172 (i := 55) rfl, rfl⟩
theorem dL_1252 : dc code 1252 1253 (.aload_n 0) 1 := ⟨dr_at drL_law_1172 (i := 56) rfl, rfl⟩
theorem dL_1253 : dc code 1253 1255 (.iload 4) 2 := ⟨dr_at drL_law_1172 (i := 57) rfl, rfl⟩
theorem dL_1255 : dc code 1255 1256 (.iconst 2) 1 := ⟨dr_at drL_law_1172 (i := 58) rfl, rfl⟩
theorem dL_1256 : dc code 1256 1257 .iadd 1 := ⟨dr_at drL_law_1172 (i := 59) rfl, rfl⟩
theorem dL_1257 : dc code 1257 1258 .iaload 1 := ⟨dr_at drL_law_1172 (i := 60) rfl, rfl⟩
theorem dL_1258 : dc code 1258 1261 (.invokevirtual 219) 3 := ⟨dr_at drL_law_1172 (i := 61) rfl, rfl⟩
theorem dL_1261 : dc code 1261 1262 (.aload_n 2) 1 := ⟨dr_at drL_law_1172 (i := 62) rfl, rfl⟩
theorem dL_1262 : dc code 1262 1265 (.invokevirtual 220) 3 := ⟨dr_at drL_law_1172 (i := 63) rfl, rfl⟩
theorem dL_1265 : dc code 1265 1267 (.iload 5) 2 := ⟨dr_at drL_law_1172 (i := 64) rfl, rfl⟩
theorem dL_1267 : dc code 1267 1270 (.if_icmp .eq 5) 3 := ⟨dr_at drL_law_1172 (i := 65) rfl, rfl⟩
theorem dL_1270 : dc code 1270 1271 (.iconst 0) 1 := ⟨dr_at drL_law_1172 (i := 66) rfl, rfl⟩
theorem dL_1272 : dc code 1272 1275 (.goto 710) 3 := ⟨dr_at drL_law_1172 (i := 67) rfl, rfl⟩
theorem drL_law_1275 : ([(1275, (.aload_n 1), 1), (1276, (.aload_n 0), 1), (1277, (.iload 4), 2), (1279, (.iconst 1), 1), (1280, .iadd, 1), (1281, .iaload, 1), (1282, (.aload_n 0), 1), (1283, (.iload 4), 2), (1285, (.iconst 2), 1), (1286, .iadd, 1), (1287, .iaload, 1), (1288, (.aload_n 0), 1), (1289, (.iload 4), 2), (1291, (.iconst 3), 1), (1292, .iadd, 1), (1293, .iaload, 1), (1294, (.aload_n 0), 1), (1295, (.iload 4), 2), (1297, (.iconst 4), 1), (1298, .iadd, 1), (1299, .iaload, 1), (1300, (.ifCond .eq 7), 3), (1303, (.iconst 1), 1), (1304, (.goto 4), 3), (1307, (.iconst 0), 1), (1308, (.aload_n 0), 1), (1309, (.iload 4), 2), (1311, (.iconst 5), 1), (1312, .iadd, 1), (1313, .iaload, 1), (1314, (.ifCond .eq 7), 3), (1317, (.iconst 1), 1), (1318, (.goto 4), 3), (1321, (.iconst 0), 1), (1322, (.aload_n 3), 1), (1323, (.invokestatic 223), 3), (1326, (.istore 5), 2), (1328, (.aload_n 2), 1), (1329, (.aload_n 0), 1), (1330, (.iload 4), 2), (1332, (.iconst 1), 1), (1333, .iadd, 1), (1334, .iaload, 1), (1335, (.aload_n 0), 1), (1336, (.iload 4), 2), (1338, (.iconst 2), 1), (1339, .iadd, 1), (1340, .iaload, 1), (1341, (.aload_n 0), 1), (1342, (.iload 4), 2), (1344, (.iconst 3), 1), (1345, .iadd, 1), (1346, .iaload, 1), (1347, (.aload_n 0), 1), (1348, (.iload 4), 2), (1350, (.iconst 4), 1), (1351, .iadd, 1), (1352, .iaload, 1), (1353, (.ifCond .eq 7), 3), (1356, (.iconst 1), 1), (1357, (.goto 4), 3), (1360, (.iconst 0), 1)] : List (Nat × Instr × Nat)).all (fun q => decide (decode code q.1 = .ok q.2)) = true := by decide +kernel
theorem dL_1275 : dc code 1275 1276 (.aload_n 1) 1 := ⟨dr_at drL_law_1275 (i := 0) rfl, rfl⟩
theorem dL_1276 : dc code 1276 1277 (.aload_n 0) 1 := ⟨dr_at drL_law_1275 (i := 1) rfl, rfl⟩
theorem dL_1277 : dc code 1277 1279 (.iload 4) 2 := ⟨dr_at drL_law_1275 (i := 2) rfl, rfl⟩
theorem dL_1279 : dc code 1279 1280 (.iconst 1) 1 := ⟨dr_at drL_law_1275 (i := 3) rfl, rfl⟩
theorem dL_1280 : dc code 1280 1281 .iadd 1 := ⟨dr_at drL_law_1275 (i := 4) rfl, rfl⟩
theorem dL_1281 : dc code 1281 1282 .iaload 1 := ⟨dr_at drL_law_1275 (i := 5) rfl, rfl⟩
theorem dL_1282 : dc code 1282 1283 (.aload_n 0) 1 := ⟨dr_at drL_law_1275 (i := 6) rfl, rfl⟩
theorem dL_1283 : dc code 1283 1285 (.iload 4) 2 := ⟨dr_at drL_law_1275 (i := 7) rfl, rfl⟩
theorem dL_1285 : dc code 1285 1286 (.iconst 2) 1 := ⟨dr_at drL_law_1275 (i := 8) rfl, rfl⟩
theorem dL_1286 : dc code 1286 1287 .iadd 1 := ⟨dr_at drL_law_1275 (i := 9) rfl, rfl⟩
theorem dL_1287 : dc code 1287 1288 .iaload 1 := ⟨dr_at drL_law_1275 (i := 10) rfl, rfl⟩
theorem dL_1288 : dc code 1288 1289 (.aload_n 0) 1 := ⟨dr_at drL_law_1275 (i := 11) rfl, rfl⟩
theorem dL_1289 : dc code 1289 1291 (.iload 4) 2 := ⟨dr_at drL_law_1275 (i := 12) rfl, rfl⟩
theorem dL_1291 : dc code 1291 1292 (.iconst 3) 1 := ⟨dr_at drL_law_1275 (i := 13) rfl, rfl⟩
theorem dL_1292 : dc code 1292 1293 .iadd 1 := ⟨dr_at drL_law_1275 (i := 14) rfl, rfl⟩
theorem dL_1293 : dc code 1293 1294 .iaload 1 := ⟨dr_at drL_law_1275 (i := 15) rfl, rfl⟩
theorem dL_1294 : dc code 1294 1295 (.aload_n 0) 1 := ⟨dr_at drL_law_1275 (i := 16) rfl, rfl⟩
theorem dL_1295 : dc code 1295 1297 (.iload 4) 2 := ⟨dr_at drL_law_1275 (i := 17) rfl, rfl⟩
theorem dL_1297 : dc code 1297 1298 (.iconst 4) 1 := ⟨dr_at drL_law_1275 (i := 18) rfl, rfl⟩
theorem dL_1298 : dc code 1298 1299 .iadd 1 := ⟨dr_at drL_law_1275 (i := 19) rfl, rfl⟩
theorem dL_1299 : dc code 1299 1300 .iaload 1 := ⟨dr_at drL_law_1275 (i := 20) rfl, rfl⟩
theorem dL_1300 : dc code 1300 1303 (.ifCond .eq 7) 3 := ⟨dr_at drL_law_1275 (i := 21) rfl, rfl⟩
theorem dL_1303 : dc code 1303 1304 (.iconst 1) 1 := ⟨dr_at drL_law_1275 (i := 22) rfl, rfl⟩
theorem dL_1304 : dc code 1304 1307 (.goto 4) 3 := ⟨dr_at drL_law_1275 (i := 23) rfl, rfl⟩
theorem dL_1307 : dc code 1307 1308 (.iconst 0) 1 := ⟨dr_at drL_law_1275 (i := 24) rfl, rfl⟩
theorem dL_1308 : dc code 1308 1309 (.aload_n 0) 1 := ⟨dr_at drL_law_1275 (i := 25) rfl, rfl⟩
theorem dL_1309 : dc code 1309 1311 (.iload 4) 2 := ⟨dr_at drL_law_1275 (i := 26) rfl, rfl⟩
theorem dL_1311 : dc code 1311 1312 (.iconst 5) 1 := ⟨dr_at drL_law_1275 (i := 27) rfl, rfl⟩
theorem dL_1312 : dc code 1312 1313 .iadd 1 := ⟨dr_at drL_law_1275 (i := 28) rfl, rfl⟩
theorem dL_1313 : dc code 1313 1314 .iaload 1 := ⟨dr_at drL_law_1275 (i := 29) rfl, rfl⟩
theorem dL_1314 : dc code 1314 1317 (.ifCond .eq 7) 3 := ⟨dr_at drL_law_1275 (i := 30) rfl, rfl⟩
theorem dL_1317 : dc code 1317 1318 (.iconst 1) 1 := ⟨dr_at drL_law_1275 (i := 31) rfl, rfl⟩
theorem dL_1318 : dc code 1318 1321 (.goto 4) 3 := ⟨dr_at drL_law_1275 (i := 32) rfl, rfl⟩
theorem dL_1321 : dc code 1321 1322 (.iconst 0) 1 := ⟨dr_at drL_law_1275 (i := 33) rfl, rfl⟩
theorem dL_1322 : dc code 1322 1323 (.aload_n 3) 1 := ⟨dr_at drL_law_1275 (i := 34) rfl, rfl⟩
theorem dL_1323 : dc code 1323 1326 (.invokestatic 223) 3 := ⟨dr_at drL_law_1275 (i := 35) rfl, rfl⟩
theorem dL_1326 : dc code 1326 1328 (.istore 5) 2 := ⟨dr_at drL_law_1275 (i := 36) rfl, rfl⟩
theorem dL_1328 : dc code 1328 1329 (.aload_n 2) 1 := ⟨dr_at drL_law_1275 (i := 37) rfl, rfl⟩
theorem dL_1329 : dc code 1329 1330 (.aload_n 0) 1 := ⟨dr_at drL_law_1275 (i := 38) rfl, rfl⟩
theorem dL_1330 : dc code 1330 1332 (.iload 4) 2 := ⟨dr_at drL_law_1275 (i := 39) rfl, rfl⟩
theorem dL_1332 : dc code 1332 1333 (.iconst 1) 1 := ⟨dr_at drL_law_1275 (i := 40) rfl, rfl⟩
theorem dL_1333 : dc code 1333 1334 .iadd 1 := ⟨dr_at drL_law_1275 (i := 41) rfl, rfl⟩
theorem dL_1334 : dc code 1334 1335 .iaload 1 := ⟨dr_at drL_law_1275 (i := 42) rfl, rfl⟩
theorem dL_1335 : dc code 1335 1336 (.aload_n 0) 1 := ⟨dr_at drL_law_1275 (i := 43) rfl, rfl⟩
theorem dL_1336 : dc code 1336 1338 (.iload 4) 2 := ⟨dr_at drL_law_1275 (i := 44) rfl, rfl⟩
theorem dL_1338 : dc code 1338 1339 (.iconst 2) 1 := ⟨dr_at drL_law_1275 (i := 45) rfl, rfl⟩
theorem dL_1339 : dc code 1339 1340 .iadd 1 := ⟨dr_at drL_law_1275 (i := 46) rfl, rfl⟩
theorem dL_1340 : dc code 1340 1341 .iaload 1 := ⟨dr_at drL_law_1275 (i := 47) rfl, rfl⟩
theorem dL_1341 : dc code 1341 1342 (.aload_n 0) 1 := ⟨dr_at drL_law_1275 (i := 48) rfl, rfl⟩
theorem dL_1342 : dc code 1342 1344 (.iload 4) 2 := ⟨dr_at drL_law_1275 (i := 49) rfl, rfl⟩
theorem dL_1344 : dc code 1344 1345 (.iconst 3) 1 := ⟨dr_at drL_law_1275 (i := 50) rfl, rfl⟩
theorem dL_1345 : dc code 1345 1346 .iadd 1 := ⟨dr_at drL_law_1275 (i := 51) rfl, rfl⟩
theorem dL_1346 : dc code 1346 1347 .iaload 1 := ⟨dr_at drL_law_1275 (i := 52) rfl, rfl⟩
theorem dL_1347 : dc code 1347 1348 (.aload_n 0) 1 := ⟨dr_at drL_law_1275 (i := 53) rfl, rfl⟩
theorem dL_1348 : dc code 1348 1350 (.iload 4) 2 := ⟨dr_at drL_law_1275 (i := 54) rfl, rfl⟩
theorem dL_1350 : dc code 1350 1351 (.iconst 4) 1 := ⟨dr_at drL_law_1275 (i := 55) rfl, rfl⟩
theorem dL_1351 : dc code 1351 1352 .iadd 1 := ⟨dr_at drL_law_1275 (i := 56) rfl, rfl⟩
theorem dL_1352 : dc code 1352 1353 .iaload 1 := ⟨dr_at drL_law_1275 (i := 57) rfl, rfl⟩
theorem dL_1353 : dc code 1353 1356 (.ifCond .eq 7) 3 := ⟨dr_at drL_law_1275 (i := 58) rfl, rfl⟩
theorem dL_1356 : dc code 1356 1357 (.iconst 1) 1 := ⟨dr_at drL_law_1275 (i := 59) rfl, rfl⟩
theorem dL_1357 : dc code 1357 1360 (.goto 4) 3 := ⟨dr_at drL_law_1275 (i := 60) rfl, rfl⟩
theorem dL_1360 : dc code 1360 1361 (.iconst 0) 1 := ⟨dr_at drL_law_1275 (i := 61) rfl, rfl⟩
theorem drL_law_1361 : ([(1361, (.aload_n 0), 1), (1362, (.iload 4), 2), (1364, (.iconst 5), 1), (1365, .iadd, 1), (1366, .iaload, 1), (1367, (.ifCond .eq 7), 3), (1370, (.iconst 1), 1), (1371, (.goto 4), 3), (1374, (.iconst 0), 1), (1375, (.invokevirtual 226), 3), (1378, (.lstore 6), 2), (1380, (.goto 602), 3), (1383, (.aload_n 1), 1), (1384, (.aload_n 3), 1), (1385, (.invokestatic 227), 3), (1388, (.istore 5), 2), (1390, (.aload_n 2), 1), (1391, (.invokevirtual 229), 3), (1394, (.istore 6), 2), (1396, (.goto 586), 3), (1399, (.aload_n 1), 1), (1400, (.aload_n 0), 1), (1401, (.iload 4), 2), (1403, (.iconst 1), 1), (1404, .iadd, 1), (1405, .iaload, 1), (1406, (.aload_n 0), 1), (1407, (.iload 4), 2), (1409, (.iconst 2), 1), (1410, .iadd, 1), (1411, .iaload, 1), (1412, (.aload_n 3), 1), (1413, (.invokestatic 230), 3), (1416, (.istore 5), 2), (1418, (.aload_n 2), 1), (1419, (.aload_n 0), 1), (1420, (.iload 4), 2), (1422, (.iconst 1), 1), (1423, .iadd, 1), (1424, .iaload, 1), (1425, (.aload_n 0), 1), (1426, (.iload 4), 2), (1428, (.iconst 2), 1), (1429, .iadd, 1), (1430, .iaload, 1), (1431, (.invokevirtual 232), 3), (1434, (.istore 6), 2), (1436, (.goto 546), 3), (1439, (.aload_n 1), 1), (1440, (.aload_n 0), 1), (1441, (.iload 4), 2), (1443, (.iconst 1), 1), (1444, .iadd, 1), (1445, .iaload, 1), (1446, (.aload_n 3), 1), (1447, (.invokestatic 233), 3), (1450, (.istore 5), 2), (1452, (.aload_n 2), 1)] : List (Nat × Instr × Nat)).all (fun q => decide (decode code q.1 = .ok q.2)) = true := by decide +kernel
theorem dL_1361 : dc code 1361 1362 (.aload_n 0) 1 := ⟨dr_at drL_law_1361 (i := 0) rfl, rfl⟩
theorem dL_1362 : dc code 1362 1364 (.iload 4) 2 := ⟨dr_at drL_law_1361 (i := 1) rfl, rfl⟩
theorem dL_1364 : dc code 1364 1365 (.iconst 5) 1 := ⟨dr_at drL_law_1361 (i := 2) rfl, rfl⟩
theorem dL_1365 : dc code 1365 1366 .iadd 1 := ⟨dr_at drL_law_1361 (i := 3) rfl, rfl⟩
theorem dL_1366 : dc code 1366 1367 .iaload 1 := ⟨dr_at drL_law_1361 (i := 4) rfl, rfl⟩
theorem dL_1367 : dc code 1367 1370 (.ifCond .eq 7) 3 := ⟨dr_at drL_law_1361 (i := 5) rfl, rfl⟩
theorem dL_1370 : dc code 1370 1371 (.iconst 1) 1 := ⟨dr_at drL_law_1361 (i := 6) rfl, rfl⟩
theorem dL_1371 : dc code 1371 1374 (.goto 4) 3 := ⟨dr_at drL_law_1361 (i := 7) rfl, rfl⟩
theorem dL_1374 : dc code 1374 1375 (.iconst 0) 1 := ⟨dr_at drL_law_1361 (i := 8) rfl, rfl⟩
theorem dL_1375 : dc code 1375 1378 (.invokevirtual 226) 3 := ⟨dr_at drL_law_1361 (i := 9) rfl, rfl⟩
theorem dL_1378 : dc code 1378 1380 (.lstore 6) 2 := ⟨dr_at drL_law_1361 (i := 10) rfl, rfl⟩
theorem dL_1380 : dc code 1380 1383 (.goto 602) 3 := ⟨dr_at drL_law_1361 (i := 11) rfl, rfl⟩
theorem dL_1383 : dc code 1383 1384 (.aload_n 1) 1 := ⟨dr_at drL_law_1361 (i := 12) rfl, rfl⟩
theorem dL_1384 : dc code 1384 1385 (.aload_n 3) 1 := ⟨dr_at drL_law_1361 (i := 13) rfl, rfl⟩
theorem dL_1385 : dc code 1385 1388 (.invokestatic 227) 3 := ⟨dr_at drL_law_1361 (i := 14) rfl, rfl⟩
theorem dL_1388 : dc code 1388 1390 (.istore 5) 2 := ⟨dr_at drL_law_1361 (i := 15) rfl, rfl⟩
theorem dL_1390 : dc code 1390 1391 (.aload_n 2) 1 := ⟨dr_at drL_law_1361 (i := 16) rfl, rfl⟩
theorem dL_1391 : dc code 1391 1394 (.invokevirtual 229) 3 := ⟨dr_at drL_law_1361 (i := 17) rfl, rfl⟩
theorem dL_1394 : dc code 1394 1396 (.istore 6) 2 := ⟨dr_at drL_law_1361 (i := 18) rfl, rfl⟩
theorem dL_1396 : dc code 1396 1399 (.goto 586) 3 := ⟨dr_at drL_law_1361 (i := 19) rfl, rfl⟩
theorem dL_1399 : dc code 1399 1400 (.aload_n 1) 1 := ⟨dr_at drL_law_1361 (i := 20) rfl, rfl⟩
theorem dL_1400 : dc code 1400 1401 (.aload_n 0) 1 := ⟨dr_at drL_law_1361 (i := 21) rfl, rfl⟩
theorem dL_1401 : dc code 1401 1403 (.iload 4) 2 := ⟨dr_at drL_law_1361 (i := 22) rfl, rfl⟩
theorem dL_1403 : dc code 1403 1404 (.iconst 1) 1 := ⟨dr_at drL_law_1361 (i := 23) rfl, rfl⟩
theorem dL_1404 : dc code 1404 1405 .iadd 1 := ⟨dr_at drL_law_1361 (i := 24) rfl, rfl⟩
theorem dL_1405 : dc code 1405 1406 .iaload 1 := ⟨dr_at drL_law_1361 (i := 25) rfl, rfl⟩
theorem dL_1406 : dc code 1406 1407 (.aload_n 0) 1 := ⟨dr_at drL_law_1361 (i := 26) rfl, rfl⟩
theorem dL_1407 : dc code 1407 1409 (.iload 4) 2 := ⟨dr_at drL_law_1361 (i := 27) rfl, rfl⟩
theorem dL_1409 : dc code 1409 1410 (.iconst 2) 1 := ⟨dr_at drL_law_1361 (i := 28) rfl, rfl⟩
theorem dL_1410 : dc code 1410 1411 .iadd 1 := ⟨dr_at drL_law_1361 (i := 29) rfl, rfl⟩
theorem dL_1411 : dc code 1411 1412 .iaload 1 := ⟨dr_at drL_law_1361 (i := 30) rfl, rfl⟩
theorem dL_1412 : dc code 1412 1413 (.aload_n 3) 1 := ⟨dr_at drL_law_1361 (i := 31) rfl, rfl⟩
theorem dL_1413 : dc code 1413 1416 (.invokestatic 230) 3 := ⟨dr_at drL_law_1361 (i := 32) rfl, rfl⟩
theorem dL_1416 : dc code 1416 1418 (.istore 5) 2 := ⟨dr_at drL_law_1361 (i := 33) rfl, rfl⟩
theorem dL_1418 : dc code 1418 1419 (.aload_n 2) 1 := ⟨dr_at drL_law_1361 (i := 34) rfl, rfl⟩
theorem dL_1419 : dc code 1419 1420 (.aload_n 0) 1 := ⟨dr_at drL_law_1361 (i := 35) rfl, rfl⟩
theorem dL_1420 : dc code 1420 1422 (.iload 4) 2 := ⟨dr_at drL_law_1361 (i := 36) rfl, rfl⟩
theorem dL_1422 : dc code 1422 1423 (.iconst 1) 1 := ⟨dr_at drL_law_1361 (i := 37) rfl, rfl⟩
theorem dL_1423 : dc code 1423 1424 .iadd 1 := ⟨dr_at drL_law_1361 (i := 38) rfl, rfl⟩
theorem dL_1424 : dc code 1424 1425 .iaload 1 := ⟨dr_at drL_law_1361 (i := 39) rfl, rfl⟩
theorem dL_1425 : dc code 1425 1426 (.aload_n 0) 1 := ⟨dr_at drL_law_1361 (i := 40) rfl, rfl⟩
theorem dL_1426 : dc code 1426 1428 (.iload 4) 2 := ⟨dr_at drL_law_1361 (i := 41) rfl, rfl⟩
theorem dL_1428 : dc code 1428 1429 (.iconst 2) 1 := ⟨dr_at drL_law_1361 (i := 42) rfl, rfl⟩
theorem dL_1429 : dc code 1429 1430 .iadd 1 := ⟨dr_at drL_law_1361 (i := 43) rfl, rfl⟩
theorem dL_1430 : dc code 1430 1431 .iaload 1 := ⟨dr_at drL_law_1361 (i := 44) rfl, rfl⟩
theorem dL_1431 : dc code 1431 1434 (.invokevirtual 232) 3 := ⟨dr_at drL_law_1361 (i := 45) rfl, rfl⟩
theorem dL_1434 : dc code 1434 1436 (.istore 6) 2 := ⟨dr_at drL_law_1361 (i := 46) rfl, rfl⟩
theorem dL_1436 : dc code 1436 1439 (.goto 546) 3 := ⟨dr_at drL_law_1361 (i := 47) rfl, rfl⟩
theorem dL_1439 : dc code 1439 1440 (.aload_n 1) 1 := ⟨dr_at drL_law_1361 (i := 48) rfl, rfl⟩
theorem dL_1440 : dc code 1440 1441 (.aload_n 0) 1 := ⟨dr_at drL_law_1361 (i := 49) rfl, rfl⟩
theorem dL_1441 : dc code 1441 1443 (.iload 4) 2 := ⟨dr_at drL_law_1361 (i := 50) rfl, rfl⟩
theorem dL_1443 : dc code 1443 1444 (.iconst 1) 1 := ⟨dr_at drL_law_1361 (i := 51) rfl, rfl⟩
theorem dL_1444 : dc code 1444 1445 .iadd 1 := ⟨dr_at drL_law_1361 (i := 52) rfl, rfl⟩
theorem dL_1445 : dc code 1445 1446 .iaload 1 := ⟨dr_at drL_law_1361 (i := 53) rfl, rfl⟩
theorem dL_1446 : dc code 1446 1447 (.aload_n 3) 1 := ⟨dr_at drL_law_1361 (i := 54) rfl, rfl⟩
theorem dL_1447 : dc code 1447 1450 (.invokestatic 233) 3 := ⟨dr_at drL_law_1361 (i := 55) rfl, rfl⟩
theorem dL_1450 : dc code 1450 1452 (.istore 5) 2 := ⟨dr_at drL_law_1361 (i := 56) rfl, rfl⟩
theorem dL_1452 : dc code 1452 1453 (.aload_n 2) 1 := ⟨dr_at drL_law_1361 (i := 57) rfl, rfl⟩
theorem drL_law_1453 : ([(1453, (.aload_n 0), 1), (1454, (.iload 4), 2), (1456, (.iconst 1), 1), (1457, .iadd, 1), (1458, .iaload, 1), (1459, (.invokevirtual 236), 3), (1462, (.istore 6), 2), (1464, (.goto 518), 3), (1467, (.aload_n 1), 1), (1468, (.aload_n 0), 1), (1469, (.iload 4), 2), (1471, (.iconst 1), 1), (1472, .iadd, 1), (1473, .iaload, 1), (1474, (.aload_n 0), 1), (1475, (.iload 4), 2), (1477, (.iconst 2), 1), (1478, .iadd, 1), (1479, .iaload, 1), (1480, (.aload_n 0), 1), (1481, (.iload 4), 2), (1483, (.iconst 3), 1), (1484, .iadd, 1), (1485, .iaload, 1), (1486, (.aload_n 0), 1), (1487, (.iload 4), 2), (1489, (.iconst 4), 1), (1490, .iadd, 1), (1491, .iaload, 1), (1492, (.aload_n 0), 1), (1493, (.iload 4), 2), (1495, (.iconst 5), 1), (1496, .iadd, 1), (1497, .iaload, 1), (1498, (.aload_n 3), 1), (1499, (.invokestatic 237), 3), (1502, (.istore 5), 2), (1504, (.aload_n 2), 1), (1505, (.aload_n 0), 1), (1506, (.iload 4), 2), (1508, (.iconst 1), 1), (1509, .iadd, 1), (1510, .iaload, 1), (1511, (.aload_n 0), 1), (1512, (.iload 4), 2), (1514, (.iconst 2), 1), (1515, .iadd, 1), (1516, .iaload, 1), (1517, (.aload_n 0), 1), (1518, (.iload 4), 2), (1520, (.iconst 3), 1), (1521, .iadd, 1), (1522, .iaload, 1), (1523, (.aload_n 0), 1), (1524, (.iload 4), 2)] : List (Nat × Instr × Nat)).all (fun q => decide (decode code q.1 = .ok q.2)) = true := by decide +kernel
theorem dL_1453 : dc code 1453 1454 (.aload_n 0) 1 := ⟨dr_at drL_law_1453 (i := 0) rfl, rfl⟩
theorem dL_1454 : dc code 1454 1456 (.iload 4) 2 := ⟨dr_at drL_law_1453 (i := 1) rfl, rfl⟩
theorem dL_1456 : dc code 1456 1457 (.iconst 1) 1 := ⟨dr_at drL_law_1453 (i := 2) rfl, rfl⟩
theorem dL_1457 : dc code 1457 1458 .iadd 1 := ⟨dr_at drL_law_1453 (i := 3) rfl, rfl⟩
theorem dL_1458 : dc code 1458 1459 .iaload 1 := ⟨dr_at drL_law_1453 (i := 4) rfl, rfl⟩
theorem dL_1459 : dc code 1459 1462 (.invokevirtual 236) 3 := ⟨dr_at drL_law_1453 (i := 5) rfl, rfl⟩
theorem dL_1462 : dc code 1462 1464 (.istore 6) 2 := ⟨dr_at drL_law_1453 (i := 6) rfl, rfl⟩
theorem dL_1464 : dc code 1464 1467 (.goto 518) 3 := ⟨dr_at drL_law_1453 (i := 7) rfl, rfl⟩
theorem dL_1467 : dc code 1467 1468 (.aload_n 1) 1 := ⟨dr_at drL_law_1453 (i := 8) rfl, rfl⟩
theorem dL_1468 : dc code 1468 1469 (.aload_n 0) 1 := ⟨dr_at drL_law_1453 (i := 9) rfl, rfl⟩
theorem dL_1469 : dc code 1469 1471 (.iload 4) 2 := ⟨dr_at drL_law_1453 (i := 10) rfl, rfl⟩
theorem dL_1471 : dc code 1471 1472 (.iconst 1) 1 := ⟨dr_at drL_law_1453 (i := 11) rfl, rfl⟩
theorem dL_1472 : dc code 1472 1473 .iadd 1 := ⟨dr_at drL_law_1453 (i := 12) rfl, rfl⟩
theorem dL_1473 : dc code 1473 1474 .iaload 1 := ⟨dr_at drL_law_1453 (i := 13) rfl, rfl⟩
theorem dL_1474 : dc code 1474 1475 (.aload_n 0) 1 := ⟨dr_at drL_law_1453 (i := 14) rfl, rfl⟩
theorem dL_1475 : dc code 1475 1477 (.iload 4) 2 := ⟨dr_at drL_law_1453 (i := 15) rfl, rfl⟩
theorem dL_1477 : dc code 1477 1478 (.iconst 2) 1 := ⟨dr_at drL_law_1453 (i := 16) rfl, rfl⟩
theorem dL_1478 : dc code 1478 1479 .iadd 1 := ⟨dr_at drL_law_1453 (i := 17) rfl, rfl⟩
theorem dL_1479 : dc code 1479 1480 .iaload 1 := ⟨dr_at drL_law_1453 (i := 18) rfl, rfl⟩
theorem dL_1480 : dc code 1480 1481 (.aload_n 0) 1 := ⟨dr_at drL_law_1453 (i := 19) rfl, rfl⟩
theorem dL_1481 : dc code 1481 1483 (.iload 4) 2 := ⟨dr_at drL_law_1453 (i := 20) rfl, rfl⟩
theorem dL_1483 : dc code 1483 1484 (.iconst 3) 1 := ⟨dr_at drL_law_1453 (i := 21) rfl, rfl⟩
theorem dL_1484 : dc code 1484 1485 .iadd 1 := ⟨dr_at drL_law_1453 (i := 22) rfl, rfl⟩
theorem dL_1485 : dc code 1485 1486 .iaload 1 := ⟨dr_at drL_law_1453 (i := 23) rfl, rfl⟩
theorem dL_1486 : dc code 1486 1487 (.aload_n 0) 1 := ⟨dr_at drL_law_1453 (i := 24) rfl, rfl⟩
theorem dL_1487 : dc code 1487 1489 (.iload 4) 2 := ⟨dr_at drL_law_1453 (i := 25) rfl, rfl⟩
theorem dL_1489 : dc code 1489 1490 (.iconst 4) 1 := ⟨dr_at drL_law_1453 (i := 26) rfl, rfl⟩
theorem dL_1490 : dc code 1490 1491 .iadd 1 := ⟨dr_at drL_law_1453 (i := 27) rfl, rfl⟩
theorem dL_1491 : dc code 1491 1492 .iaload 1 := ⟨dr_at drL_law_1453 (i := 28) rfl, rfl⟩
theorem dL_1492 : dc code 1492 1493 (.aload_n 0) 1 := ⟨dr_at drL_law_1453 (i := 29) rfl, rfl⟩
theorem dL_1493 : dc code 1493 1495 (.iload 4) 2 := ⟨dr_at drL_law_1453 (i := 30) rfl, rfl⟩
theorem dL_1495 : dc code 1495 1496 (.iconst 5) 1 := ⟨dr_at drL_law_1453 (i := 31) rfl, rfl⟩
theorem dL_1496 : dc code 1496 1497 .iadd 1 := ⟨dr_at drL_law_1453 (i := 32) rfl, rfl⟩
theorem dL_1497 : dc code 1497 1498 .iaload 1 := ⟨dr_at drL_law_1453 (i := 33) rfl, rfl⟩
theorem dL_1498 : dc code 1498 1499 (.aload_n 3) 1 := ⟨dr_at drL_law_1453 (i := 34) rfl, rfl⟩
theorem dL_1499 : dc code 1499 1502 (.invokestatic 237) 3 := ⟨dr_at drL_law_1453 (i := 35) rfl, rfl⟩
theorem dL_1502 : dc code 1502 1504 (.istore 5) 2 := ⟨dr_at drL_law_1453 (i := 36) rfl, rfl⟩
theorem dL_1504 : dc code 1504 1505 (.aload_n 2) 1 := ⟨dr_at drL_law_1453 (i := 37) rfl, rfl⟩
theorem dL_1505 : dc code 1505 1506 (.aload_n 0) 1 := ⟨dr_at drL_law_1453 (i := 38) rfl, rfl⟩
theorem dL_1506 : dc code 1506 1508 (.iload 4) 2 := ⟨dr_at drL_law_1453 (i := 39) rfl, rfl⟩
theorem dL_1508 : dc code 1508 1509 (.iconst 1) 1 := ⟨dr_at drL_law_1453 (i := 40) rfl, rfl⟩
theorem dL_1509 : dc code 1509 1510 .iadd 1 := ⟨dr_at drL_law_1453 (i := 41) rfl, rfl⟩
theorem dL_1510 : dc code 1510 1511 .iaload 1 := ⟨dr_at drL_law_1453 (i := 42) rfl, rfl⟩
theorem dL_1511 : dc code 1511 1512 (.aload_n 0) 1 := ⟨dr_at drL_law_1453 (i := 43) rfl, rfl⟩
theorem dL_1512 : dc code 1512 1514 (.iload 4) 2 := ⟨dr_at drL_law_1453 (i := 44) rfl, rfl⟩
theorem dL_1514 : dc code 1514 1515 (.iconst 2) 1 := ⟨dr_at drL_law_1453 (i := 45) rfl, rfl⟩
theorem dL_1515 : dc code 1515 1516 .iadd 1 := ⟨dr_at drL_law_1453 (i := 46) rfl, rfl⟩
theorem dL_1516 : dc code 1516 1517 .iaload 1 := ⟨dr_at drL_law_1453 (i := 47) rfl, rfl⟩
theorem dL_1517 : dc code 1517 1518 (.aload_n 0) 1 := ⟨dr_at drL_law_1453 (i := 48) rfl, rfl⟩
theorem dL_1518 : dc code 1518 1520 (.iload 4) 2 := ⟨dr_at drL_law_1453 (i := 49) rfl, rfl⟩
theorem dL_1520 : dc code 1520 1521 (.iconst 3) 1 := ⟨dr_at drL_law_1453 (i := 50) rfl, rfl⟩
theorem dL_1521 : dc code 1521 1522 .iadd 1 := ⟨dr_at drL_law_1453 (i := 51) rfl, rfl⟩
theorem dL_1522 : dc code 1522 1523 .iaload 1 := ⟨dr_at drL_law_1453 (i := 52) rfl, rfl⟩
theorem dL_1523 : dc code 1523 1524 (.aload_n 0) 1 := ⟨dr_at drL_law_1453 (i := 53) rfl, rfl⟩
theorem dL_1524 : dc code 1524 1526 (.iload 4) 2 := ⟨dr_at drL_law_1453 (i := 54) rfl, rfl⟩
