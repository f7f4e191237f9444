theorem drL_law_1177 : ([(1177, (.iload 4), 2), (1179, (.iconst 4), 1), (1180, .iadd, 1), (1181, .iaload, 1), (1182, (.invokevirtual 212), 3), (1185, (.istore 6), 2), (1187, (.goto 812), 3), (1190, (.aload_n 1), 1), (1191, (.aload_n 0), 1), (1192, (.iload 4), 2), (1194, (.iconst 1), 1), (1195, .iadd, 1), (1196, .iaload, 1), (1197, (.aload_n 0), 1), (1198, (.iload 4), 2), (1200, (.iconst 2), 1), (1201, .iadd, 1), (1202, .iaload, 1), (1203, (.aload_n 0), 1), (1204, (.iload 4), 2), (1206, (.iconst 3), 1), (1207, .iadd, 1), (1208, .iaload, 1), (1209, (.aload_n 3), 1), (1210, (.invokestatic 213), 3), (1213, (.istore 5), 2), (1215, (.aload_n 2), 1), (1216, (.aload_n 0), 1), (1217, (.iload 4), 2), (1219, (.iconst 1), 1), (1220, .iadd, 1), (1221, .iaload, 1), (1222, (.aload_n 0), 1), (1223, (.iload 4), 2), (1225, (.iconst 2), 1), (1226, .iadd, 1), (1227, .iaload, 1), (1228, (.aload_n 0), 1), (1229, (.iload 4), 2), (1231, (.iconst 3), 1), (1232, .iadd, 1), (1233, .iaload, 1), (1234, (.invokevirtual 215), 3), (1237, (.istore 6), 2), (1239, (.goto 760), 3), (1242, (.aload_n 1), 1), (1243, (.invokevirtual 216), 3), (1246, .pop, 1), (1247, (.aload_n 2), 1), (1248, (.invokevirtual 219), 3), (1251, .pop, 1), (1252, (.goto 747), 3), (1255, (.aload_n 1), 1), (1256, (.aload_n 0), 1), (1257, (.iload 4), 2), (1259, (.iconst 1), 1), (1260, .iadd, 1), (1261, .iaload, 1), (1262, (.aload_n 0), 1), (1263, (.iload 4), 2), (1265, (.iconst 2), 1), (1266, .iadd, 1), (1267, .iaload, 1), (1268, (.invokestatic 220), 3), (1271, (.istore 5), 2), (1273, (.aload_n 2), 1), (1274, (.aload_n 0), 1)] : List (Nat × Instr × Nat)).all (fun q => decide (decode code q.1 = .ok q.2)) = true := by decide +kernel
theorem dL_1177 : dc code 1177 1179 (.iload 4) 2 := ⟨dr_at drL_law_1177 (i := 0) rfl, rfl⟩
theorem dL_1179 : dc code 1179 1180 (.iconst 4) 1 := ⟨dr_at drL_law_1177 (i := 1) rfl, rfl⟩
theorem dL_1180 : dc code 1180 1181 .iadd 1 := ⟨dr_at drL_law_1177 (i := 2) rfl, rfl⟩
theorem dL_1181 : dc code 1181 1182 .iaload 1 := ⟨dr_at drL_law_1177 (i := 3) rfl, rfl⟩
theorem dL_1182 : dc code 1182 1185 (.invokevirtual 212) 3 := ⟨dr_at drL_law_1177 (i := 4) rfl, rfl⟩
theorem dL_1185 : dc code 1185 1187 (.istore 6) 2 := ⟨dr_at drL_law_1177 (i := 5) rfl, rfl⟩
theorem dL_1187 : dc code 1187 1190 (.goto 812) 3 := ⟨dr_at drL_law_1177 (i := 6) rfl, rfl⟩
theorem dL_1190 : dc code 1190 1191 (.aload_n 1) 1 := ⟨dr_at drL_law_1177 (i := 7) rfl, rfl⟩
theorem dL_1191 : dc code 1191 1192 (.aload_n 0) 1 := ⟨dr_at drL_law_1177 (i := 8) rfl, rfl⟩
theorem dL_1192 : dc code 1192 1194 (.iload 4) 2 := ⟨dr_at drL_law_1177 (i := 9) rfl, rfl⟩
theorem dL_1194 : dc code 1194 1195 (.iconst 1) 1 := ⟨dr_at drL_law_1177 (i := 10) rfl, rfl⟩
theorem dL_1195 : dc code 1195 1196 .iadd 1 := ⟨dr_at drL_law_1177 (i := 11) rfl, rfl⟩
theorem dL_1196 : dc code 1196 1197 .iaload 1 := ⟨dr_at drL_law_1177 (i := 12) rfl, rfl⟩
theorem dL_1197 : dc code 1197 1198 (.aload_n 0) 1 := ⟨dr_at drL_law_1177 (i := 13) rfl, rfl⟩
theorem dL_1198 : dc code 1198 1200 (.iload 4) 2 := ⟨dr_at drL_law_1177 (i := 14) rfl, rfl⟩
theorem dL_1200 : dc code 1200 1201 (.iconst 2) 1 := ⟨dr_at drL_law_1177 (i := 15) rfl, rfl⟩
theorem dL_1201 : dc code 1201 1202 .iadd 1 := ⟨dr_at drL_law_1177 (i := 16) rfl, rfl⟩
theorem dL_1202 : dc code 1202 1203 .iaload 1 := ⟨dr_at drL_law_1177 (i := 17) rfl, rfl⟩
theorem dL_1203 : dc code 1203 1204 (.aload_n 0) 1 := ⟨dr_at drL_law_1177 (i := 18) rfl, rfl⟩
theorem dL_1204 : dc code 1204 1206 (.iload 4) 2 := ⟨dr_at drL_law_1177 (i := 19) rfl, rfl⟩
theorem dL_1206 : dc code 1206 1207 (.iconst 3) 1 := ⟨dr_at drL_law_1177 (i := 20) rfl, rfl⟩
theorem dL_1207 : dc code 1207 1208 .iadd 1 := ⟨dr_at drL_law_1177 (i := 21) rfl, rfl⟩
theorem dL_1208 : dc code 1208 1209 .iaload 1 := ⟨dr_at drL_law_1177 (i := 22) rfl, rfl⟩
theorem dL_1209 : dc code 1209 1210 (.aload_n 3) 1 := ⟨dr_at drL_law_1177 (i := 23) rfl, rfl⟩
theorem dL_1210 : dc code 1210 1213 (.invokestatic 213) 3 := ⟨dr_at drL_law_1177 (i := 24) rfl, rfl⟩
theorem dL_1213 : dc code 1213 1215 (.istore 5) 2 := ⟨dr_at drL_law_1177 (i := 25) rfl, rfl⟩
theorem dL_1215 : dc code 1215 1216 (.aload_n 2) 1 := ⟨dr_at drL_law_1177 (i := 26) rfl, rfl⟩
theorem dL_1216 : dc code 1216 1217 (.aload_n 0) 1 := ⟨dr_at drL_law_1177 (i := 27) rfl, rfl⟩
theorem dL_1217 : dc code 1217 1219 (.iload 4) 2 := ⟨dr_at drL_law_1177 (i := 28) rfl, rfl⟩
theorem dL_1219 : dc code 1219 1220 (.iconst 1) 1 := ⟨dr_at drL_law_1177 (i := 29) rfl, rfl⟩
theorem dL_1220 : dc code 1220 1221 .iadd 1 := ⟨dr_at drL_law_1177 (i := 30) rfl, rfl⟩
theorem dL_1221 : dc code 1221 1222 .iaload 1 := ⟨dr_at drL_law_1177 (i := 31) rfl, rfl⟩
theorem dL_1222 : dc code 1222 1223 (.aload_n 0) 1 := ⟨dr_at drL_law_1177 (i := 32) rfl, rfl⟩
theorem dL_1223 : dc code 1223 1225 (.iload 4) 2 := ⟨dr_at drL_law_1177 (i := 33) rfl, rfl⟩
theorem dL_1225 : dc code 1225 1226 (.iconst 2) 1 := ⟨dr_at drL_law_1177 (i := 34) rfl, rfl⟩
theorem dL_1226 : dc code 1226 1227 .iadd 1 := ⟨dr_at drL_law_1177 (i := 35) rfl, rfl⟩
theorem dL_1227 : dc code 1227 1228 .iaload 1 := ⟨dr_at drL_law_1177 (i := 36) rfl, rfl⟩
theorem dL_1228 : dc code 1228 1229 (.aload_n 0) 1 := ⟨dr_at drL_law_1177 (i := 37) rfl, rfl⟩
theorem dL_1229 : dc code 1229 1231 (.iload 4) 2 := ⟨dr_at drL_law_1177 (i := 38) rfl, rfl⟩
theorem dL_1231 : dc code 1231 1232 (.iconst 3) 1 := ⟨dr_at drL_law_1177 (i := 39) rfl, rfl⟩
theorem dL_1232 : dc code 1232 1233 .iadd 1 := ⟨dr_at drL_law_1177 (i := 40) rfl, rfl⟩
theorem dL_1233 : dc code 1233 1234 .iaload 1 := ⟨dr_at drL_law_1177 (i := 41) rfl, rfl⟩
theorem dL_1234 : dc code 1234 1237 (.invokevirtual 215) 3 := ⟨dr_at drL_law_1177 (i := 42) rfl, rfl⟩
theorem dL_1237 : dc code 1237 1239 (.istore 6) 2 := ⟨dr_at drL_law_1177 (i := 43) rfl, rfl⟩
theorem dL_1239 : dc code 1239 1242 (.goto 760) 3 := ⟨dr_at drL_law_1177 (i := 44) rfl, rfl⟩
theorem dL_1242 : dc code 1242 1243 (.aload_n 1) 1 := ⟨dr_at drL_law_1177 (i := 45) rfl, rfl⟩
theorem dL_1243 : dc code 1243 1246 (.invokevirtual 216) 3 := ⟨dr_at drL_law_1177 (i := 46) rfl, rfl⟩
theorem dL_1246 : dc code 1246 1247 .pop 1 := ⟨dr_at drL_law_1177 (i := 47) rfl, rfl⟩
theorem dL_1247 : dc code 1247 1248 (.aload_n 2) 1 := ⟨dr_at drL_law_1177 (i := 48) rfl, rfl⟩
theorem dL_1248 : dc code 1248 1251 (.invokevirtual 219) 3 := ⟨dr_at drL_law_1177 (i := 49) rfl, rfl⟩
theorem dL_1251 : dc code 1251 1252 .pop 1 := ⟨dr_at drL_law_1177 (i := 50) rfl, rfl⟩
theorem dL_1252 : dc code 1252 1255 (.goto 747) 3 := ⟨dr_at drL_law_1177 (i := 51) rfl, rfl⟩
theorem dL_1255 : dc code 1255 1256 (.aload_n 1) 1 := ⟨dr_at drL_law_1177 (i := 52) rfl, rfl⟩
theorem dL_1256 : dc code 1256 1257 (.aload_n 0) 1 := ⟨dr_at drL_law_1177 (i := 53) rfl, rfl⟩
theorem dL_1257 : dc code 1257 1259 (.iload 4) 2 := ⟨dr_at drL_law_1177 (i := 54) rfl, rfl⟩
theorem dL_1259 : dc code 1259 1260 (.iconst 1) 1 := ⟨dr_at drL_law_1177 (i := 55) rfl, rfl⟩
theorem dL_1260 : dc code 1260 1261 .iadd 1 := ⟨dr_at drL_law_1177 (i := 56) rfl, rfl⟩
theorem dL_1261 : dc code 1261 1262 .iaload 1 := ⟨dr_at drL_law_1177 (i := 57) rfl, rfl⟩
theorem dL_1262 : dc code 1262 1263 (.aload_n 0) 1 := ⟨dr_at drL_law_1177 (i := 58) rfl, rfl⟩
theorem dL_1263 : dc code 1263 1265 (.iload 4) 2 := ⟨dr_at drL_law_1177 (i := 59) rfl, rfl⟩
theorem dL_1265 : dc code 1265 1266 (.iconst 2) 1 := ⟨dr_at drL_law_1177 (i := 60) rfl, rfl⟩
theorem dL_1266 : dc code 1266 1267 .iadd 1 := ⟨dr_at drL_law_1177 (i := 61) rfl, rfl⟩
theorem dL_1267 : dc code 1267 1268 .iaload 1 := ⟨dr_at drL_law_1177 (i := 62) rfl, rfl⟩
theorem dL_1268 : dc code 1268 1271 (.invokestatic 220) 3 := ⟨dr_at drL_law_1177 (i := 63) rfl, rfl⟩
theorem dL_1271 : dc code 1271 1273 (.istore 5) 2 := ⟨dr_at drL_law_1177 (i := 64) rfl, rfl⟩
theorem dL_1273 : dc code 1273 1274 (.aload_n 2) 1 := ⟨dr_at drL_law_1177 (i := 65) rfl, rfl⟩
theorem dL_1274 : dc code 1274 1275 (.aload_n 0) 1 := ⟨dr_at drL_law_1177 (i := 66) rfl, rfl⟩
theorem drL_law_1275 : ([(1275, (.iload 4), 2), (1277, (.iconst 1), 1), (1278, .iadd, 1), (1279, .iaload, 1), (1280, (.aload_n 0), 1), (1281, (.iload 4), 2), (1283, (.iconst 2), 1), (1284, .iadd, 1), (1285, .iaload, 1), (1286, (.invokevirtual 222), 3), (1289, (.goto 710), 3), (1292, (.aload_n 1), 1), (1293, (.aload_n 0), 1), (1294, (.iload 4), 2), (1296, (.iconst 1), 1), (1297, .iadd, 1), (1298, .iaload, 1), (1299, (.aload_n 0), 1), (1300, (.iload 4), 2), (1302, (.iconst 2), 1), (1303, .iadd, 1), (1304, .iaload, 1), (1305, (.aload_n 0), 1), (1306, (.iload 4), 2), (1308, (.iconst 3), 1), (1309, .iadd, 1), (1310, .iaload, 1), (1311, (.aload_n 0), 1), (1312, (.iload 4), 2), (1314, (.iconst 4), 1), (1315, .iadd, 1), (1316, .iaload, 1), (1317, (.ifCond .eq 7), 3), (1320, (.iconst 1), 1), (1321, (.goto 4), 3), (1324, (.iconst 0), 1), (1325, (.aload_n 0), 1), (1326, (.iload 4), 2), (1328, (.iconst 5), 1), (1329, .iadd, 1), (1330, .iaload, 1), (1331, (.ifCond .eq 7), 3), (1334, (.iconst 1), 1), (1335, (.goto 4), 3), (1338, (.iconst 0), 1), (1339, (.aload_n 3), 1), (1340, (.invokestatic 223), 3), (1343, (.istore 5), 2), (1345, (.aload_n 2), 1), (1346, (.aload_n 0), 1), (1347, (.iload 4), 2), (1349, (.iconst 1), 1), (1350, .iadd, 1), (1351, .iaload, 1), (1352, (.aload_n 0), 1), (1353, (.iload 4), 2), (1355, (.iconst 2), 1), (1356, .iadd, 1), (1357, .iaload, 1), (1358, (.aload_n 0), 1), (1359, (.iload 4), 2), (1361, (.iconst 3), 1)] : List (Nat × Instr × Nat)).all (fun q => decide (decode code q.1 = .ok q.2)) = true := by decide +kernel
theorem dL_1275 : dc code 1275 1277 (.iload 4) 2 := ⟨dr_at drL_law_1275 (i := 0) rfl, rfl⟩
theorem dL_1277 : dc code 1277 1278 (.iconst 1) 1 := ⟨dr_at drL_law_1275 (i := 1) rfl, rfl⟩
theorem dL_1278 : dc code 1278 1279 .iadd 1 := ⟨dr_at drL_law_1275 (i := 2) rfl, rfl⟩
theorem dL_1279 : dc code 1279 1280 .iaload 1 := ⟨dr_at drL_law_1275 (i := 3) rfl, rfl⟩
theorem dL_1280 : dc code 1280 1281 (.aload_n 0) 1 := ⟨dr_at drL_law_1275 (i := 4) rfl, rfl⟩
theorem dL_1281 : dc code 1281 1283 (.iload 4) 2 := ⟨dr_at drL_law_1275 (i := 5) rfl, rfl⟩
theorem dL_1283 : dc code 1283 1284 (.iconst 2) 1 := ⟨dr_at drL_law_1275 (i := 6) rfl, rfl⟩
theorem dL_1284 : dc code 1284 1285 .iadd 1 := ⟨dr_at drL_law_1275 (i := 7) rfl, rfl⟩
theorem dL_1285 : dc code 1285 1286 .iaload 1 := ⟨dr_at drL_law_1275 (i := 8) rfl, rfl⟩
theorem dL_1286 : dc code 1286 1289 (.invokevirtual 222) 3 := ⟨dr_at drL_law_1275 (i := 9) rfl, rfl⟩
theorem dL_1289 : dc code 1289 1292 (.goto 710) 3 := ⟨dr_at drL_law_1275 (i := 10) rfl, rfl⟩
theorem dL_1292 : dc code 1292 1293 (.aload_n 1) 1 := ⟨dr_at drL_law_1275 (i := 11) rfl, rfl⟩
theorem dL_1293 : dc code 1293 1294 (.aload_n 0) 1 := ⟨dr_at drL_law_1275 (i := 12) rfl, rfl⟩
theorem dL_1294 : dc code 1294 1296 (.iload 4) 2 := ⟨dr_at drL_law_1275 (i := 13) rfl, rfl⟩
theorem dL_1296 : dc code 1296 1297 (.iconst 1) 1 := ⟨dr_at drL_law_1275 (i := 14) rfl, rfl⟩
theorem dL_1297 : dc code 1297 1298 .iadd 1 := ⟨dr_at drL_law_1275 (i := 15) rfl, rfl⟩
theorem dL_1298 : dc code 1298 1299 .iaload 1 := ⟨dr_at drL_law_1275 (i := 16) rfl, rfl⟩
theorem dL_1299 : dc code 1299 1300 (.aload_n 0) 1 := ⟨dr_at drL_law_1275 (i := 17) rfl, rfl⟩
theorem dL_1300 : dc code 1300 1302 (.iload 4) 2 := ⟨dr_at drL_law_1275 (i := 18) rfl, rfl⟩
theorem dL_1302 : dc code 1302 1303 (.iconst 2) 1 := ⟨dr_at drL_law_1275 (i := 19) rfl, rfl⟩
theorem dL_1303 : dc code 1303 1304 .iadd 1 := ⟨dr_at drL_law_1275 (i := 20) rfl, rfl⟩
theorem dL_1304 : dc code 1304 1305 .iaload 1 := ⟨dr_at drL_law_1275 (i := 21) rfl, rfl⟩
theorem dL_1305 : dc code 1305 1306 (.aload_n 0) 1 := ⟨dr_at drL_law_1275 (i := 22) rfl, rfl⟩
theorem dL_1306 : dc code 1306 1308 (.iload 4) 2 := ⟨dr_at drL_law_1275 (i := 23) rfl, rfl⟩
theorem dL_1308 : dc code 1308 1309 (.iconst 3) 1 := ⟨dr_at drL_law_1275 (i := 24) rfl, rfl⟩
theorem dL_1309 : dc code 1309 1310 .iadd 1 := ⟨dr_at drL_law_1275 (i := 25) rfl, rfl⟩
theorem dL_1310 : dc code 1310 1311 .iaload 1 := ⟨dr_at drL_law_1275 (i := 26) rfl, rfl⟩
theorem dL_1311 : dc code 1311 1312 (.aload_n 0) 1 := ⟨dr_at drL_law_1275 (i := 27) rfl, rfl⟩
theorem dL_1312 : dc code 1312 1314 (.iload 4) 2 := ⟨dr_at drL_law_1275 (i := 28) rfl, rfl⟩
theorem dL_1314 : dc code 1314 1315 (.iconst 4) 1 := ⟨dr_at drL_law_1275 (i := 29) rfl, rfl⟩
theorem dL_1315 : dc code 1315 1316 .iadd 1 := ⟨dr_at drL_law_1275 (i := 30) rfl, rfl⟩
theorem dL_1316 : dc code 1316 1317 .iaload 1 := ⟨dr_at drL_law_1275 (i := 31) rfl, rfl⟩
theorem dL_1317 : dc code 1317 1320 (.ifCond .eq 7) 3 := ⟨dr_at drL_law_1275 (i := 32) rfl, rfl⟩
theorem dL_1320 : dc code 1320 1321 (.iconst 1) 1 := ⟨dr_at drL_law_1275 (i := 33) rfl, rfl⟩
theorem dL_1321 : dc code 1321 1324 (.goto 4) 3 := ⟨dr_at drL_law_1275 (i := 34) rfl, rfl⟩
theorem dL_1324 : dc code 1324 1325 (.iconst 0) 1 := ⟨dr_at drL_law_1275 (i := 35) rfl, rfl⟩
theorem dL_1325 : dc code 1325 1326 (.aload_n 0) 1 := ⟨dr_at drL_law_1275 (i := 36) rfl, rfl⟩
theorem dL_1326 : dc code 1326 1328 (.iload 4) 2 := ⟨dr_at drL_law_1275 (i := 37) rfl, rfl⟩
theorem dL_1328 : dc code 1328 1329 (.iconst 5) 1 := ⟨dr_at drL_law_1275 (i := 38) rfl, rfl⟩
theorem dL_1329 : dc code 1329 1330 .iadd 1 := ⟨dr_at drL_law_1275 (i := 39) rfl, rfl⟩
theorem dL_1330 : dc code 1330 1331 .iaload 1 := ⟨dr_at drL_law_1275 (i := 40) rfl, rfl⟩
theorem dL_1331 : dc code 1331 1334 (.ifCond .eq 7) 3 := ⟨dr_at drL_law_1275 (i := 41) rfl, rfl⟩
theorem dL_1334 : dc code 1334 1335 (.iconst 1) 1 := ⟨dr_at drL_law_1275 (i := 42) rfl, rfl⟩
theorem dL_1335 : dc code 1335 1338 (.goto 4) 3 := ⟨dr_at drL_law_1275 (i := 43) rfl, rfl⟩
theorem dL_1338 : dc code 1338 1339 (.iconst 0) 1 := ⟨dr_at drL_law_1275 (i := 44) rfl, rfl⟩
theorem dL_1339 : dc code 1339 1340 (.aload_n 3) 1 := ⟨dr_at drL_law_1275 (i := 45) rfl, rfl⟩
theorem dL_1340 : dc code 1340 1343 (.invokestatic 223) 3 := ⟨dr_at drL_law_1275 (i := 46) rfl, rfl⟩
theorem dL_1343 : dc code 1343 1345 (.istore 5) 2 := ⟨dr_at drL_law_1275 (i := 47) rfl, rfl⟩
theorem dL_1345 : dc code 1345 1346 (.aload_n 2) 1 := ⟨dr_at drL_law_1275 (i := 48) rfl, rfl⟩
theorem dL_1346 : dc code 1346 1347 (.aload_n 0) 1 := ⟨dr_at drL_law_1275 (i := 49) rfl, rfl⟩
theorem dL_1347 : dc code 1347 1349 (.iload 4) 2 := ⟨dr_at drL_law_1275 (i := 50) rfl, rfl⟩
theorem dL_1349 : dc code 1349 1350 (.iconst 1) 1 := ⟨dr_at drL_law_1275 (i := 51) rfl, rfl⟩
theorem dL_1350 : dc code 1350 1351 .iadd 1 := ⟨dr_at drL_law_1275 (i := 52) rfl, rfl⟩
theorem dL_1351 : dc code 1351 1352 .iaload 1 := ⟨dr_at drL_law_1275 (i := 53) rfl, rfl⟩
theorem dL_1352 : dc code 1352 1353 (.aload_n 0) 1 := ⟨dr_at drL_law_1275 (i := 54) rfl, rfl⟩
theorem dL_1353 : dc code 1353 1355 (.iload 4) 2 := ⟨dr_at drL_law_1275 (i := 55) rfl, rfl⟩
theorem dL_1355 : dc code 1355 1356 (.iconst 2) 1 := ⟨dr_at drL_law_1275 (i := 56) rfl, rfl⟩
theorem dL_1356 : dc code 1356 1357 .iadd 1 := ⟨dr_at drL_law_1275 (i := 57) rfl, rfl⟩
theorem dL_1357 : dc code 1357 1358 .iaload 1 := ⟨dr_at drL_law_1275 (i := 58) rfl, rfl⟩
theorem dL_1358 : dc code 1358 1359 (.aload_n 0) 1 := ⟨dr_at drL_law_1275 (i := 59) rfl, rfl⟩
theorem dL_1359 : dc code 1359 1361 (.iload 4) 2 := ⟨dr_at drL_law_1275 (i := 60) rfl, rfl⟩
theorem dL_1361 : dc code 1361 1362 (.iconst 3) 1 := ⟨dr_at drL_law_1275 (i := 61) rfl, rfl⟩
theorem drL_law_1362 : ([(1362, .iadd, 1), (1363, .iaload, 1), (1364, (.aload_n 0), 1), (1365, (.iload 4), 2), (1367, (.iconst 4), 1), (1368, .iadd, 1), (1369, .iaload, 1), (1370, (.ifCond .eq 7), 3), (1373, (.iconst 1), 1), (1374, (.goto 4), 3), (1377, (.iconst 0), 1), (1378, (.aload_n 0), 1), (1379, (.iload 4), 2), (1381, (.iconst 5), 1), (1382, .iadd, 1), (1383, .iaload, 1), (1384, (.ifCond .eq 7), 3), (1387, (.iconst 1), 1), (1388, (.goto 4), 3), (1391, (.iconst 0), 1), (1392, (.invokevirtual 226), 3), (1395, (.lstore 6), 2), (1397, (.goto 602), 3), (1400, (.aload_n 1), 1), (1401, (.aload_n 3), 1), (1402, (.invokestatic 227), 3), (1405, (.istore 5), 2), (1407, (.aload_n 2), 1), (1408, (.invokevirtual 229), 3), (1411, (.istore 6), 2), (1413, (.goto 586), 3), (1416, (.aload_n 1), 1), (1417, (.aload_n 0), 1), (1418, (.iload 4), 2), (1420, (.iconst 1), 1), (1421, .iadd, 1), (1422, .iaload, 1), (1423, (.aload_n 0), 1), (1424, (.iload 4), 2), (1426, (.iconst 2), 1), (1427, .iadd, 1), (1428, .iaload, 1), (1429, (.aload_n 3), 1), (1430, (.invokestatic 230), 3), (1433, (.istore 5), 2), (1435, (.aload_n 2), 1), (1436, (.aload_n 0), 1), (1437, (.iload 4), 2), (1439, (.iconst 1), 1), (1440, .iadd, 1), (1441, .iaload, 1), (1442, (.aload_n 0), 1), (1443, (.iload 4), 2), (1445, (.iconst 2), 1), (1446, .iadd, 1), (1447, .iaload, 1), (1448, (.invokevirtual 232), 3), (1451, (.istore 6), 2)] : List (Nat × Instr × Nat)).all (fun q => decide (decode code q.1 = .ok q.2)) = true := by decide +kernel
theorem dL_1362 : dc code 1362 1363 .iadd 1 := ⟨dr_at drL_law_1362 (i := 0) rfl, rfl⟩
theorem dL_1363 : dc code 1363 1364 .iaload 1 := ⟨dr_at drL_law_1362 (i := 1) rfl, rfl⟩
theorem dL_1364 : dc code 1364 1365 (.aload_n 0) 1 := ⟨dr_at drL_law_1362 (i := 2) rfl, rfl⟩
theorem dL_1365 : dc code 1365 1367 (.iload 4) 2 := ⟨dr_at drL_law_1362 (i := 3) rfl, rfl⟩
theorem dL_1367 : dc code 1367 1368 (.iconst 4) 1 := ⟨dr_at drL_law_1362 (i := 4) rfl, rfl⟩
theorem dL_1368 : dc code 1368 1369 .iadd 1 := ⟨dr_at drL_law_1362 (i := 5) rfl, rfl⟩
theorem dL_1369 : dc code 1369 1370 .iaload 1 := ⟨dr_at drL_law_1362 (i := 6) rfl, rfl⟩
theorem dL_1370 : dc code 1370 1373 (.ifCond .eq 7) 3 := ⟨dr_at drL_law_1362 (i := 7) rfl, rfl⟩
theorem dL_1373 : dc code 1373 1374 (.iconst 1) 1 := ⟨dr_at drL_law_1362 (i := 8) rfl, rfl⟩
theorem dL_1374 : dc code 1374 1377 (.goto 4) 3 := ⟨dr_at drL_law_1362 (i := 9) rfl, rfl⟩
theorem dL_1377 : dc code 1377 1378 (.iconst 0) 1 := ⟨dr_at drL_law_1362 (i := 10) rfl, rfl⟩
theorem dL_1378 : dc code 1378 1379 (.aload_n 0) 1 := ⟨dr_at drL_law_1362 (i := 11) rfl, rfl⟩
theorem dL_1379 : dc code 1379 1381 (.iload 4) 2 := ⟨dr_at drL_law_1362 (i := 12) rfl, rfl⟩
theorem dL_1381 : dc code 1381 1382 (.iconst 5) 1 := ⟨dr_at drL_law_1362 (i := 13) rfl, rfl⟩
theorem dL_1382 : dc code 1382 1383 .iadd 1 := ⟨dr_at drL_law_1362 (i := 14) rfl, rfl⟩
theorem dL_1383 : dc code 1383 1384 .iaload 1 := ⟨dr_at drL_law_1362 (i := 15) rfl, rfl⟩
theorem dL_1384 : dc code 1384 1387 (.ifCond .eq 7) 3 := ⟨dr_at drL_law_1362 (i := 16) rfl, rfl⟩
theorem dL_1387 : dc code 1387 1388 (.iconst 1) 1 := ⟨dr_at drL_law_1362 (i := 17) rfl, rfl⟩
theorem dL_1388 : dc code 1388 1391 (.goto 4) 3 := ⟨dr_at drL_law_1362 (i := 18) rfl, rfl⟩
theorem dL_1391 : dc code 1391 1392 (.iconst 0) 1 := ⟨dr_at drL_law_1362 (i := 19) rfl, rfl⟩
theorem dL_1392 : dc code 1392 1395 (.invokevirtual 226) 3 := ⟨dr_at drL_law_1362 (i := 20) rfl, rfl⟩
theorem dL_1395 : dc code 1395 1397 (.lstore 6) 2 := ⟨dr_at drL_law_1362 (i := 21) rfl, rfl⟩
theorem dL_1397 : dc code 1397 1400 (.goto 602) 3 := ⟨dr_at drL_law_1362 (i := 22) rfl, rfl⟩
theorem dL_1400 : dc code 1400 1401 (.aload_n 1) 1 := ⟨dr_at drL_law_1362 (i := 23) rfl, rfl⟩
theorem dL_1401 : dc code 1401 1402 (.aload_n 3) 1 := ⟨dr_at drL_law_1362 (i := 24) rfl, rfl⟩
theorem dL_1402 : dc code 1402 1405 (.invokestatic 227) 3 := ⟨dr_at drL_law_1362 (i := 25) rfl, rfl⟩
theorem dL_1405 : dc code 1405 1407 (.istore 5) 2 := ⟨dr_at drL_law_1362 (i := 26) rfl, rfl⟩
theorem dL_1407 : dc code 1407 1408 (.aload_n 2) 1 := ⟨dr_at drL_law_1362 (i := 27) rfl, rfl⟩
theorem dL_1408 : dc code 1408 1411 (.invokevirtual 229) 3 := ⟨dr_at drL_law_1362 (i := 28) rfl, rfl⟩
theorem dL_1411 : dc code 1411 1413 (.istore 6) 2 := ⟨dr_at drL_law_1362 (i := 29) rfl, rfl⟩
theorem dL_1413 : dc code 1413 1416 (.goto 586) 3 := ⟨dr_at drL_law_1362 (i := 30) rfl, rfl⟩
theorem dL_1416 : dc code 1416 1417 (.aload_n 1) 1 := ⟨dr_at drL_law_1362 (i := 31) rfl, rfl⟩
theorem dL_1417 : dc code 1417 1418 (.aload_n 0) 1 := ⟨dr_at drL_law_1362 (i := 32) rfl, rfl⟩
theorem dL_1418 : dc code 1418 1420 (.iload 4) 2 := ⟨dr_at drL_law_1362 (i := 33) rfl, rfl⟩
theorem dL_1420 : dc code 1420 1421 (.iconst 1) 1 := ⟨dr_at drL_law_1362 (i := 34) rfl, rfl⟩
theorem dL_1421 : dc code 1421 1422 .iadd 1 := ⟨dr_at drL_law_1362 (i := 35) rfl, rfl⟩
theorem dL_1422 : dc code 1422 1423 .iaload 1 := ⟨dr_at drL_law_1362 (i := 36) rfl, rfl⟩
theorem dL_1423 : dc code 1423 1424 (.aload_n 0) 1 := ⟨dr_at drL_law_1362 (i := 37) rfl, rfl⟩
theorem dL_1424 : dc code 1424 1426 (.iload 4) 2 := ⟨dr_at drL_law_1362 (i := 38) rfl, rfl⟩
theorem dL_1426 : dc code 1426 1427 (.iconst 2) 1 := ⟨dr_at drL_law_1362 (i := 39) rfl, rfl⟩
theorem dL_1427 : dc code 1427 1428 .iadd 1 := ⟨dr_at drL_law_1362 (i := 40) rfl, rfl⟩
theorem dL_1428 : dc code 1428 1429 .iaload 1 := ⟨dr_at drL_law_1362 (i := 41) rfl, rfl⟩
theorem dL_1429 : dc code 1429 1430 (.aload_n 3) 1 := ⟨dr_at drL_law_1362 (i := 42) rfl, rfl⟩
theorem dL_1430 : dc code 1430 1433 (.invokestatic 230) 3 := ⟨dr_at drL_law_1362 (i := 43) rfl, rfl⟩
theorem dL_1433 : dc code 1433 1435 (.istore 5) 2 := ⟨dr_at drL_law_1362 (i := 44) rfl, rfl⟩
theorem dL_1435 : dc code 1435 1436 (.aload_n 2) 1 := ⟨dr_at drL_law_1362 (i := 45) rfl, rfl⟩
theorem dL_1436 : dc code 1436 1437 (.aload_n 0) 1 := ⟨dr_at drL_law_1362 (i := 46) rfl, rfl⟩
theorem dL_1437 : dc code 1437 1439 (.iload 4) 2 := ⟨dr_at drL_law_1362 (i := 47) rfl, rfl⟩
theorem dL_1439 : dc code 1439 1440 (.iconst 1) 1 := ⟨dr_at drL_law_1362 (i := 48) rfl, rfl⟩
theorem dL_1440 : dc code 1440 1441 .iadd 1 := ⟨dr_at drL_law_1362 (i := 49) rfl, rfl⟩
theorem dL_1441 : dc code 1441 1442 .iaload 1 := ⟨dr_at drL_law_1362 (i := 50) rfl, rfl⟩
theorem dL_1442 : dc code 1442 1443 (.aload_n 0) 1 := ⟨dr_at drL_law_1362 (i := 51) rfl, rfl⟩
theorem dL_1443 : dc code 1443 1445 (.iload 4) 2 := ⟨dr_at drL_law_1362 (i := 52) rfl, rfl⟩
theorem dL_1445 : dc code 1445 1446 (.iconst 2) 1 := ⟨dr_at drL_law_1362 (i := 53) rfl, rfl⟩
theorem dL_1446 : dc code 1446 1447 .iadd 1 := ⟨dr_at drL_law_1362 (i := 54) rfl, rfl⟩
theorem dL_1447 : dc code 1447 1448 .iaload 1 := ⟨dr_at drL_law_1362 (i := 55) rfl, rfl⟩
theorem dL_1448 : dc code 1448 1451 (.invokevirtual 232) 3 := ⟨dr_at drL_law_1362 (i := 56) rfl, rfl⟩
theorem dL_1451 : dc code 1451 1453 (.istore 6) 2 := ⟨dr_at drL_law_1362 (i := 57) rfl, rfl⟩
theorem drL_law_1453 : ([(1453, (.goto 546), 3), (1456, (.aload_n 1), 1), (1457, (.aload_n 0), 1), (1458, (.iload 4), 2), (1460, (.iconst 1), 1), (1461, .iadd, 1), (1462, .iaload, 1), (1463, (.aload_n 3), 1), (1464, (.invokestatic 233), 3), (1467, (.istore 5), 2), (1469, (.aload_n 2), 1), (1470, (.aload_n 0), 1), (1471, (.iload 4), 2), (1473, (.iconst 1), 1), (1474, .iadd, 1), (1475, .iaload, 1), (1476, (.invokevirtual 236), 3), (1479, (.istore 6), 2), (1481, (.goto 518), 3), (1484, (.aload_n 1), 1), (1485, (.aload_n 0), 1), (1486, (.iload 4), 2), (1488, (.iconst 1), 1), (1489, .iadd, 1), (1490, .iaload, 1), (1491, (.aload_n 0), 1), (1492, (.iload 4), 2), (1494, (.iconst 2), 1), (1495, .iadd, 1), (1496, .iaload, 1), (1497, (.aload_n 0), 1), (1498, (.iload 4), 2), (1500, (.iconst 3), 1), (1501, .iadd, 1), (1502, .iaload, 1), (1503, (.aload_n 0), 1), (1504, (.iload 4), 2), (1506, (.iconst 4), 1), (1507, .iadd, 1), (1508, .iaload, 1), (1509, (.aload_n 0), 1), (1510, (.iload 4), 2), (1512, (.iconst 5), 1), (1513, .iadd, 1), (1514, .iaload, 1), (1515, (.aload_n 3), 1), (1516, (.invokestatic 237), 3), (1519, (.istore 5), 2), (1521, (.aload_n 2), 1), (1522, (.aload_n 0), 1), (1523, (.iload 4), 2), (1525, (.iconst 1), 1), (1526, .iadd, 1), (1527, .iaload, 1), (1528, (.aload_n 0), 1)] : List (Nat × Instr × Nat)).all (fun q => decide (decode code q.1 = .ok q.2)) = true := by decide +kernel
theorem dL_1453 : dc code 1453 1456 (.goto 546) 3 := ⟨dr_at drL_law_1453 (i := 0) rfl, rfl⟩
theorem dL_1456 : dc code 1456 1457 (.aload_n 1) 1 := ⟨dr_at drL_law_1453 (i := 1) rfl, rfl⟩
theorem dL_1457 : dc code 1457 1458 (.aload_n 0) 1 := ⟨dr_at drL_law_1453 (i := 2) rfl, rfl⟩
theorem dL_1458 : dc code 1458 1460 (.iload 4) 2 := ⟨dr_at drL_law_1453 (i := 3) rfl, rfl⟩
theorem dL_1460 : dc code 1460 1461 (.iconst 1) 1 := ⟨dr_at drL_law_1453 (i := 4) rfl, rfl⟩
theorem dL_1461 : dc code 1461 1462 .iadd 1 := ⟨dr_at drL_law_1453 (i := 5) rfl, rfl⟩
theorem dL_1462 : dc code 1462 1463 .iaload 1 := ⟨dr_at drL_law_1453 (i := 6) rfl, rfl⟩
theorem dL_1463 : dc code 1463 1464 (.aload_n 3) 1 := ⟨dr_at drL_law_1453 (i := 7) rfl, rfl⟩
theorem dL_1464 : dc code 1464 1467 (.invokestatic 233) 3 := ⟨dr_at drL_law_1453 (i := 8) rfl, rfl⟩
theorem dL_1467 : dc code 1467 1469 (.istore 5) 2 := ⟨dr_at drL_law_1453 (i := 9) rfl, rfl⟩
theorem dL_1469 : dc code 1469 1470 (.aload_n 2) 1 := ⟨dr_at drL_law_1453 (i := 10) rfl, rfl⟩
theorem dL_1470 : dc code 1470 1471 (.aload_n 0) 1 := ⟨dr_at drL_law_1453 (i := 11) rfl, rfl⟩
theorem dL_1471 : dc code 1471 1473 (.iload 4) 2 := ⟨dr_at drL_law_1453 (i := 12) rfl, rfl⟩
theorem dL_1473 : dc code 1473 1474 (.iconst 1) 1 := ⟨dr_at drL_law_1453 (i := 13) rfl, rfl⟩
theorem dL_1474 : dc code 1474 1475 .iadd 1 := ⟨dr_at drL_law_1453 (i := 14) rfl, rfl⟩
theorem dL_1475 : dc code 1475 1476 .iaload 1 := ⟨dr_at drL_law_1453 (i := 15) rfl, rfl⟩
theorem dL_1476 : dc code 1476 1479 (.invokevirtual 236) 3 := ⟨dr_at drL_law_1453 (i := 16) rfl, rfl⟩
theorem dL_1479 : dc code 1479 1481 (.istore 6) 2 := ⟨dr_at drL_law_1453 (i := 17) rfl, rfl⟩
theorem dL_1481 : dc code 1481 1484 (.goto 518) 3 := ⟨dr_at drL_law_1453 (i := 18) rfl, rfl⟩
theorem dL_1484 : dc code 1484 1485 (.aload_n 1) 1 := ⟨dr_at drL_law_1453 (i := 19) rfl, rfl⟩
theorem dL_1485 : dc code 1485 1486 (.aload_n 0) 1 := ⟨dr_at drL_law_1453 (i := 20) rfl, rfl⟩
theorem dL_1486 : dc code 1486 1488 (.iload 4) 2 := ⟨dr_at drL_law_1453 (i := 21) rfl, rfl⟩
theorem dL_1488 : dc code 1488 1489 (.iconst 1) 1 := ⟨dr_at drL_law_1453 (i := 22) rfl, rfl⟩
theorem dL_1489 : dc code 1489 1490 .iadd 1 := ⟨dr_at drL_law_1453 (i := 23) rfl, rfl⟩
theorem dL_1490 : dc code 1490 1491 .iaload 1 := ⟨dr_at drL_law_1453 (i := 24) rfl, rfl⟩
theorem dL_1491 : dc code 1491 1492 (.aload_n 0) 1 := ⟨dr_at drL_law_1453 (i := 25) rfl, rfl⟩
theorem dL_1492 : dc code 1492 1494 (.iload 4) 2 := ⟨dr_at drL_law_1453 (i := 26) rfl, rfl⟩
theorem dL_1494 : dc code 1494 1495 (.iconst 2) 1 := ⟨dr_at drL_law_1453 (i := 27) rfl, rfl⟩
theorem dL_1495 : dc code 1495 1496 .iadd 1 := ⟨dr_at drL_law_1453 (i := 28) rfl, rfl⟩
theorem dL_1496 : dc code 1496 1497 .iaload 1 := ⟨dr_at drL_law_1453 (i := 29) rfl, rfl⟩
theorem dL_1497 : dc code 1497 1498 (.aload_n 0) 1 := ⟨dr_at drL_law_1453 (i := 30) rfl, rfl⟩
theorem dL_1498 : dc code 1498 1500 (.iload 4) 2 := ⟨dr_at drL_law_1453 (i := 31) rfl, rfl⟩
theorem dL_1500 : dc code 1500 1501 (.iconst 3) 1 := ⟨dr_at drL_law_1453 (i := 32) rfl, rfl⟩
theorem dL_1501 : dc code 1501 1502 .iadd 1 := ⟨dr_at drL_law_1453 (i := 33) rfl, rfl⟩
theorem dL_1502 : dc code 1502 1503 .iaload 1 := ⟨dr_at drL_law_1453 (i := 34) rfl, rfl⟩
theorem dL_1503 : dc code 1503 1504 (.aload_n 0) 1 := ⟨dr_at drL_law_1453 (i := 35) rfl, rfl⟩
theorem dL_1504 : dc code 1504 1506 (.iload 4) 2 := ⟨dr_at drL_law_1453 (i := 36) rfl, rfl⟩
theorem dL_1506 : dc code 1506 1507 (.iconst 4) 1 := ⟨dr_at drL_law_1453 (i := 37) rfl, rfl⟩
theorem dL_1507 : dc code 1507 1508 .iadd 1 := ⟨dr_at drL_law_1453 (i := 38) rfl, rfl⟩
theorem dL_1508 : dc code 1508 1509 .iaload 1 := ⟨dr_at drL_law_1453 (i := 39) rfl, rfl⟩
theorem dL_1509 : dc code 1509 1510 (.aload_n 0) 1 := ⟨dr_at drL_law_1453 (i := 40) rfl, rfl⟩
theorem dL_1510 : dc code 1510 1512 (.iload 4) 2 := ⟨dr_at drL_law_1453 (i := 41) rfl, rfl⟩
theorem dL_1512 : dc code 1512 1513 (.iconst 5) 1 := ⟨dr_at drL_law_1453 (i := 42) rfl, rfl⟩
theorem dL_1513 : dc code 1513 1514 .iadd 1 := ⟨dr_at drL_law_1453 (i := 43) rfl, rfl⟩
theorem dL_1514 : dc code 1514 1515 .iaload 1 := ⟨dr_at drL_law_1453 (i := 44) rfl, rfl⟩
theorem dL_1515 : dc code 1515 1516 (.aload_n 3) 1 := ⟨dr_at drL_law_1453 (i := 45) rfl, rfl⟩
theorem dL_1516 : dc code 1516 1519 (.invokestatic 237) 3 := ⟨dr_at drL_law_1453 (i := 46) rfl, rfl⟩
theorem dL_1519 : dc code 1519 1521 (.istore 5) 2 := ⟨dr_at drL_law_1453 (i := 47) rfl, rfl⟩
theorem dL_1521 : dc code 1521 1522 (.aload_n 2) 1 := ⟨dr_at drL_law_1453 (i := 48) rfl, rfl⟩
theorem dL_1522 : dc code 1522 1523 (.aload_n 0) 1 := ⟨dr_at drL_law_1453 (i := 49) rfl, rfl⟩
theorem dL_1523 : dc code 1523 1525 (.iload 4) 2 := ⟨dr_at drL_law_1453 (i := 50) rfl, rfl⟩
theorem dL_1525 : dc code 1525 1526 (.iconst 1) 1 := ⟨dr_at drL_law_1453 (i := 51) rfl, rfl⟩
theorem dL_1526 : dc code 1526 1527 .iadd 1 := ⟨dr_at drL_law_1453 (i := 52) rfl, rfl⟩
theorem dL_1527 : dc code 1527 1528 .iaload 1 := ⟨dr_at drL_law_1453 (i := 53) rfl, rfl⟩
theorem dL_1528 : dc code 1528 1529 (.aload_n 0) 1 := ⟨dr_at drL_law_1453 (i := 54) rfl, rfl⟩
theorem drL_law_1529 : ([(1529, (.iload 4), 2), (1531, (.iconst 2), 1), (1532, .iadd, 1), (1533, .iaload, 1), (1534, (.aload_n 0), 1), (1535, (.iload 4), 2), (1537, (.iconst 3), 1), (1538, .iadd, 1), (1539, .iaload, 1), (1540, (.aload_n 0), 1), (1541, (.iload 4), 2), (1543, (.iconst 4), 1), (1544, .iadd, 1), (1545, .iaload, 1), (1546, (.aload_n 0), 1), (1547, (.iload 4), 2), (1549, (.iconst 5), 1), (1550, .iadd, 1), (1551, .iaload, 1), (1552, (.invokevirtual 240), 3), (1555, (.istore 6), 2), (1557, (.goto 442), 3), (1560, (.aload_n 1), 1), (1561, (.aload_n 0), 1), (1562, (.iload 4), 2), (1564, (.iconst 1), 1), (1565, .iadd, 1), (1566, .iaload, 1), (1567, (.aload_n 0), 1), (1568, (.iload 4), 2), (1570, (.iconst 2), 1), (1571, .iadd, 1), (1572, .iaload, 1), (1573, (.invokestatic 241), 3), (1576, (.istore 5), 2), (1578, (.aload_n 2), 1), (1579, (.aload_n 0), 1), (1580, (.iload 4), 2), (1582, (.iconst 1), 1), (1583, .iadd, 1), (1584, .iaload, 1), (1585, (.aload_n 0), 1), (1586, (.iload 4), 2), (1588, (.iconst 2), 1), (1589, .iadd, 1), (1590, .iaload, 1), (1591, (.invokevirtual 243), 3), (1594, (.goto 405), 3), (1597, (.aload_n 1), 1), (1598, (.aload_n 0), 1), (1599, (.iload 4), 2), (1601, (.iconst 1), 1)] : List (Nat × Instr × Nat)).all (fun q => decide (decode code q.1 = .ok q.2)) = true := by decide +kernel
theorem dL_1529 : dc code 1529 1531 (.iload 4) 2 := ⟨dr_at drL_law_1529 (i := 0) rfl, rfl⟩
theorem dL_1531 : dc code 1531 1532 (.iconst 2) 1 := ⟨dr_at drL_law_1529 (i := 1) rfl, rfl⟩
theorem dL_1532 : dc code 1532 1533 .iadd 1 := ⟨dr_at drL_law_1529 (i := 2) rfl, rfl⟩
theorem dL_1533 : dc code 1533 1534 .iaload 1 := ⟨dr_at drL_law_1529 (i := 3) rfl, rfl⟩
theorem dL_1534 : dc code 1534 1535 (.aload_n 0) 1 := ⟨dr_at drL_law_1529 (i := 4) rfl, rfl⟩
theorem dL_1535 : dc code 1535 1537 (.iload 4) 2 := ⟨dr_at drL_law_1529 (i := 5) rfl, rfl⟩
theorem dL_1537 : dc code 1537 1538 (.iconst 3) 1 := ⟨dr_at drL_law_1529 (i := 6) rfl, rfl⟩
theorem dL_1538 : dc code 1538 1539 .iadd 1 := ⟨dr_at drL_law_1529 (i := 7) rfl, rfl⟩
theorem dL_1539 : dc code 1539 1540 .iaload 1 := ⟨dr_at drL_law_1529 (i := 8) rfl, rfl⟩
theorem dL_1540 : dc code 1540 1541 (.aload_n 0) 1 := ⟨dr_at drL_law_1529 (i := 9) rfl, rfl⟩
theorem dL_1541 : dc code 1541 1543 (.iload 4) 2 := ⟨dr_at drL_law_1529 (i := 10) rfl, rfl⟩
theorem dL_1543 : dc code 1543 1544 (.iconst 4) 1 := ⟨dr_at drL_law_1529 (i := 11) rfl, rfl⟩
theorem dL_1544 : dc code 1544 1545 .iadd 1 := ⟨dr_at drL_law_1529 (i := 12) rfl, rfl⟩
theorem dL_1545 : dc code 1545 1546 .iaload 1 := ⟨dr_at drL_law_1529 (i := 13) rfl, rfl⟩
theorem dL_1546 : dc code 1546 1547 (.aload_n 0) 1 := ⟨dr_at drL_law_1529 (i := 14) rfl, rfl⟩
theorem dL_1547 : dc code 1547 1549 (.iload 4) 2 := ⟨dr_at drL_law_1529 (i := 15) rfl, rfl⟩
theorem dL_1549 : dc code 1549 1550 (.iconst 5) 1 := ⟨dr_at drL_law_1529 (i := 16) rfl, rfl⟩
theorem dL_1550 : dc code 1550 1551 .iadd 1 := ⟨dr_at drL_law_1529 (i := 17) rfl, rfl⟩
theorem dL_1551 : dc code 1551 1552 .iaload 1 := ⟨dr_at drL_law_1529 (i := 18) rfl, rfl⟩
theorem dL_1552 : dc code 1552 1555 (.invokevirtual 240) 3 := ⟨dr_at drL_law_1529 (i := 19) rfl, rfl⟩
theorem dL_1555 : dc code 1555 1557 (.istore 6) 2 := ⟨dr_at drL_law_1529 (i := 20) rfl, rfl⟩
theorem dL_1557 : dc code 1557 1560 (.goto 442) 3 := ⟨dr_at drL_law_1529 (i := 21) rfl, rfl⟩
theorem dL_1560 : dc code 1560 1561 (.aload_n 1) 1 := ⟨dr_at drL_law_1529 (i := 22) rfl, rfl⟩
theorem dL_1561 : dc code 1561 1562 (.aload_n 0) 1 := ⟨dr_at drL_law_1529 (i := 23) rfl, rfl⟩
theorem dL_1562 : dc code 1562 1564 (.iload 4) 2 := ⟨dr_at drL_law_1529 (i := 24) rfl, rfl⟩
theorem dL_1564 : dc code 1564 1565 (.iconst 1) 1 := ⟨dr_at drL_law_1529 (i := 25) rfl, rfl⟩
theorem dL_1565 : dc code 1565 1566 .iadd 1 := ⟨dr_at drL_law_1529 (i := 26) rfl, rfl⟩
theorem dL_1566 : dc code 1566 1567 .iaload 1 := ⟨dr_at drL_law_1529 (i := 27) rfl, rfl⟩
theorem dL_1567 : dc code 1567 1568 (.aload_n 0) 1 := ⟨dr_at drL_law_1529 (i := 28) rfl, rfl⟩
theorem dL_1568 : dc code 1568 1570 (.iload 4) 2 := ⟨dr_at drL_law_1529 (i := 29) rfl, rfl⟩
theorem dL_1570 : dc code 1570 1571 (.iconst 2) 1 := ⟨dr_at drL_law_1529 (i := 30) rfl, rfl⟩
theorem dL_1571 : dc code 1571 1572 .iadd 1 := ⟨dr_at drL_law_1529 (i := 31) rfl, rfl⟩
theorem dL_1572 : dc code 1572 1573 .iaload 1 := ⟨dr_at drL_law_1529 (i := 32) rfl, rfl⟩
theorem dL_1573 : dc code 1573 1576 (.invokestatic 241) 3 := ⟨dr_at drL_law_1529 (i := 33) rfl, rfl⟩
theorem dL_1576 : dc code 1576 1578 (.istore 5) 2 := ⟨dr_at drL_law_1529 (i := 34) rfl, rfl⟩
theorem dL_1578 : dc code 1578 1579 (.aload_n 2) 1 := ⟨dr_at drL_law_1529 (i := 35) rfl, rfl⟩
theorem dL_1579 : dc code 1579 1580 (.aload_n 0) 1 := ⟨dr_at drL_law_1529 (i := 36) rfl, rfl⟩
theorem dL_1580 : dc code 1580 1582 (.iload 4) 2 := ⟨dr_at drL_law_1529 (i := 37) rfl, rfl⟩
theorem dL_1582 : dc code 1582 1583 (.iconst 1) 1 := ⟨dr_at drL_law_1529 (i := 38) rfl, rfl⟩
theorem dL_1583 : dc code 1583 1584 .iadd 1 := ⟨dr_at drL_law_1529 (i := 39) rfl, rfl⟩
theorem dL_1584 : dc code 1584 1585 .iaload 1 := ⟨dr_at drL_law_1529 (i := 40) rfl, rfl⟩
theorem dL_1585 : dc code 1585 1586 (.aload_n 0) 1 := ⟨dr_at drL_law_1529 (i := 41) rfl, rfl⟩
theorem dL_1586 : dc code 1586 1588 (.iload 4) 2 := ⟨dr_at drL_law_1529 (i := 42) rfl, rfl⟩
theorem dL_1588 : dc code 1588 1589 (.iconst 2) 1 := ⟨dr_at drL_law_1529 (i := 43) rfl, rfl⟩
theorem dL_1589 : dc code 1589 1590 .iadd 1 := ⟨dr_at drL_law_1529 (i := 44) rfl, rfl⟩
theorem dL_1590 : dc code 1590 1591 .iaload 1 := ⟨dr_at drL_law_1529 (i := 45) rfl, rfl⟩
theorem dL_1591 : dc code 1591 1594 (.invokevirtual 243) 3 := ⟨dr_at drL_law_1529 (i := 46) rfl, rfl⟩
theorem dL_1594 : dc code 1594 1597 (.goto 405) 3 := ⟨dr_at drL_law_1529 (i := 47) rfl, rfl⟩
theorem dL_1597 : dc code 1597 1598 (.aload_n 1) 1 := ⟨dr_at drL_law_1529 (i := 48) rfl, rfl⟩
theorem dL_1598 : dc code 1598 1599 (.aload_n 0) 1 := ⟨dr_at drL_law_1529 (i := 49) rfl, rfl⟩
theorem dL_1599 : dc code 1599 1601 (.iload 4) 2 := ⟨dr_at drL_law_1529 (i := 50) rfl, rfl⟩
theorem dL_1601 : dc code 1601 1602 (.iconst 1) 1 := ⟨dr_at drL_law_1529 (i := 51) rfl, rfl⟩
