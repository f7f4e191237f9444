theorem drL_law_1178 : ([(1178, (.iconst 4), 1), (1179, .iadd, 1), (1180, .iaload, 1), (1181, (.invokevirtual 212), 3), (1184, (.istore 6), 2), (1186, (.goto 812), 3), (1189, (.aload_n 1), 1), (1190, (.aload_n 0), 1), (1191, (.iload 4), 2), (1193, (.iconst 1), 1), (1194, .iadd, 1), (1195, .iaload, 1), (1196, (.aload_n 0), 1), (1197, (.iload 4), 2), (1199, (.iconst 2), 1), (1200, .iadd, 1), (1201, .iaload, 1), (1202, (.aload_n 0), 1), (1203, (.iload 4), 2), (1205, (.iconst 3), 1), (1206, .iadd, 1), (1207, .iaload, 1), (1208, (.aload_n 3), 1), (1209, (.invokestatic 213), 3), (1212, (.istore 5), 2), (1214, (.aload_n 2), 1), (1215, (.aload_n 0), 1), (1216, (.iload 4), 2), (1218, (.iconst 1), 1), (1219, .iadd, 1), (1220, .iaload, 1), (1221, (.aload_n 0), 1), (1222, (.iload 4), 2), (1224, (.iconst 2), 1), (1225, .iadd, 1), (1226, .iaload, 1), (1227, (.aload_n 0), 1), (1228, (.iload 4), 2), (1230, (.iconst 3), 1), (1231, .iadd, 1), (1232, .iaload, 1), (1233, (.invokevirtual 215), 3), (1236, (.istore 6), 2), (1238, (.goto 760), 3), (1241, (.aload_n 1), 1), (1242, (.invokevirtual 216), 3), (1245, .pop, 1), (1246, (.aload_n 2), 1), (1247, (.invokevirtual 219), 3), (1250, .pop, 1), (1251, (.goto 747), 3), (1254, (.aload_n 1), 1), (1255, (.aload_n 0), 1), (1256, (.iload 4), 2), (1258, (.iconst 1), 1), (1259, .iadd, 1), (1260, .iaload, 1), (1261, (.aload_n 0), 1), (1262, (.iload 4), 2), (1264, (.iconst 2), 1), (1265, .iadd, 1), (1266, .iaload, 1), (1267, (.invokestatic 220), 3), (1270, (.istore 5), 2), (1272, (.aload_n 2), 1), (1273, (.aload_n 0), 1), (1274, (.iload 4), 2)] : List (Nat × Instr × Nat)).all (fun q => decide (decode code q.1 = .ok q.2)) = true := by decide +kernel
theorem dL_1178 : dc code 1178 1179 (.iconst 4) 1 := ⟨dr_at drL_law_1178 (i := 0) rfl, rfl⟩
theorem dL_1179 : dc code 1179 1180 .iadd 1 := ⟨dr_at drL_law_1178 (i := 1) rfl, rfl⟩
theorem dL_1180 : dc code 1180 1181 .iaload 1 := ⟨dr_at drL_law_1178 (i := 2) rfl, rfl⟩
theorem dL_1181 : dc code 1181 1184 (.invokevirtual 212) 3 := ⟨dr_at drL_law_1178 (i := 3) rfl, rfl⟩
theorem dL_1184 : dc code 1184 1186 (.istore 6) 2 := ⟨dr_at drL_law_1178 (i := 4) rfl, rfl⟩
theorem dL_1186 : dc code 1186 1189 (.goto 812) 3 := ⟨dr_at drL_law_1178 (i := 5) rfl, rfl⟩
theorem dL_1189 : dc code 1189 1190 (.aload_n 1) 1 := ⟨dr_at drL_law_1178 (i := 6) rfl, rfl⟩
theorem dL_1190 : dc code 1190 1191 (.aload_n 0) 1 := ⟨dr_at drL_law_1178 (i := 7) rfl, rfl⟩
theorem dL_1191 : dc code 1191 1193 (.iload 4) 2 := ⟨dr_at drL_law_1178 (i := 8) rfl, rfl⟩
theorem dL_1193 : dc code 1193 1194 (.iconst 1) 1 := ⟨dr_at drL_law_1178 (i := 9) rfl, rfl⟩
theorem dL_1194 : dc code 1194 1195 .iadd 1 := ⟨dr_at drL_law_1178 (i := 10) rfl, rfl⟩
theorem dL_1195 : dc code 1195 1196 .iaload 1 := ⟨dr_at drL_law_1178 (i := 11) rfl, rfl⟩
theorem dL_1196 : dc code 1196 1197 (.aload_n 0) 1 := ⟨dr_at drL_law_1178 (i := 12) rfl, rfl⟩
theorem dL_1197 : dc code 1197 1199 (.iload 4) 2 := ⟨dr_at drL_law_1178 (i := 13) rfl, rfl⟩
theorem dL_1199 : dc code 1199 1200 (.iconst 2) 1 := ⟨dr_at drL_law_1178 (i := 14) rfl, rfl⟩
theorem dL_1200 : dc code 1200 1201 .iadd 1 := ⟨dr_at drL_law_1178 (i := 15) rfl, rfl⟩
theorem dL_1201 : dc code 1201 1202 .iaload 1 := ⟨dr_at drL_law_1178 (i := 16) rfl, rfl⟩
theorem dL_1202 : dc code 1202 1203 (.aload_n 0) 1 := ⟨dr_at drL_law_1178 (i := 17) rfl, rfl⟩
theorem dL_1203 : dc code 1203 1205 (.iload 4) 2 := ⟨dr_at drL_law_1178 (i := 18) rfl, rfl⟩
theorem dL_1205 : dc code 1205 1206 (.iconst 3) 1 := ⟨dr_at drL_law_1178 (i := 19) rfl, rfl⟩
theorem dL_1206 : dc code 1206 1207 .iadd 1 := ⟨dr_at drL_law_1178 (i := 20) rfl, rfl⟩
theorem dL_1207 : dc code 1207 1208 .iaload 1 := ⟨dr_at drL_law_1178 (i := 21) rfl, rfl⟩
theorem dL_1208 : dc code 1208 1209 (.aload_n 3) 1 := ⟨dr_at drL_law_1178 (i := 22) rfl, rfl⟩
theorem dL_1209 : dc code 1209 1212 (.invokestatic 213) 3 := ⟨dr_at drL_law_1178 (i := 23) rfl, rfl⟩
theorem dL_1212 : dc code 1212 1214 (.istore 5) 2 := ⟨dr_at drL_law_1178 (i := 24) rfl, rfl⟩
theorem dL_1214 : dc code 1214 1215 (.aload_n 2) 1 := ⟨dr_at drL_law_1178 (i := 25) rfl, rfl⟩
theorem dL_1215 : dc code 1215 1216 (.aload_n 0) 1 := ⟨dr_at drL_law_1178 (i := 26) rfl, rfl⟩
theorem dL_1216 : dc code 1216 1218 (.iload 4) 2 := ⟨dr_at drL_law_1178 (i := 27) rfl, rfl⟩
theorem dL_1218 : dc code 1218 1219 (.iconst 1) 1 := ⟨dr_at drL_law_1178 (i := 28) rfl, rfl⟩
theorem dL_1219 : dc code 1219 1220 .iadd 1 := ⟨dr_at drL_law_1178 (i := 29) rfl, rfl⟩
theorem dL_1220 : dc code 1220 1221 .iaload 1 := ⟨dr_at drL_law_1178 (i := 30) rfl, rfl⟩
theorem dL_1221 : dc code 1221 1222 (.aload_n 0) 1 := ⟨dr_at drL_law_1178 (i := 31) rfl, rfl⟩
theorem dL_1222 : dc code 1222 1224 (.iload 4) 2 := ⟨dr_at drL_law_1178 (i := 32) rfl, rfl⟩
theorem dL_1224 : dc code 1224 1225 (.iconst 2) 1 := ⟨dr_at drL_law_1178 (i := 33) rfl, rfl⟩
theorem dL_1225 : dc code 1225 1226 .iadd 1 := ⟨dr_at drL_law_1178 (i := 34) rfl, rfl⟩
theorem dL_1226 : dc code 1226 1227 .iaload 1 := ⟨dr_at drL_law_1178 (i := 35) rfl, rfl⟩
theorem dL_1227 : dc code 1227 1228 (.aload_n 0) 1 := ⟨dr_at drL_law_1178 (i := 36) rfl, rfl⟩
theorem dL_1228 : dc code 1228 1230 (.iload 4) 2 := ⟨dr_at drL_law_1178 (i := 37) rfl, rfl⟩
theorem dL_1230 : dc code 1230 1231 (.iconst 3) 1 := ⟨dr_at drL_law_1178 (i := 38) rfl, rfl⟩
theorem dL_1231 : dc code 1231 1232 .iadd 1 := ⟨dr_at drL_law_1178 (i := 39) rfl, rfl⟩
theorem dL_1232 : dc code 1232 1233 .iaload 1 := ⟨dr_at drL_law_1178 (i := 40) rfl, rfl⟩
theorem dL_1233 : dc code 1233 1236 (.invokevirtual 215) 3 := ⟨dr_at drL_law_1178 (i := 41) rfl, rfl⟩
theorem dL_1236 : dc code 1236 1238 (.istore 6) 2 := ⟨dr_at drL_law_1178 (i := 42) rfl, rfl⟩
theorem dL_1238 : dc code 1238 1241 (.goto 760) 3 := ⟨dr_at drL_law_1178 (i := 43) rfl, rfl⟩
theorem dL_1241 : dc code 1241 1242 (.aload_n 1) 1 := ⟨dr_at drL_law_1178 (i := 44) rfl, rfl⟩
theorem dL_1242 : dc code 1242 1245 (.invokevirtual 216) 3 := ⟨dr_at drL_law_1178 (i := 45) rfl, rfl⟩
theorem dL_1245 : dc code 1245 1246 .pop 1 := ⟨dr_at drL_law_1178 (i := 46) rfl, rfl⟩
theorem dL_1246 : dc code 1246 1247 (.aload_n 2) 1 := ⟨dr_at drL_law_1178 (i := 47) rfl, rfl⟩
theorem dL_1247 : dc code 1247 1250 (.invokevirtual 219) 3 := ⟨dr_at drL_law_1178 (i := 48) rfl, rfl⟩
theorem dL_1250 : dc code 1250 1251 .pop 1 := ⟨dr_at drL_law_1178 (i := 49) rfl, rfl⟩
theorem dL_1251 : dc code 1251 1254 (.goto 747) 3 := ⟨dr_at drL_law_1178 (i := 50) rfl, rfl⟩
theorem dL_1254 : dc code 1254 1255 (.aload_n 1) 1 := ⟨dr_at drL_law_1178 (i := 51) rfl, rfl⟩
theorem dL_1255 : dc code 1255 1256 (.aload_n 0) 1 := ⟨dr_at drL_law_1178 (i := 52) rfl, rfl⟩
theorem dL_1256 : dc code 1256 1258 (.iload 4) 2 := ⟨dr_at drL_law_1178 (i := 53) rfl, rfl⟩
theorem dL_1258 : dc code 1258 1259 (.iconst 1) 1 := ⟨dr_at drL_law_1178 (i := 54) rfl, rfl⟩
theorem dL_1259 : dc code 1259 1260 .iadd 1 := ⟨dr_at drL_law_1178 (i := 55) rfl, rfl⟩
theorem dL_1260 : dc code 1260 1261 .iaload 1 := ⟨dr_at drL_law_1178 (i := 56) rfl, rfl⟩
theorem dL_1261 : dc code 1261 1262 (.aload_n 0) 1 := ⟨dr_at drL_law_1178 (i := 57) rfl, rfl⟩
theorem dL_1262 : dc code 1262 1264 (.iload 4) 2 := ⟨dr_at drL_law_1178 (i := 58) rfl, rfl⟩
theorem dL_1264 : dc code 1264 1265 (.iconst 2) 1 := ⟨dr_at drL_law_1178 (i := 59) rfl, rfl⟩
theorem dL_1265 : dc code 1265 1266 .iadd 1 := ⟨dr_at drL_law_1178 (i := 60) rfl, rfl⟩
theorem dL_1266 : dc code 1266 1267 .iaload 1 := ⟨dr_at drL_law_1178 (i := 61) rfl, rfl⟩
theorem dL_1267 : dc code 1267 1270 (.invokestatic 220) 3 := ⟨dr_at drL_law_1178 (i := 62) rfl, rfl⟩
theorem dL_1270 : dc code 1270 1272 (.istore 5) 2 := ⟨dr_at drL_law_1178 (i := 63) rfl, rfl⟩
theorem dL_1272 : dc code 1272 1273 (.aload_n 2) 1 := ⟨dr_at drL_law_1178 (i := 64) rfl, rfl⟩
theorem dL_1273 : dc code 1273 1274 (.aload_n 0) 1 := ⟨dr_at drL_law_1178 (i := 65) rfl, rfl⟩
theorem dL_1274 : dc code 1274 1276 (.iload 4) 2 := ⟨dr_at drL_law_1178 (i := 66) rfl, rfl⟩
theorem drL_law_1276 : ([(1276, (.iconst 1), 1), (1277, .iadd, 1), (1278, .iaload, 1), (1279, (.aload_n 0), 1), (1280, (.iload 4), 2), (1282, (.iconst 2), 1), (1283, .iadd, 1), (1284, .iaload, 1), (1285, (.invokevirtual 222), 3), (1288, (.goto 710), 3), (1291, (.aload_n 1), 1), (1292, (.aload_n 0), 1), (1293, (.iload 4), 2), (1295, (.iconst 1), 1), (1296, .iadd, 1), (1297, .iaload, 1), (1298, (.aload_n 0), 1), (1299, (.iload 4), 2), (1301, (.iconst 2), 1), (1302, .iadd, 1), (1303, .iaload, 1), (1304, (.aload_n 0), 1), (1305, (.iload 4), 2), (1307, (.iconst 3), 1), (1308, .iadd, 1), (1309, .iaload, 1), (1310, (.aload_n 0), 1), (1311, (.iload 4), 2), (1313, (.iconst 4), 1), (1314, .iadd, 1), (1315, .iaload, 1), (1316, (.ifCond .eq 7), 3), (1319, (.iconst 1), 1), (1320, (.goto 4), 3), (1323, (.iconst 0), 1), (1324, (.aload_n 0), 1), (1325, (.iload 4), 2), (1327, (.iconst 5), 1), (1328, .iadd, 1), (1329, .iaload, 1), (1330, (.ifCond .eq 7), 3), (1333, (.iconst 1), 1), (1334, (.goto 4), 3), (1337, (.iconst 0), 1), (1338, (.aload_n 3), 1), (1339, (.invokestatic 223), 3), (1342, (.istore 5), 2), (1344, (.aload_n 2), 1), (1345, (.aload_n 0), 1), (1346, (.iload 4), 2), (1348, (.iconst 1), 1), (1349, .iadd, 1), (1350, .iaload, 1), (1351, (.aload_n 0), 1), (1352, (.iload 4), 2), (1354, (.iconst 2), 1), (1355, .iadd, 1), (1356, .iaload, 1), (1357, (.aload_n 0), 1), (1358, (.iload 4), 2), (1360, (.iconst 3), 1), (1361, .iadd, 1)] : List (Nat × Instr × Nat)).all (fun q => decide (decode code q.1 = .ok q.2)) = true := by decide +kernel
theorem dL_1276 : dc code 1276 1277 (.iconst 1) 1 := ⟨dr_at drL_law_1276 (i := 0) rfl, rfl⟩
theorem dL_1277 : dc code 1277 1278 .iadd 1 := ⟨dr_at drL_law_1276 (i := 1) rfl, rfl⟩
theorem dL_1278 : dc code 1278 1279 .iaload 1 := ⟨dr_at drL_law_1276 (i := 2) rfl, rfl⟩
theorem dL_1279 : dc code 1279 1280 (.aload_n 0) 1 := ⟨dr_at drL_law_1276 (i := 3) rfl, rfl⟩
theorem dL_1280 : dc code 1280 1282 (.iload 4) 2 := ⟨dr_at drL_law_1276 (i := 4) rfl, rfl⟩
theorem dL_1282 : dc code 1282 1283 (.iconst 2) 1 := ⟨dr_at drL_law_1276 (i := 5) rfl, rfl⟩
theorem dL_1283 : dc code 1283 1284 .iadd 1 := ⟨dr_at drL_law_1276 (i := 6) rfl, rfl⟩
theorem dL_1284 : dc code 1284 1285 .iaload 1 := ⟨dr_at drL_law_1276 (i := 7) rfl, rfl⟩
theorem dL_1285 : dc code 1285 1288 (.invokevirtual 222) 3 := ⟨dr_at drL_law_1276 (i := 8) rfl, rfl⟩
theorem dL_1288 : dc code 1288 1291 (.goto 710) 3 := ⟨dr_at drL_law_1276 (i := 9) rfl, rfl⟩
theorem dL_1291 : dc code 1291 1292 (.aload_n 1) 1 := ⟨dr_at drL_law_1276 (i := 10) rfl, rfl⟩
theorem dL_1292 : dc code 1292 1293 (.aload_n 0) 1 := ⟨dr_at drL_law_1276 (i := 11) rfl, rfl⟩
theorem dL_1293 : dc code 1293 1295 (.iload 4) 2 := ⟨dr_at drL_law_1276 (i := 12) rfl, rfl⟩
theorem dL_1295 : dc code 1295 1296 (.iconst 1) 1 := ⟨dr_at drL_law_1276 (i := 13) rfl, rfl⟩
theorem dL_1296 : dc code 1296 1297 .iadd 1 := ⟨dr_at drL_law_1276 (i := 14) rfl, rfl⟩
theorem dL_1297 : dc code 1297 1298 .iaload 1 := ⟨dr_at drL_law_1276 (i := 15) rfl, rfl⟩
theorem dL_1298 : dc code 1298 1299 (.aload_n 0) 1 := ⟨dr_at drL_law_1276 (i := 16) rfl, rfl⟩
theorem dL_1299 : dc code 1299 1301 (.iload 4) 2 := ⟨dr_at drL_law_1276 (i := 17) rfl, rfl⟩
theorem dL_1301 : dc code 1301 1302 (.iconst 2) 1 := ⟨dr_at drL_law_1276 (i := 18) rfl, rfl⟩
theorem dL_1302 : dc code 1302 1303 .iadd 1 := ⟨dr_at drL_law_1276 (i := 19) rfl, rfl⟩
theorem dL_1303 : dc code 1303 1304 .iaload 1 := ⟨dr_at drL_law_1276 (i := 20) rfl, rfl⟩
theorem dL_1304 : dc code 1304 1305 (.aload_n 0) 1 := ⟨dr_at drL_law_1276 (i := 21) rfl, rfl⟩
theorem dL_1305 : dc code 1305 1307 (.iload 4) 2 := ⟨dr_at drL_law_1276 (i := 22) rfl, rfl⟩
theorem dL_1307 : dc code 1307 1308 (.iconst 3) 1 := ⟨dr_at drL_law_1276 (i := 23) rfl, rfl⟩
theorem dL_1308 : dc code 1308 1309 .iadd 1 := ⟨dr_at drL_law_1276 (i := 24) rfl, rfl⟩
theorem dL_1309 : dc code 1309 1310 .iaload 1 := ⟨dr_at drL_law_1276 (i := 25) rfl, rfl⟩
theorem dL_1310 : dc code 1310 1311 (.aload_n 0) 1 := ⟨dr_at drL_law_1276 (i := 26) rfl, rfl⟩
theorem dL_1311 : dc code 1311 1313 (.iload 4) 2 := ⟨dr_at drL_law_1276 (i := 27) rfl, rfl⟩
theorem dL_1313 : dc code 1313 1314 (.iconst 4) 1 := ⟨dr_at drL_law_1276 (i := 28) rfl, rfl⟩
theorem dL_1314 : dc code 1314 1315 .iadd 1 := ⟨dr_at drL_law_1276 (i := 29) rfl, rfl⟩
theorem dL_1315 : dc code 1315 1316 .iaload 1 := ⟨dr_at drL_law_1276 (i := 30) rfl, rfl⟩
theorem dL_1316 : dc code 1316 1319 (.ifCond .eq 7) 3 := ⟨dr_at drL_law_1276 (i := 31) rfl, rfl⟩
theorem dL_1319 : dc code 1319 1320 (.iconst 1) 1 := ⟨dr_at drL_law_1276 (i := 32) rfl, rfl⟩
theorem dL_1320 : dc code 1320 1323 (.goto 4) 3 := ⟨dr_at drL_law_1276 (i := 33) rfl, rfl⟩
theorem dL_1323 : dc code 1323 1324 (.iconst 0) 1 := ⟨dr_at drL_law_1276 (i := 34) rfl, rfl⟩
theorem dL_1324 : dc code 1324 1325 (.aload_n 0) 1 := ⟨dr_at drL_law_1276 (i := 35) rfl, rfl⟩
theorem dL_1325 : dc code 1325 1327 (.iload 4) 2 := ⟨dr_at drL_law_1276 (i := 36) rfl, rfl⟩
theorem dL_1327 : dc code 1327 1328 (.iconst 5) 1 := ⟨dr_at drL_law_1276 (i := 37) rfl, rfl⟩
theorem dL_1328 : dc code 1328 1329 .iadd 1 := ⟨dr_at drL_law_1276 (i := 38) rfl, rfl⟩
theorem dL_1329 : dc code 1329 1330 .iaload 1 := ⟨dr_at drL_law_1276 (i := 39) rfl, rfl⟩
theorem dL_1330 : dc code 1330 1333 (.ifCond .eq 7) 3 := ⟨dr_at drL_law_1276 (i := 40) rfl, rfl⟩
theorem dL_1333 : dc code 1333 1334 (.iconst 1) 1 := ⟨dr_at drL_law_1276 (i := 41) rfl, rfl⟩
theorem dL_1334 : dc code 1334 1337 (.goto 4) 3 := ⟨dr_at drL_law_1276 (i := 42) rfl, rfl⟩
theorem dL_1337 : dc code 1337 1338 (.iconst 0) 1 := ⟨dr_at drL_law_1276 (i := 43) rfl, rfl⟩
theorem dL_1338 : dc code 1338 1339 (.aload_n 3) 1 := ⟨dr_at drL_law_1276 (i := 44) rfl, rfl⟩
theorem dL_1339 : dc code 1339 1342 (.invokestatic 223) 3 := ⟨dr_at drL_law_1276 (i := 45) rfl, rfl⟩
theorem dL_1342 : dc code 1342 1344 (.istore 5) 2 := ⟨dr_at drL_law_1276 (i := 46) rfl, rfl⟩
theorem dL_1344 : dc code 1344 1345 (.aload_n 2) 1 := ⟨dr_at drL_law_1276 (i := 47) rfl, rfl⟩
theorem dL_1345 : dc code 1345 1346 (.aload_n 0) 1 := ⟨dr_at drL_law_1276 (i := 48) rfl, rfl⟩
theorem dL_1346 : dc code 1346 1348 (.iload 4) 2 := ⟨dr_at drL_law_1276 (i := 49) rfl, rfl⟩
theorem dL_1348 : dc code 1348 1349 (.iconst 1) 1 := ⟨dr_at drL_law_1276 (i := 50) rfl, rfl⟩
theorem dL_1349 : dc code 1349 1350 .iadd 1 := ⟨dr_at drL_law_1276 (i := 51) rfl, rfl⟩
theorem dL_1350 : dc code 1350 1351 .iaload 1 := ⟨dr_at drL_law_1276 (i := 52) rfl, rfl⟩
theorem dL_1351 : dc code 1351 1352 (.aload_n 0) 1 := ⟨dr_at drL_law_1276 (i := 53) rfl, rfl⟩
theorem dL_1352 : dc code 1352 1354 (.iload 4) 2 := ⟨dr_at drL_law_1276 (i := 54) rfl, rfl⟩
theorem dL_1354 : dc code 1354 1355 (.iconst 2) 1 := ⟨dr_at drL_law_1276 (i := 55) rfl, rfl⟩
theorem dL_1355 : dc code 1355 1356 .iadd 1 := ⟨dr_at drL_law_1276 (i := 56) rfl, rfl⟩
theorem dL_1356 : dc code 1356 1357 .iaload 1 := ⟨dr_at drL_law_1276 (i := 57) rfl, rfl⟩
theorem dL_1357 : dc code 1357 1358 (.aload_n 0) 1 := ⟨dr_at drL_law_1276 (i := 58) rfl, rfl⟩
theorem dL_1358 : dc code 1358 1360 (.iload 4) 2 := ⟨dr_at drL_law_1276 (i := 59) rfl, rfl⟩
theorem dL_1360 : dc code 1360 1361 (.iconst 3) 1 := ⟨dr_at drL_law_1276 (i := 60) rfl, rfl⟩
theorem dL_1361 : dc code 1361 1362 .iadd 1 := ⟨dr_at drL_law_1276 (i := 61) rfl, rfl⟩
theorem drL_law_1362 : ([(1362, .iaload, 1), (1363, (.aload_n 0), 1), (1364, (.iload 4), 2), (1366, (.iconst 4), 1), (1367, .iadd, 1), (1368, .iaload, 1), (1369, (.ifCond .eq 7), 3), (1372, (.iconst 1), 1), (1373, (.goto 4), 3), (1376, (.iconst 0), 1), (1377, (.aload_n 0), 1), (1378, (.iload 4), 2), (1380, (.iconst 5), 1), (1381, .iadd, 1), (1382, .iaload, 1), (1383, (.ifCond .eq 7), 3), (1386, (.iconst 1), 1), (1387, (.goto 4), 3), (1390, (.iconst 0), 1), (1391, (.invokevirtual 226), 3), (1394, (.lstore 6), 2), (1396, (.goto 602), 3), (1399, (.aload_n 1), 1), (1400, (.aload_n 3), 1), (1401, (.invokestatic 227), 3), (1404, (.istore 5), 2), (1406, (.aload_n 2), 1), (1407, (.invokevirtual 229), 3), (1410, (.istore 6), 2), (1412, (.goto 586), 3), (1415, (.aload_n 1), 1), (1416, (.aload_n 0), 1), (1417, (.iload 4), 2), (1419, (.iconst 1), 1), (1420, .iadd, 1), (1421, .iaload, 1), (1422, (.aload_n 0), 1), (1423, (.iload 4), 2), (1425, (.iconst 2), 1), (1426, .iadd, 1), (1427, .iaload, 1), (1428, (.aload_n 3), 1), (1429, (.invokestatic 230), 3), (1432, (.istore 5), 2), (1434, (.aload_n 2), 1), (1435, (.aload_n 0), 1), (1436, (.iload 4), 2), (1438, (.iconst 1), 1), (1439, .iadd, 1), (1440, .iaload, 1), (1441, (.aload_n 0), 1), (1442, (.iload 4), 2), (1444, (.iconst 2), 1), (1445, .iadd, 1), (1446, .iaload, 1), (1447, (.invokevirtual 232), 3), (1450, (.istore 6), 2), (1452, (.goto 546), 3)] : List (Nat × Instr × Nat)).all (fun q => decide (decode code q.1 = .ok q.2)) = true := by decide +kernel
theorem dL_1362 : dc code 1362 1363 .iaload 1 := ⟨dr_at drL_law_1362 (i := 0) rfl, rfl⟩
theorem dL_1363 : dc code 1363 1364 (.aload_n 0) 1 := ⟨dr_at drL_law_1362 (i := 1) rfl, rfl⟩
theorem dL_1364 : dc code 1364 1366 (.iload 4) 2 := ⟨dr_at drL_law_1362 (i := 2) rfl, rfl⟩
theorem dL_1366 : dc code 1366 1367 (.iconst 4) 1 := ⟨dr_at drL_law_1362 (i := 3) rfl, rfl⟩
theorem dL_1367 : dc code 1367 1368 .iadd 1 := ⟨dr_at drL_law_1362 (i := 4) rfl, rfl⟩
theorem dL_1368 : dc code 1368 1369 .iaload 1 := ⟨dr_at drL_law_1362 (i := 5) rfl, rfl⟩
theorem dL_1369 : dc code 1369 1372 (.ifCond .eq 7) 3 := ⟨dr_at drL_law_1362 (i := 6) rfl, rfl⟩
theorem dL_1372 : dc code 1372 1373 (.iconst 1) 1 := ⟨dr_at drL_law_1362 (i := 7) rfl, rfl⟩
theorem dL_1373 : dc code 1373 1376 (.goto 4) 3 := ⟨dr_at drL_law_1362 (i := 8) rfl, rfl⟩
theorem dL_1376 : dc code 1376 1377 (.iconst 0) 1 := ⟨dr_at drL_law_1362 (i := 9) rfl, rfl⟩
theorem dL_1377 : dc code 1377 1378 (.aload_n 0) 1 := ⟨dr_at drL_law_1362 (i := 10) rfl, rfl⟩
theorem dL_1378 : dc code 1378 1380 (.iload 4) 2 := ⟨dr_at drL_law_1362 (i := 11) rfl, rfl⟩
theorem dL_1380 : dc code 1380 1381 (.iconst 5) 1 := ⟨dr_at drL_law_1362 (i := 12) rfl, rfl⟩
theorem dL_1381 : dc code 1381 1382 .iadd 1 := ⟨dr_at drL_law_1362 (i := 13) rfl, rfl⟩
theorem dL_1382 : dc code 1382 1383 .iaload 1 := ⟨dr_at drL_law_1362 (i := 14) rfl, rfl⟩
theorem dL_1383 : dc code 1383 1386 (.ifCond .eq 7) 3 := ⟨dr_at drL_law_1362 (i := 15) rfl, rfl⟩
theorem dL_1386 : dc code 1386 1387 (.iconst 1) 1 := ⟨dr_at drL_law_1362 (i := 16) rfl, rfl⟩
theorem dL_1387 : dc code 1387 1390 (.goto 4) 3 := ⟨dr_at drL_law_1362 (i := 17) rfl, rfl⟩
theorem dL_1390 : dc code 1390 1391 (.iconst 0) 1 := ⟨dr_at drL_law_1362 (i := 18) rfl, rfl⟩
theorem dL_1391 : dc code 1391 1394 (.invokevirtual 226) 3 := ⟨dr_at drL_law_1362 (i := 19) rfl, rfl⟩
theorem dL_1394 : dc code 1394 1396 (.lstore 6) 2 := ⟨dr_at drL_law_1362 (i := 20) rfl, rfl⟩
theorem dL_1396 : dc code 1396 1399 (.goto 602) 3 := ⟨dr_at drL_law_1362 (i := 21) rfl, rfl⟩
theorem dL_1399 : dc code 1399 1400 (.aload_n 1) 1 := ⟨dr_at drL_law_1362 (i := 22) rfl, rfl⟩
theorem dL_1400 : dc code 1400 1401 (.aload_n 3) 1 := ⟨dr_at drL_law_1362 (i := 23) rfl, rfl⟩
theorem dL_1401 : dc code 1401 1404 (.invokestatic 227) 3 := ⟨dr_at drL_law_1362 (i := 24) rfl, rfl⟩
theorem dL_1404 : dc code 1404 1406 (.istore 5) 2 := ⟨dr_at drL_law_1362 (i := 25) rfl, rfl⟩
theorem dL_1406 : dc code 1406 1407 (.aload_n 2) 1 := ⟨dr_at drL_law_1362 (i := 26) rfl, rfl⟩
theorem dL_1407 : dc code 1407 1410 (.invokevirtual 229) 3 := ⟨dr_at drL_law_1362 (i := 27) rfl, rfl⟩
theorem dL_1410 : dc code 1410 1412 (.istore 6) 2 := ⟨dr_at drL_law_1362 (i := 28) rfl, rfl⟩
theorem dL_1412 : dc code 1412 1415 (.goto 586) 3 := ⟨dr_at drL_law_1362 (i := 29) rfl, rfl⟩
theorem dL_1415 : dc code 1415 1416 (.aload_n 1) 1 := ⟨dr_at drL_law_1362 (i := 30) rfl, rfl⟩
theorem dL_1416 : dc code 1416 1417 (.aload_n 0) 1 := ⟨dr_at drL_law_1362 (i := 31) rfl, rfl⟩
theorem dL_1417 : dc code 1417 1419 (.iload 4) 2 := ⟨dr_at drL_law_1362 (i := 32) rfl, rfl⟩
theorem dL_1419 : dc code 1419 1420 (.iconst 1) 1 := ⟨dr_at drL_law_1362 (i := 33) rfl, rfl⟩
theorem dL_1420 : dc code 1420 1421 .iadd 1 := ⟨dr_at drL_law_1362 (i := 34) rfl, rfl⟩
theorem dL_1421 : dc code 1421 1422 .iaload 1 := ⟨dr_at drL_law_1362 (i := 35) rfl, rfl⟩
theorem dL_1422 : dc code 1422 1423 (.aload_n 0) 1 := ⟨dr_at drL_law_1362 (i := 36) rfl, rfl⟩
theorem dL_1423 : dc code 1423 1425 (.iload 4) 2 := ⟨dr_at drL_law_1362 (i := 37) rfl, rfl⟩
theorem dL_1425 : dc code 1425 1426 (.iconst 2) 1 := ⟨dr_at drL_law_1362 (i := 38) rfl, rfl⟩
theorem dL_1426 : dc code 1426 1427 .iadd 1 := ⟨dr_at drL_law_1362 (i := 39) rfl, rfl⟩
theorem dL_1427 : dc code 1427 1428 .iaload 1 := ⟨dr_at drL_law_1362 (i := 40) rfl, rfl⟩
theorem dL_1428 : dc code 1428 1429 (.aload_n 3) 1 := ⟨dr_at drL_law_1362 (i := 41) rfl, rfl⟩
theorem dL_1429 : dc code 1429 1432 (.invokestatic 230) 3 := ⟨dr_at drL_law_1362 (i := 42) rfl, rfl⟩
theorem dL_1432 : dc code 1432 1434 (.istore 5) 2 := ⟨dr_at drL_law_1362 (i := 43) rfl, rfl⟩
theorem dL_1434 : dc code 1434 1435 (.aload_n 2) 1 := ⟨dr_at drL_law_1362 (i := 44) rfl, rfl⟩
theorem dL_1435 : dc code 1435 1436 (.aload_n 0) 1 := ⟨dr_at drL_law_1362 (i := 45) rfl, rfl⟩
theorem dL_1436 : dc code 1436 1438 (.iload 4) 2 := ⟨dr_at drL_law_1362 (i := 46) rfl, rfl⟩
theorem dL_1438 : dc code 1438 1439 (.iconst 1) 1 := ⟨dr_at drL_law_1362 (i := 47) rfl, rfl⟩
theorem dL_1439 : dc code 1439 1440 .iadd 1 := ⟨dr_at drL_law_1362 (i := 48) rfl, rfl⟩
theorem dL_1440 : dc code 1440 1441 .iaload 1 := ⟨dr_at drL_law_1362 (i := 49) rfl, rfl⟩
theorem dL_1441 : dc code 1441 1442 (.aload_n 0) 1 := ⟨dr_at drL_law_1362 (i := 50) rfl, rfl⟩
theorem dL_1442 : dc code 1442 1444 (.iload 4) 2 := ⟨dr_at drL_law_1362 (i := 51) rfl, rfl⟩
theorem dL_1444 : dc code 1444 1445 (.iconst 2) 1 := ⟨dr_at drL_law_1362 (i := 52) rfl, rfl⟩
theorem dL_1445 : dc code 1445 1446 .iadd 1 := ⟨dr_at drL_law_1362 (i := 53) rfl, rfl⟩
theorem dL_1446 : dc code 1446 1447 .iaload 1 := ⟨dr_at drL_law_1362 (i := 54) rfl, rfl⟩
theorem dL_1447 : dc code 1447 1450 (.invokevirtual 232) 3 := ⟨dr_at drL_law_1362 (i := 55) rfl, rfl⟩
theorem dL_1450 : dc code 1450 1452 (.istore 6) 2 := ⟨dr_at drL_law_1362 (i := 56) rfl, rfl⟩
theorem dL_1452 : dc code 1452 1455 (.goto 546) 3 := ⟨dr_at drL_law_1362 (i := 57) rfl, rfl⟩
theorem drL_law_1455 : ([(1455, (.aload_n 1), 1), (1456, (.aload_n 0), 1), (1457, (.iload 4), 2), (1459, (.iconst 1), 1), (1460, .iadd, 1), (1461, .iaload, 1), (1462, (.aload_n 3), 1), (1463, (.invokestatic 233), 3), (1466, (.istore 5), 2), (1468, (.aload_n 2), 1), (1469, (.aload_n 0), 1), (1470, (.iload 4), 2), (1472, (.iconst 1), 1), (1473, .iadd, 1), (1474, .iaload, 1), (1475, (.invokevirtual 236), 3), (1478, (.istore 6), 2), (1480, (.goto 518), 3), (1483, (.aload_n 1), 1), (1484, (.aload_n 0), 1), (1485, (.iload 4), 2), (1487, (.iconst 1), 1), (1488, .iadd, 1), (1489, .iaload, 1), (1490, (.aload_n 0), 1), (1491, (.iload 4), 2), (1493, (.iconst 2), 1), (1494, .iadd, 1), (1495, .iaload, 1), (1496, (.aload_n 0), 1), (1497, (.iload 4), 2), (1499, (.iconst 3), 1), (1500, .iadd, 1), (1501, .iaload, 1), (1502, (.aload_n 0), 1), (1503, (.iload 4), 2), (1505, (.iconst 4), 1), (1506, .iadd, 1), (1507, .iaload, 1), (1508, (.aload_n 0), 1), (1509, (.iload 4), 2), (1511, (.iconst 5), 1), (1512, .iadd, 1), (1513, .iaload, 1), (1514, (.aload_n 3), 1), (1515, (.invokestatic 237), 3), (1518, (.istore 5), 2), (1520, (.aload_n 2), 1), (1521, (.aload_n 0), 1), (1522, (.iload 4), 2), (1524, (.iconst 1), 1), (1525, .iadd, 1), (1526, .iaload, 1), (1527, (.aload_n 0), 1)] : List (Nat × Instr × Nat)).all (fun q => decide (decode code q.1 = .ok q.2)) = true := by decide +kernel
theorem dL_1455 : dc code 1455 1456 (.aload_n 1) 1 := ⟨dr_at drL_law_1455 (i := 0) rfl, rfl⟩
theorem dL_1456 : dc code 1456 1457 (.aload_n 0) 1 := ⟨dr_at drL_law_1455 (i := 1) rfl, rfl⟩
theorem dL_1457 : dc code 1457 1459 (.iload 4) 2 := ⟨dr_at drL_law_1455 (i := 2) rfl, rfl⟩
theorem dL_1459 : dc code 1459 1460 (.iconst 1) 1 := ⟨dr_at drL_law_1455 (i := 3) rfl, rfl⟩
theorem dL_1460 : dc code 1460 1461 .iadd 1 := ⟨dr_at drL_law_1455 (i := 4) rfl, rfl⟩
theorem dL_1461 : dc code 1461 1462 .iaload 1 := ⟨dr_at drL_law_1455 (i := 5) rfl, rfl⟩
theorem dL_1462 : dc code 1462 1463 (.aload_n 3) 1 := ⟨dr_at drL_law_1455 (i := 6) rfl, rfl⟩
theorem dL_1463 : dc code 1463 1466 (.invokestatic 233) 3 := ⟨dr_at drL_law_1455 (i := 7) rfl, rfl⟩
theorem dL_1466 : dc code 1466 1468 (.istore 5) 2 := ⟨dr_at drL_law_1455 (i := 8) rfl, rfl⟩
theorem dL_1468 : dc code 1468 1469 (.aload_n 2) 1 := ⟨dr_at drL_law_1455 (i := 9) rfl, rfl⟩
theorem dL_1469 : dc code 1469 1470 (.aload_n 0) 1 := ⟨dr_at drL_law_1455 (i := 10) rfl, rfl⟩
theorem dL_1470 : dc code 1470 1472 (.iload 4) 2 := ⟨dr_at drL_law_1455 (i := 11) rfl, rfl⟩
theorem dL_1472 : dc code 1472 1473 (.iconst 1) 1 := ⟨dr_at drL_law_1455 (i := 12) rfl, rfl⟩
theorem dL_1473 : dc code 1473 1474 .iadd 1 := ⟨dr_at drL_law_1455 (i := 13) rfl, rfl⟩
theorem dL_1474 : dc code 1474 1475 .iaload 1 := ⟨dr_at drL_law_1455 (i := 14) rfl, rfl⟩
theorem dL_1475 : dc code 1475 1478 (.invokevirtual 236) 3 := ⟨dr_at drL_law_1455 (i := 15) rfl, rfl⟩
theorem dL_1478 : dc code 1478 1480 (.istore 6) 2 := ⟨dr_at drL_law_1455 (i := 16) rfl, rfl⟩
theorem dL_1480 : dc code 1480 1483 (.goto 518) 3 := ⟨dr_at drL_law_1455 (i := 17) rfl, rfl⟩
theorem dL_1483 : dc code 1483 1484 (.aload_n 1) 1 := ⟨dr_at drL_law_1455 (i := 18) rfl, rfl⟩
theorem dL_1484 : dc code 1484 1485 (.aload_n 0) 1 := ⟨dr_at drL_law_1455 (i := 19) rfl, rfl⟩
theorem dL_1485 : dc code 1485 1487 (.iload 4) 2 := ⟨dr_at drL_law_1455 (i := 20) rfl, rfl⟩
theorem dL_1487 : dc code 1487 1488 (.iconst 1) 1 := ⟨dr_at drL_law_1455 (i := 21) rfl, rfl⟩
theorem dL_1488 : dc code 1488 1489 .iadd 1 := ⟨dr_at drL_law_1455 (i := 22) rfl, rfl⟩
theorem dL_1489 : dc code 1489 1490 .iaload 1 := ⟨dr_at drL_law_1455 (i := 23) rfl, rfl⟩
theorem dL_1490 : dc code 1490 1491 (.aload_n 0) 1 := ⟨dr_at drL_law_1455 (i := 24) rfl, rfl⟩
theorem dL_1491 : dc code 1491 1493 (.iload 4) 2 := ⟨dr_at drL_law_1455 (i := 25) rfl, rfl⟩
theorem dL_1493 : dc code 1493 1494 (.iconst 2) 1 := ⟨dr_at drL_law_1455 (i := 26) rfl, rfl⟩
theorem dL_1494 : dc code 1494 1495 .iadd 1 := ⟨dr_at drL_law_1455 (i := 27) rfl, rfl⟩
theorem dL_1495 : dc code 1495 1496 .iaload 1 := ⟨dr_at drL_law_1455 (i := 28) rfl, rfl⟩
theorem dL_1496 : dc code 1496 1497 (.aload_n 0) 1 := ⟨dr_at drL_law_1455 (i := 29) rfl, rfl⟩
theorem dL_1497 : dc code 1497 1499 (.iload 4) 2 := ⟨dr_at drL_law_1455 (i := 30) rfl, rfl⟩
theorem dL_1499 : dc code 1499 1500 (.iconst 3) 1 := ⟨dr_at drL_law_1455 (i := 31) rfl, rfl⟩
theorem dL_1500 : dc code 1500 1501 .iadd 1 := ⟨dr_at drL_law_1455 (i := 32) rfl, rfl⟩
theorem dL_1501 : dc code 1501 1502 .iaload 1 := ⟨dr_at drL_law_1455 (i := 33) rfl, rfl⟩
theorem dL_1502 : dc code 1502 1503 (.aload_n 0) 1 := ⟨dr_at drL_law_1455 (i := 34) rfl, rfl⟩
theorem dL_1503 : dc code 1503 1505 (.iload 4) 2 := ⟨dr_at drL_law_1455 (i := 35) rfl, rfl⟩
theorem dL_1505 : dc code 1505 1506 (.iconst 4) 1 := ⟨dr_at drL_law_1455 (i := 36) rfl, rfl⟩
theorem dL_1506 : dc code 1506 1507 .iadd 1 := ⟨dr_at drL_law_1455 (i := 37) rfl, rfl⟩
theorem dL_1507 : dc code 1507 1508 .iaload 1 := ⟨dr_at drL_law_1455 (i := 38) rfl, rfl⟩
theorem dL_1508 : dc code 1508 1509 (.aload_n 0) 1 := ⟨dr_at drL_law_1455 (i := 39) rfl, rfl⟩
theorem dL_1509 : dc code 1509 1511 (.iload 4) 2 := ⟨dr_at drL_law_1455 (i := 40) rfl, rfl⟩
theorem dL_1511 : dc code 1511 1512 (.iconst 5) 1 := ⟨dr_at drL_law_1455 (i := 41) rfl, rfl⟩
theorem dL_1512 : dc code 1512 1513 .iadd 1 := ⟨dr_at drL_law_1455 (i := 42) rfl, rfl⟩
theorem dL_1513 : dc code 1513 1514 .iaload 1 := ⟨dr_at drL_law_1455 (i := 43) rfl, rfl⟩
theorem dL_1514 : dc code 1514 1515 (.aload_n 3) 1 := ⟨dr_at drL_law_1455 (i := 44) rfl, rfl⟩
theorem dL_1515 : dc code 1515 1518 (.invokestatic 237) 3 := ⟨dr_at drL_law_1455 (i := 45) rfl, rfl⟩
theorem dL_1518 : dc code 1518 1520 (.istore 5) 2 := ⟨dr_at drL_law_1455 (i := 46) rfl, rfl⟩
theorem dL_1520 : dc code 1520 1521 (.aload_n 2) 1 := ⟨dr_at drL_law_1455 (i := 47) rfl, rfl⟩
theorem dL_1521 : dc code 1521 1522 (.aload_n 0) 1 := ⟨dr_at drL_law_1455 (i := 48) rfl, rfl⟩
theorem dL_1522 : dc code 1522 1524 (.iload 4) 2 := ⟨dr_at drL_law_1455 (i := 49) rfl, rfl⟩
theorem dL_1524 : dc code 1524 1525 (.iconst 1) 1 := ⟨dr_at drL_law_1455 (i := 50) rfl, rfl⟩
theorem dL_1525 : dc code 1525 1526 .iadd 1 := ⟨dr_at drL_law_1455 (i := 51) rfl, rfl⟩
theorem dL_1526 : dc code 1526 1527 .iaload 1 := ⟨dr_at drL_law_1455 (i := 52) rfl, rfl⟩
theorem dL_1527 : dc code 1527 1528 (.aload_n 0) 1 := ⟨dr_at drL_law_1455 (i := 53) rfl, rfl⟩
theorem drL_law_1528 : ([(1528, (.iload 4), 2), (1530, (.iconst 2), 1), (1531, .iadd, 1), (1532, .iaload, 1), (1533, (.aload_n 0), 1), (1534, (.iload 4), 2), (1536, (.iconst 3), 1), (1537, .iadd, 1), (1538, .iaload, 1), (1539, (.aload_n 0), 1), (1540, (.iload 4), 2), (1542, (.iconst 4), 1), (1543, .iadd, 1), (1544, .iaload, 1), (1545, (.aload_n 0), 1), (1546, (.iload 4), 2), (1548, (.iconst 5), 1), (1549, .iadd, 1), (1550, .iaload, 1), (1551, (.invokevirtual 240), 3), (1554, (.istore 6), 2), (1556, (.goto 442), 3), (1559, (.aload_n 1), 1), (1560, (.aload_n 0), 1), (1561, (.iload 4), 2), (1563, (.iconst 1), 1), (1564, .iadd, 1), (1565, .iaload, 1), (1566, (.aload_n 0), 1), (1567, (.iload 4), 2), (1569, (.iconst 2), 1), (1570, .iadd, 1), (1571, .iaload, 1), (1572, (.invokestatic 241), 3), (1575, (.istore 5), 2), (1577, (.aload_n 2), 1), (1578, (.aload_n 0), 1), (1579, (.iload 4), 2), (1581, (.iconst 1), 1), (1582, .iadd, 1), (1583, .iaload, 1), (1584, (.aload_n 0), 1), (1585, (.iload 4), 2), (1587, (.iconst 2), 1), (1588, .iadd, 1), (1589, .iaload, 1), (1590, (.invokevirtual 243), 3), (1593, (.goto 405), 3), (1596, (.aload_n 1), 1), (1597, (.aload_n 0), 1), (1598, (.iload 4), 2), (1600, (.iconst 1), 1)] : List (Nat × Instr × Nat)).all (fun q => decide (decode code q.1 = .ok q.2)) = true := by decide +kernel
theorem dL_1528 : dc code 1528 1530 (.iload 4) 2 := ⟨dr_at drL_law_1528 (i := 0) rfl, rfl⟩
theorem dL_1530 : dc code 1530 1531 (.iconst 2) 1 := ⟨dr_at drL_law_1528 (i := 1) rfl, rfl⟩
theorem dL_1531 : dc code 1531 1532 .iadd 1 := ⟨dr_at drL_law_1528 (i := 2) rfl, rfl⟩
theorem dL_1532 : dc code 1532 1533 .iaload 1 := ⟨dr_at drL_law_1528 (i := 3) rfl, rfl⟩
theorem dL_1533 : dc code 1533 1534 (.aload_n 0) 1 := ⟨dr_at drL_law_1528 (i := 4) rfl, rfl⟩
theorem dL_1534 : dc code 1534 1536 (.iload 4) 2 := ⟨dr_at drL_law_1528 (i := 5) rfl, rfl⟩
theorem dL_1536 : dc code 1536 1537 (.iconst 3) 1 := ⟨dr_at drL_law_1528 (i := 6) rfl, rfl⟩
theorem dL_1537 : dc code 1537 1538 .iadd 1 := ⟨dr_at drL_law_1528 (i := 7) rfl, rfl⟩
theorem dL_1538 : dc code 1538 1539 .iaload 1 := ⟨dr_at drL_law_1528 (i := 8) rfl, rfl⟩
theorem dL_1539 : dc code 1539 1540 (.aload_n 0) 1 := ⟨dr_at drL_law_1528 (i := 9) rfl, rfl⟩
theorem dL_1540 : dc code 1540 1542 (.iload 4) 2 := ⟨dr_at drL_law_1528 (i := 10) rfl, rfl⟩
theorem dL_1542 : dc code 1542 1543 (.iconst 4) 1 := ⟨dr_at drL_law_1528 (i := 11) rfl, rfl⟩
theorem dL_1543 : dc code 1543 1544 .iadd 1 := ⟨dr_at drL_law_1528 (i := 12) rfl, rfl⟩
theorem dL_1544 : dc code 1544 1545 .iaload 1 := ⟨dr_at drL_law_1528 (i := 13) rfl, rfl⟩
theorem dL_1545 : dc code 1545 1546 (.aload_n 0) 1 := ⟨dr_at drL_law_1528 (i := 14) rfl, rfl⟩
theorem dL_1546 : dc code 1546 1548 (.iload 4) 2 := ⟨dr_at drL_law_1528 (i := 15) rfl, rfl⟩
theorem dL_1548 : dc code 1548 1549 (.iconst 5) 1 := ⟨dr_at drL_law_1528 (i := 16) rfl, rfl⟩
theorem dL_1549 : dc code 1549 1550 .iadd 1 := ⟨dr_at drL_law_1528 (i := 17) rfl, rfl⟩
theorem dL_1550 : dc code 1550 1551 .iaload 1 := ⟨dr_at drL_law_1528 (i := 18) rfl, rfl⟩
theorem dL_1551 : dc code 1551 1554 (.invokevirtual 240) 3 := ⟨dr_at drL_law_1528 (i := 19) rfl, rfl⟩
theorem dL_1554 : dc code 1554 1556 (.istore 6) 2 := ⟨dr_at drL_law_1528 (i := 20) rfl, rfl⟩
theorem dL_1556 : dc code 1556 1559 (.goto 442) 3 := ⟨dr_at drL_law_1528 (i := 21) rfl, rfl⟩
theorem dL_1559 : dc code 1559 1560 (.aload_n 1) 1 := ⟨dr_at drL_law_1528 (i := 22) rfl, rfl⟩
theorem dL_1560 : dc code 1560 1561 (.aload_n 0) 1 := ⟨dr_at drL_law_1528 (i := 23) rfl, rfl⟩
theorem dL_1561 : dc code 1561 1563 (.iload 4) 2 := ⟨dr_at drL_law_1528 (i := 24) rfl, rfl⟩
theorem dL_1563 : dc code 1563 1564 (.iconst 1) 1 := ⟨dr_at drL_law_1528 (i := 25) rfl, rfl⟩
theorem dL_1564 : dc code 1564 1565 .iadd 1 := ⟨dr_at drL_law_1528 (i := 26) rfl, rfl⟩
theorem dL_1565 : dc code 1565 1566 .iaload 1 := ⟨dr_at drL_law_1528 (i := 27) rfl, rfl⟩
theorem dL_1566 : dc code 1566 1567 (.aload_n 0) 1 := ⟨dr_at drL_law_1528 (i := 28) rfl, rfl⟩
theorem dL_1567 : dc code 1567 1569 (.iload 4) 2 := ⟨dr_at drL_law_1528 (i := 29) rfl, rfl⟩
theorem dL_1569 : dc code 1569 1570 (.iconst 2) 1 := ⟨dr_at drL_law_1528 (i := 30) rfl, rfl⟩
theorem dL_1570 : dc code 1570 1571 .iadd 1 := ⟨dr_at drL_law_1528 (i := 31) rfl, rfl⟩
theorem dL_1571 : dc code 1571 1572 .iaload 1 := ⟨dr_at drL_law_1528 (i := 32) rfl, rfl⟩
theorem dL_1572 : dc code 1572 1575 (.invokestatic 241) 3 := ⟨dr_at drL_law_1528 (i := 33) rfl, rfl⟩
theorem dL_1575 : dc code 1575 1577 (.istore 5) 2 := ⟨dr_at drL_law_1528 (i := 34) rfl, rfl⟩
theorem dL_1577 : dc code 1577 1578 (.aload_n 2) 1 := ⟨dr_at drL_law_1528 (i := 35) rfl, rfl⟩
theorem dL_1578 : dc code 1578 1579 (.aload_n 0) 1 := ⟨dr_at drL_law_1528 (i := 36) rfl, rfl⟩
theorem dL_1579 : dc code 1579 1581 (.iload 4) 2 := ⟨dr_at drL_law_1528 (i := 37) rfl, rfl⟩
theorem dL_1581 : dc code 1581 1582 (.iconst 1) 1 := ⟨dr_at drL_law_1528 (i := 38) rfl, rfl⟩
theorem dL_1582 : dc code 1582 1583 .iadd 1 := ⟨dr_at drL_law_1528 (i := 39) rfl, rfl⟩
theorem dL_1583 : dc code 1583 1584 .iaload 1 := ⟨dr_at drL_law_1528 (i := 40) rfl, rfl⟩
theorem dL_1584 : dc code 1584 1585 (.aload_n 0) 1 := ⟨dr_at drL_law_1528 (i := 41) rfl, rfl⟩
theorem dL_1585 : dc code 1585 1587 (.iload 4) 2 := ⟨dr_at drL_law_1528 (i := 42) rfl, rfl⟩
theorem dL_1587 : dc code 1587 1588 (.iconst 2) 1 := ⟨dr_at drL_law_1528 (i := 43) rfl, rfl⟩
theorem dL_1588 : dc code 1588 1589 .iadd 1 := ⟨dr_at drL_law_1528 (i := 44) rfl, rfl⟩
theorem dL_1589 : dc code 1589 1590 .iaload 1 := ⟨dr_at drL_law_1528 (i := 45) rfl, rfl⟩
theorem dL_1590 : dc code 1590 1593 (.invokevirtual 243) 3 := ⟨dr_at drL_law_1528 (i := 46) rfl, rfl⟩
theorem dL_1593 : dc code 1593 1596 (.goto 405) 3 := ⟨dr_at drL_law_1528 (i := 47) rfl, rfl⟩
theorem dL_1596 : dc code 1596 1597 (.aload_n 1) 1 := ⟨dr_at drL_law_1528 (i := 48) rfl, rfl⟩
theorem dL_1597 : dc code 1597 1598 (.aload_n 0) 1 := ⟨dr_at drL_law_1528 (i := 49) rfl, rfl⟩
theorem dL_1598 : dc code 1598 1600 (.iload 4) 2 := ⟨dr_at drL_law_1528 (i := 50) rfl, rfl⟩
theorem dL_1600 : dc code 1600 1601 (.iconst 1) 1 := ⟨dr_at drL_law_1528 (i := 51) rfl, rfl⟩
