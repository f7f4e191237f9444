theorem drL_law_0 : ([(0, (.new 8), 3), (3, .dup, 1), (4, (.invokespecial 132), 3), (7, (.astore_n 1), 1), (8, (.new 133), 3), (11, .dup, 1), (12, (.invokespecial 135), 3), (15, (.astore_n 2), 1), (16, (.iconst 1), 1), (17, (.newarray .long), 2), (19, (.astore_n 3), 1), (20, (.iconst 0), 1), (21, (.istore 4), 2), (23, (.iload 4), 2), (25, (.aload_n 0), 1), (26, .arraylength, 1), (27, (.bipush 7), 2), (29, .isub, 1), (30, (.if_icmp .gt 1975), 3), (33, (.aload_n 0), 1), (34, (.iload 4), 2), (36, .iaload, 1), (37, (.bipush 63), 2), (39, .iand, 1), (40, (.tableswitch 1959 0 40 #[180, 253, 278, 303, 364, 401, 417, 430, 482, 588, 628, 668, 720, 800, 884, 940, 953, 1006, 1086, 1150, 1202, 1215, 1252, 1360, 1376, 1416, 1444, 1520, 1557, 1582, 1622, 1650, 1678, 1706, 1746, 1786, 1826, 1882, 1910, 1921, 1934]), 180), (220, (.aload_n 1), 1), (221, (.aload_n 0), 1), (222, (.iload 4), 2), (224, (.iconst 1), 1), (225, .iadd, 1), (226, .iaload, 1), (227, (.aload_n 0), 1), (228, (.iload 4), 2), (230, (.iconst 2), 1), (231, .iadd, 1), (232, .iaload, 1), (233, (.aload_n 0), 1), (234, (.iload 4), 2), (236, (.iconst 3), 1), (237, .iadd, 1), (238, .iaload, 1), (239, (.aload_n 0), 1), (240, (.iload 4), 2), (242, (.iconst 4), 1), (243, .iadd, 1), (244, .iaload, 1), (245, (.aload_n 0), 1), (246, (.iload 4), 2), (248, (.iconst 5), 1), (249, .iadd, 1), (250, .iaload, 1), (251, (.invokevirtual 136), 3), (254, .pop, 1), (255, (.aload_n 2), 1), (256, (.aload_n 0), 1), (257, (.iload 4), 2), (259, (.iconst 1), 1), (260, .iadd, 1), (261, .iaload, 1), (262, (.aload_n 0), 1), (263, (.iload 4), 2), (265, (.iconst 2), 1), (266, .iadd, 1), (267, .iaload, 1), (268, (.aload_n 0), 1), (269, (.iload 4), 2), (271, (.iconst 3), 1), (272, .iadd, 1), (273, .iaload, 1), (274, (.aload_n 0), 1), (275, (.iload 4), 2), (277, (.iconst 4), 1), (278, .iadd, 1), (279, .iaload, 1), (280, (.aload_n 0), 1), (281, (.iload 4), 2), (283, (.iconst 5), 1), (284, .iadd, 1), (285, .iaload, 1), (286, (.invokevirtual 139), 3), (289, .pop, 1), (290, (.goto 1709), 3), (293, (.aload_n 1), 1), (294, (.aload_n 0), 1), (295, (.iload 4), 2), (297, (.iconst 1), 1), (298, .iadd, 1), (299, .iaload, 1), (300, (.invokevirtual 140), 3), (303, .pop, 1), (304, (.aload_n 2), 1), (305, (.aload_n 0), 1), (306, (.iload 4), 2), (308, (.iconst 1), 1), (309, .iadd, 1), (310, .iaload, 1), (311, (.invokevirtual 143), 3), (314, .pop, 1), (315, (.goto 1684), 3), (318, (.aload_n 1), 1), (319, (.aload_n 0), 1), (320, (.iload 4), 2), (322, (.iconst 1), 1), (323, .iadd, 1), (324, .iaload, 1), (325, (.invokestatic 144), 3), (328, (.istore 5), 2), (330, (.aload_n 2), 1), (331, (.aload_n 0), 1), (332, (.iload 4), 2), (334, (.iconst 1), 1), (335, .iadd, 1), (336, .iaload, 1), (337, (.invokevirtual 149), 3), (340, (.goto 1659), 3), (343, (.aload_n 1), 1), (344, (.aload_n 0), 1), (345, (.iload 4), 2), (347, (.iconst 1), 1), (348, .iadd, 1), (349, .iaload, 1), (350, (.aload_n 0), 1), (351, (.iload 4), 2), (353, (.iconst 2), 1), (354, .iadd, 1), (355, .iaload, 1), (356, (.aload_n 0), 1), (357, (.iload 4), 2), (359, (.iconst 3), 1), (360, .iadd, 1), (361, .iaload, 1), (362, (.aload_n 0), 1), (363, (.iload 4), 2), (365, (.iconst 4), 1), (366, .iadd, 1), (367, .iaload, 1), (368, (.invokestatic 150), 3), (371, (.istore 5), 2), (373, (.aload_n 2), 1), (374, (.aload_n 0), 1), (375, (.iload 4), 2), (377, (.iconst 1), 1), (378, .iadd, 1), (379, .iaload, 1), (380, (.aload_n 0), 1), (381, (.iload 4), 2), (383, (.iconst 2), 1), (384, .iadd, 1), (385, .iaload, 1), (386, (.aload_n 0), 1)] : List (Nat × Instr × Nat)).all (fun q => decide (decode code q.1 = .ok q.2)) = true := by decide +kernel
theorem dL_0 : dc code 0 3 (.new 8) 3 := ⟨dr_at drL_law_0 (i := 0) rfl, rfl⟩
theorem dL_3 : dc code 3 4 .dup 1 := ⟨dr_at drL_law_0 (i := 1) rfl, rfl⟩
theorem dL_4 : dc code 4 7 (.invokespecial 132) 3 := ⟨dr_at drL_law_0 (i := 2) rfl, rfl⟩
theorem dL_7 : dc code 7 8 (.astore_n 1) 1 := ⟨dr_at drL_law_0 (i := 3) rfl, rfl⟩
theorem dL_8 : dc code 8 11 (.new 133) 3 := ⟨dr_at drL_law_0 (i := 4) rfl, rfl⟩
theorem dL_11 : dc code 11 12 .dup 1 := ⟨dr_at drL_law_0 (i := 5) rfl, rfl⟩
theorem dL_12 : dc code 12 15 (.invokespecial 135) 3 := ⟨dr_at drL_law_0 (i := 6) rfl, rfl⟩
theorem dL_15 : dc code 15 16 (.astore_n 2) 1 := ⟨dr_at drL_law_0 (i := 7) rfl, rfl⟩
theorem dL_16 : dc code 16 17 (.iconst 1) 1 := ⟨dr_at drL_law_0 (i := 8) rfl, rfl⟩
theorem dL_17 : dc code 17 19 (.newarray .long) 2 := ⟨dr_at drL_law_0 (i := 9) rfl, rfl⟩
theorem dL_19 : dc code 19 20 (.astore_n 3) 1 := ⟨dr_at drL_law_0 (i := 10) rfl, rfl⟩
theorem dL_20 : dc code 20 21 (.iconst 0) 1 := ⟨dr_at drL_law_0 (i := 11) rfl, rfl⟩
theorem dL_21 : dc code 21 23 (.istore 4) 2 := ⟨dr_at drL_law_0 (i := 12) rfl, rfl⟩
theorem dL_23 : dc code 23 25 (.iload 4) 2 := ⟨dr_at drL_law_0 (i := 13) rfl, rfl⟩
theorem dL_25 : dc code 25 26 (.aload_n 0) 1 := ⟨dr_at drL_law_0 (i := 14) rfl, rfl⟩
theorem dL_26 : dc code 26 27 .arraylength 1 := ⟨dr_at drL_law_0 (i := 15) rfl, rfl⟩
theorem dL_27 : dc code 27 29 (.bipush 7) 2 := ⟨dr_at drL_law_0 (i := 16) rfl, rfl⟩
theorem dL_29 : dc code 29 30 .isub 1 := ⟨dr_at drL_law_0 (i := 17) rfl, rfl⟩
theorem dL_30 : dc code 30 33 (.if_icmp .gt 1975) 3 := ⟨dr_at drL_law_0 (i := 18) rfl, rfl⟩
theorem dL_33 : dc code 33 34 (.aload_n 0) 1 := ⟨dr_at drL_law_0 (i := 19) rfl, rfl⟩
theorem dL_34 : dc code 34 36 (.iload 4) 2 := ⟨dr_at drL_law_0 (i := 20) rfl, rfl⟩
theorem dL_36 : dc code 36 37 .iaload 1 := ⟨dr_at drL_law_0 (i := 21) rfl, rfl⟩
theorem dL_37 : dc code 37 39 (.bipush 63) 2 := ⟨dr_at drL_law_0 (i := 22) rfl, rfl⟩
theorem dL_39 : dc code 39 40 .iand 1 := ⟨dr_at drL_law_0 (i := 23) rfl, rfl⟩
theorem dL_40 : dc code 40 220 (.tableswitch 1959 0 40 #[180, 253, 278, 303, 364, 401, 417, 430, 482, 588, 628, 668, 720, 800, 884, 940, 953, 1006, 1086, 1150, 1202, 1215, 1252, 1360, 1376, 1416, 1444, 1520, 1557, 1582, 1622, 1650, 1678, 1706, 1746, 1786, 1826, 1882, 1910, 1921, 1934]) 180 := ⟨dr_at drL_law_0 (i := 24) rfl, rfl⟩
theorem dL_220 : dc code 220 221 (.aload_n 1) 1 := ⟨dr_at drL_law_0 (i := 25) rfl, rfl⟩
theorem dL_221 : dc code 221 222 (.aload_n 0) 1 := ⟨dr_at drL_law_0 (i := 26) rfl, rfl⟩
theorem dL_222 : dc code 222 224 (.iload 4) 2 := ⟨dr_at drL_law_0 (i := 27) rfl, rfl⟩
theorem dL_224 : dc code 224 225 (.iconst 1) 1 := ⟨dr_at drL_law_0 (i := 28) rfl, rfl⟩
theorem dL_225 : dc code 225 226 .iadd 1 := ⟨dr_at drL_law_0 (i := 29) rfl, rfl⟩
theorem dL_226 : dc code 226 227 .iaload 1 := ⟨dr_at drL_law_0 (i := 30) rfl, rfl⟩
theorem dL_227 : dc code 227 228 (.aload_n 0) 1 := ⟨dr_at drL_law_0 (i := 31) rfl, rfl⟩
theorem dL_228 : dc code 228 230 (.iload 4) 2 := ⟨dr_at drL_law_0 (i := 32) rfl, rfl⟩
theorem dL_230 : dc code 230 231 (.iconst 2) 1 := ⟨dr_at drL_law_0 (i := 33) rfl, rfl⟩
theorem dL_231 : dc code 231 232 .iadd 1 := ⟨dr_at drL_law_0 (i := 34) rfl, rfl⟩
theorem dL_232 : dc code 232 233 .iaload 1 := ⟨dr_at drL_law_0 (i := 35) rfl, rfl⟩
theorem dL_233 : dc code 233 234 (.aload_n 0) 1 := ⟨dr_at drL_law_0 (i := 36) rfl, rfl⟩
theorem dL_234 : dc code 234 236 (.iload 4) 2 := ⟨dr_at drL_law_0 (i := 37) rfl, rfl⟩
theorem dL_236 : dc code 236 237 (.iconst 3) 1 := ⟨dr_at drL_law_0 (i := 38) rfl, rfl⟩
theorem dL_237 : dc code 237 238 .iadd 1 := ⟨dr_at drL_law_0 (i := 39) rfl, rfl⟩
theorem dL_238 : dc code 238 239 .iaload 1 := ⟨dr_at drL_law_0 (i := 40) rfl, rfl⟩
theorem dL_239 : dc code 239 240 (.aload_n 0) 1 := ⟨dr_at drL_law_0 (i := 41) rfl, rfl⟩
theorem dL_240 : dc code 240 242 (.iload 4) 2 := ⟨dr_at drL_law_0 (i := 42) rfl, rfl⟩
theorem dL_242 : dc code 242 243 (.iconst 4) 1 := ⟨dr_at drL_law_0 (i := 43) rfl, rfl⟩
theorem dL_243 : dc code 243 244 .iadd 1 := ⟨dr_at drL_law_0 (i := 44) rfl, rfl⟩
theorem dL_244 : dc code 244 245 .iaload 1 := ⟨dr_at drL_law_0 (i := 45) rfl, rfl⟩
theorem dL_245 : dc code 245 246 (.aload_n 0) 1 := ⟨dr_at drL_law_0 (i := 46) rfl, rfl⟩
theorem dL_246 : dc code 246 248 (.iload 4) 2 := ⟨dr_at drL_law_0 (i := 47) rfl, rfl⟩
theorem dL_248 : dc code 248 249 (.iconst 5) 1 := ⟨dr_at drL_law_0 (i := 48) rfl, rfl⟩
theorem dL_249 : dc code 249 250 .iadd 1 := ⟨dr_at drL_law_0 (i := 49) rfl, rfl⟩
theorem dL_250 : dc code 250 251 .iaload 1 := ⟨dr_at drL_law_0 (i := 50) rfl, rfl⟩
theorem dL_251 : dc code 251 254 (.invokevirtual 136) 3 := ⟨dr_at drL_law_0 (i := 51) rfl, rfl⟩
theorem dL_254 : dc code 254 255 .pop 1 := ⟨dr_at drL_law_0 (i := 52) rfl, rfl⟩
theorem dL_255 : dc code 255 256 (.aload_n 2) 1 := ⟨dr_at drL_law_0 (i := 53) rfl, rfl⟩
theorem dL_256 : dc code 256 257 (.aload_n 0) 1 := ⟨dr_at drL_law_0 (i := 54) rfl, rfl⟩
theorem dL_257 : dc code 257 259 (.iload 4) 2 := ⟨dr_at drL_law_0 (i := 55) rfl, rfl⟩
theorem dL_259 : dc code 259 260 (.iconst 1) 1 := ⟨dr_at drL_law_0 (i := 56) rfl, rfl⟩
theorem dL_260 : dc code 260 261 .iadd 1 := ⟨dr_at drL_law_0 (i := 57) rfl, rfl⟩
theorem dL_261 : dc code 261 262 .iaload 1 := ⟨dr_at drL_law_0 (i := 58) rfl, rfl⟩
theorem dL_262 : dc code 262 263 (.aload_n 0) 1 := ⟨dr_at drL_law_0 (i := 59) rfl, rfl⟩
theorem dL_263 : dc code 263 265 (.iload 4) 2 := ⟨dr_at drL_law_0 (i := 60) rfl, rfl⟩
theorem dL_265 : dc code 265 266 (.iconst 2) 1 := ⟨dr_at drL_law_0 (i := 61) rfl, rfl⟩
theorem dL_266 : dc code 266 267 .iadd 1 := ⟨dr_at drL_law_0 (i := 62) rfl, rfl⟩
theorem dL_267 : dc code 267 268 .iaload 1 := ⟨dr_at drL_law_0 (i := 63) rfl, rfl⟩
theorem dL_268 : dc code 268 269 (.aload_n 0) 1 := ⟨dr_at drL_law_0 (i := 64) rfl, rfl⟩
theorem dL_269 : dc code 269 271 (.iload 4) 2 := ⟨dr_at drL_law_0 (i := 65) rfl, rfl⟩
theorem dL_271 : dc code 271 272 (.iconst 3) 1 := ⟨dr_at drL_law_0 (i := 66) rfl, rfl⟩
theorem dL_272 : dc code 272 273 .iadd 1 := ⟨dr_at drL_law_0 (i := 67) rfl, rfl⟩
theorem dL_273 : dc code 273 274 .iaload 1 := ⟨dr_at drL_law_0 (i := 68) rfl, rfl⟩
theorem dL_274 : dc code 274 275 (.aload_n 0) 1 := ⟨dr_at drL_law_0 (i := 69) rfl, rfl⟩
theorem dL_275 : dc code 275 277 (.iload 4) 2 := ⟨dr_at drL_law_0 (i := 70) rfl, rfl⟩
theorem dL_277 : dc code 277 278 (.iconst 4) 1 := ⟨dr_at drL_law_0 (i := 71) rfl, rfl⟩
theorem dL_278 : dc code 278 279 .iadd 1 := ⟨dr_at drL_law_0 (i := 72) rfl, rfl⟩
theorem dL_279 : dc code 279 280 .iaload 1 := ⟨dr_at drL_law_0 (i := 73) rfl, rfl⟩
theorem dL_280 : dc code 280 281 (.aload_n 0) 1 := ⟨dr_at drL_law_0 (i := 74) rfl, rfl⟩
theorem dL_281 : dc code 281 283 (.iload 4) 2 := ⟨dr_at drL_law_0 (i := 75) rfl, rfl⟩
theorem dL_283 : dc code 283 284 (.iconst 5) 1 := ⟨dr_at drL_law_0 (i := 76) rfl, rfl⟩
theorem dL_284 : dc code 284 285 .iadd 1 := ⟨dr_at drL_law_0 (i := 77) rfl, rfl⟩
theorem dL_285 : dc code 285 286 .iaload 1 := ⟨dr_at drL_law_0 (i := 78) rfl, rfl⟩
theorem dL_286 : dc code 286 289 (.invokevirtual 139) 3 := ⟨dr_at drL_law_0 (i := 79) rfl, rfl⟩
theorem dL_289 : dc code 289 290 .pop 1 := ⟨dr_at drL_law_0 (i := 80) rfl, rfl⟩
theorem dL_290 : dc code 290 293 (.goto 1709) 3 := ⟨dr_at drL_law_0 (i := 81) rfl, rfl⟩
theorem dL_293 : dc code 293 294 (.aload_n 1) 1 := ⟨dr_at drL_law_0 (i := 82) rfl, rfl⟩
theorem dL_294 : dc code 294 295 (.aload_n 0) 1 := ⟨dr_at drL_law_0 (i := 83) rfl, rfl⟩
theorem dL_295 : dc code 295 297 (.iload 4) 2 := ⟨dr_at drL_law_0 (i := 84) rfl, rfl⟩
theorem dL_297 : dc code 297 298 (.iconst 1) 1 := ⟨dr_at drL_law_0 (i := 85) rfl, rfl⟩
theorem dL_298 : dc code 298 299 .iadd 1 := ⟨dr_at drL_law_0 (i := 86) rfl, rfl⟩
theorem dL_299 : dc code 299 300 .iaload 1 := ⟨dr_at drL_law_0 (i := 87) rfl, rfl⟩
theorem dL_300 : dc code 300 303 (.invokevirtual 140) 3 := ⟨dr_at drL_law_0 (i := 88) rfl, rfl⟩
theorem dL_303 : dc code 303 304 .pop 1 := ⟨dr_at drL_law_0 (i := 89) rfl, rfl⟩
theorem dL_304 : dc code 304 305 (.aload_n 2) 1 := ⟨dr_at drL_law_0 (i := 90) rfl, rfl⟩
theorem dL_305 : dc code 305 306 (.aload_n 0) 1 := ⟨dr_at drL_law_0 (i := 91) rfl, rfl⟩
theorem dL_306 : dc code 306 308 (.iload 4) 2 := ⟨dr_at drL_law_0 (i := 92) rfl, rfl⟩
theorem dL_308 : dc code 308 309 (.iconst 1) 1 := ⟨dr_at drL_law_0 (i := 93) rfl, rfl⟩
theorem dL_309 : dc code 309 310 .iadd 1 := ⟨dr_at drL_law_0 (i := 94) rfl, rfl⟩
theorem dL_310 : dc code 310 311 .iaload 1 := ⟨dr_at drL_law_0 (i := 95) rfl, rfl⟩
theorem dL_311 : dc code 311 314 (.invokevirtual 143) 3 := ⟨dr_at drL_law_0 (i := 96) rfl, rfl⟩
theorem dL_314 : dc code 314 315 .pop 1 := ⟨dr_at drL_law_0 (i := 97) rfl, rfl⟩
theorem dL_315 : dc code 315 318 (.goto 1684) 3 := ⟨dr_at drL_law_0 (i := 98) rfl, rfl⟩
theorem dL_318 : dc code 318 319 (.aload_n 1) 1 := ⟨dr_at drL_law_0 (i := 99) rfl, rfl⟩
theorem dL_319 : dc code 319 320 (.aload_n 0) 1 := ⟨dr_at drL_law_0 (i := 100) rfl, rfl⟩
theorem dL_320 : dc code 320 322 (.iload 4) 2 := ⟨dr_at drL_law_0 (i := 101) rfl, rfl⟩
theorem dL_322 : dc code 322 323 (.iconst 1) 1 := ⟨dr_at drL_law_0 (i := 102) rfl, rfl⟩
theorem dL_323 : dc code 323 324 .iadd 1 := ⟨dr_at drL_law_0 (i := 103) rfl, rfl⟩
theorem dL_324 : dc code 324 325 .iaload 1 := ⟨dr_at drL_law_0 (i := 104) rfl, rfl⟩
theorem dL_325 : dc code 325 328 (.invokestatic 144) 3 := ⟨dr_at drL_law_0 (i := 105) rfl, rfl⟩
theorem dL_328 : dc code 328 330 (.istore 5) 2 := ⟨dr_at drL_law_0 (i := 106) rfl, rfl⟩
theorem dL_330 : dc code 330 331 (.aload_n 2) 1 := ⟨dr_at drL_law_0 (i := 107) rfl, rfl⟩
theorem dL_331 : dc code 331 332 (.aload_n 0) 1 := ⟨dr_at drL_law_0 (i := 108) rfl, rfl⟩
theorem dL_332 : dc code 332 334 (.iload 4) 2 := ⟨dr_at drL_law_0 (i := 109) rfl, rfl⟩
theorem dL_334 : dc code 334 335 (.iconst 1) 1 := ⟨dr_at drL_law_0 (i := 110) rfl, rfl⟩
theorem dL_335 : dc code 335 336 .iadd 1 := ⟨dr_at drL_law_0 (i := 111) rfl, rfl⟩
theorem dL_336 : dc code 336 337 .iaload 1 := ⟨dr_at drL_law_0 (i := 112) rfl, rfl⟩
theorem dL_337 : dc code 337 340 (.invokevirtual 149) 3 := ⟨dr_at drL_law_0 (i := 113) rfl, rfl⟩
theorem dL_340 : dc code 340 343 (.goto 1659) 3 := ⟨dr_at drL_law_0 (i := 114) rfl, rfl⟩
theorem dL_343 : dc code 343 344 (.aload_n 1) 1 := ⟨dr_at drL_law_0 (i := 115) rfl, rfl⟩
theorem dL_344 : dc code 344 345 (.aload_n 0) 1 := ⟨dr_at drL_law_0 (i := 116) rfl, rfl⟩
theorem dL_345 : dc code 345 347 (.iload 4) 2 := ⟨dr_at drL_law_0 (i := 117) rfl, rfl⟩
theorem dL_347 : dc code 347 348 (.iconst 1) 1 := ⟨dr_at drL_law_0 (i := 118) rfl, rfl⟩
theorem dL_348 : dc code 348 349 .iadd 1 := ⟨dr_at drL_law_0 (i := 119) rfl, rfl⟩
theorem dL_349 : dc code 349 350 .iaload 1 := ⟨dr_at drL_law_0 (i := 120) rfl, rfl⟩
theorem dL_350 : dc code 350 351 (.aload_n 0) 1 := ⟨dr_at drL_law_0 (i := 121) rfl, rfl⟩
theorem dL_351 : dc code 351 353 (.iload 4) 2 := ⟨dr_at drL_law_0 (i := 122) rfl, rfl⟩
theorem dL_353 : dc code 353 354 (.iconst 2) 1 := ⟨dr_at drL_law_0 (i := 123) rfl, rfl⟩
theorem dL_354 : dc code 354 355 .iadd 1 := ⟨dr_at drL_law_0 (i := 124) rfl, rfl⟩
theorem dL_355 : dc code 355 356 .iaload 1 := ⟨dr_at drL_law_0 (i := 125) rfl, rfl⟩
theorem dL_356 : dc code 356 357 (.aload_n 0) 1 := ⟨dr_at drL_law_0 (i := 126) rfl, rfl⟩
theorem dL_357 : dc code 357 359 (.iload 4) 2 := ⟨dr_at drL_law_0 (i := 127) rfl, rfl⟩
theorem dL_359 : dc code 359 360 (.iconst 3) 1 := ⟨dr_at drL_law_0 (i := 128) rfl, rfl⟩
theorem dL_360 : dc code 360 361 .iadd 1 := ⟨dr_at drL_law_0 (i := 129) rfl, rfl⟩
theorem dL_361 : dc code 361 362 .iaload 1 := ⟨dr_at drL_law_0 (i := 130) rfl, rfl⟩
theorem dL_362 : dc code 362 363 (.aload_n 0) 1 := ⟨dr_at drL_law_0 (i := 131) rfl, rfl⟩
theorem dL_363 : dc code 363 365 (.iload 4) 2 := ⟨dr_at drL_law_0 (i := 132) rfl, rfl⟩
theorem dL_365 : dc code 365 366 (.iconst 4) 1 := ⟨dr_at drL_law_0 (i := 133) rfl, rfl⟩
theorem dL_366 : dc code 366 367 .iadd 1 := ⟨dr_at drL_law_0 (i := 134) rfl, rfl⟩
theorem dL_367 : dc code 367 368 .iaload 1 := ⟨dr_at drL_law_0 (i := 135) rfl, rfl⟩
theorem dL_368 : dc code 368 371 (.invokestatic 150) 3 := ⟨dr_at drL_law_0 (i := 136) rfl, rfl⟩
theorem dL_371 : dc code 371 373 (.istore 5) 2 := ⟨dr_at drL_law_0 (i := 137) rfl, rfl⟩
theorem dL_373 : dc code 373 374 (.aload_n 2) 1 := ⟨dr_at drL_law_0 (i := 138) rfl, rfl⟩
theorem dL_374 : dc code 374 375 (.aload_n 0) 1 := ⟨dr_at drL_law_0 (i := 139) rfl, rfl⟩
theorem dL_375 : dc code 375 377 (.iload 4) 2 := ⟨dr_at drL_law_0 (i := 140) rfl, rfl⟩
theorem dL_377 : dc code 377 378 (.iconst 1) 1 := ⟨dr_at drL_law_0 (i := 141) rfl, rfl⟩
theorem dL_378 : dc code 378 379 .iadd 1 := ⟨dr_at drL_law_0 (i := 142) rfl, rfl⟩
theorem dL_379 : dc code 379 380 .iaload 1 := ⟨dr_at drL_law_0 (i := 143) rfl, rfl⟩
theorem dL_380 : dc code 380 381 (.aload_n 0) 1 := ⟨dr_at drL_law_0 (i := 144) rfl, rfl⟩
theorem dL_381 : dc code 381 383 (.iload 4) 2 := ⟨dr_at drL_law_0 (i := 145) rfl, rfl⟩
theorem dL_383 : dc code 383 384 (.iconst 2) 1 := ⟨dr_at drL_law_0 (i := 146) rfl, rfl⟩
theorem dL_384 : dc code 384 385 .iadd 1 := ⟨dr_at drL_law_0 (i := 147) rfl, rfl⟩
theorem dL_385 : dc code 385 386 .iaload 1 := ⟨dr_at drL_law_0 (i := 148) rfl, rfl⟩
theorem dL_386 : dc code 386 387 (.aload_n 0) 1 := ⟨dr_at drL_law_0 (i := 149) rfl, rfl⟩
theorem drL_law_387 : ([(387, (.iload 4), 2), (389, (.iconst 3), 1), (390, .iadd, 1), (391, .iaload, 1), (392, (.aload_n 0), 1), (393, (.iload 4), 2), (395, (.iconst 4), 1), (396, .iadd, 1), (397, .iaload, 1), (398, (.invokevirtual 153), 3), (401, (.goto 1598), 3), (404, (.aload_n 1), 1), (405, (.aload_n 0), 1), (406, (.iload 4), 2), (408, (.iconst 1), 1), (409, .iadd, 1), (410, .iaload, 1), (411, (.aload_n 0), 1), (412, (.iload 4), 2), (414, (.iconst 2), 1), (415, .iadd, 1), (416, .iaload, 1), (417, (.invokestatic 154), 3), (420, (.istore 5), 2), (422, (.aload_n 2), 1), (423, (.aload_n 0), 1), (424, (.iload 4), 2), (426, (.iconst 1), 1), (427, .iadd, 1), (428, .iaload, 1), (429, (.aload_n 0), 1), (430, (.iload 4), 2), (432, (.iconst 2), 1), (433, .iadd, 1), (434, .iaload, 1), (435, (.invokevirtual 157), 3), (438, (.goto 1561), 3), (441, (.aload_n 1), 1), (442, (.aload_n 3), 1), (443, (.invokestatic 158), 3), (446, (.istore 5), 2), (448, (.aload_n 2), 1), (449, (.invokevirtual 161), 3), (452, (.istore 6), 2), (454, (.goto 1545), 3), (457, (.aload_n 1), 1), (458, (.invokevirtual 162), 3), (461, .pop, 1), (462, (.aload_n 2), 1), (463, (.invokevirtual 165), 3), (466, .pop, 1), (467, (.goto 1532), 3), (470, (.aload_n 1), 1), (471, (.aload_n 0), 1), (472, (.iload 4), 2), (474, (.iconst 1), 1), (475, .iadd, 1), (476, .iaload, 1), (477, (.aload_n 0), 1), (478, (.iload 4), 2), (480, (.iconst 2), 1), (481, .iadd, 1), (482, .iaload, 1), (483, (.aload_n 0), 1), (484, (.iload 4), 2), (486, (.iconst 3), 1), (487, .iadd, 1), (488, .iaload, 1), (489, (.aload_n 3), 1), (490, (.invokestatic 166), 3), (493, (.istore 5), 2), (495, (.aload_n 2), 1), (496, (.aload_n 0), 1), (497, (.iload 4), 2), (499, (.iconst 1), 1), (500, .iadd, 1), (501, .iaload, 1), (502, (.aload_n 0), 1), (503, (.iload 4), 2), (505, (.iconst 2), 1), (506, .iadd, 1), (507, .iaload, 1), (508, (.aload_n 0), 1), (509, (.iload 4), 2), (511, (.iconst 3), 1), (512, .iadd, 1), (513, .iaload, 1), (514, (.invokevirtual 169), 3), (517, (.istore 6), 2), (519, (.goto 1480), 3), (522, (.aload_n 1), 1), (523, (.aload_n 0), 1), (524, (.iload 4), 2), (526, (.iconst 1), 1), (527, .iadd, 1), (528, .iaload, 1), (529, (.aload_n 0), 1), (530, (.iload 4), 2), (532, (.iconst 2), 1), (533, .iadd, 1), (534, .iaload, 1), (535, (.aload_n 0), 1), (536, (.iload 4), 2), (538, (.iconst 3), 1), (539, .iadd, 1), (540, .iaload, 1), (541, (.aload_n 0), 1), (542, (.iload 4), 2), (544, (.iconst 4), 1), (545, .iadd, 1), (546, .iaload, 1), (547, (.aload_n 0), 1), (548, (.iload 4), 2), (550, (.iconst 5), 1), (551, .iadd, 1), (552, .iaload, 1), (553, (.aload_n 0), 1), (554, (.iload 4), 2), (556, (.bipush 6), 2), (558, .iadd, 1), (559, .iaload, 1), (560, (.ifCond .eq 7), 3), (563, (.iconst 1), 1), (564, (.goto 4), 3), (567, (.iconst 0), 1), (568, (.aload_n 3), 1), (569, (.invokestatic 170), 3), (572, (.istore 5), 2), (574, (.aload_n 2), 1), (575, (.aload_n 0), 1), (576, (.iload 4), 2), (578, (.iconst 1), 1), (579, .iadd, 1), (580, .iaload, 1), (581, (.aload_n 0), 1), (582, (.iload 4), 2), (584, (.iconst 2), 1), (585, .iadd, 1), (586, .iaload, 1), (587, (.aload_n 0), 1), (588, (.iload 4), 2), (590, (.iconst 3), 1), (591, .iadd, 1), (592, .iaload, 1), (593, (.aload_n 0), 1), (594, (.iload 4), 2), (596, (.iconst 4), 1), (597, .iadd, 1), (598, .iaload, 1), (599, (.aload_n 0), 1)] : List (Nat × Instr × Nat)).all (fun q => decide (decode code q.1 = .ok q.2)) = true := by decide +kernel
theorem dL_387 : dc code 387 389 (.iload 4) 2 := ⟨dr_at drL_law_387 (i := 0) rfl, rfl⟩
theorem dL_389 : dc code 389 390 (.iconst 3) 1 := ⟨dr_at drL_law_387 (i := 1) rfl, rfl⟩
theorem dL_390 : dc code 390 391 .iadd 1 := ⟨dr_at drL_law_387 (i := 2) rfl, rfl⟩
theorem dL_391 : dc code 391 392 .iaload 1 := ⟨dr_at drL_law_387 (i := 3) rfl, rfl⟩
theorem dL_392 : dc code 392 393 (.aload_n 0) 1 := ⟨dr_at drL_law_387 (i := 4) rfl, rfl⟩
theorem dL_393 : dc code 393 395 (.iload 4) 2 := ⟨dr_at drL_law_387 (i := 5) rfl, rfl⟩
theorem dL_395 : dc code 395 396 (.iconst 4) 1 := ⟨dr_at drL_law_387 (i := 6) rfl, rfl⟩
theorem dL_396 : dc code 396 397 .iadd 1 := ⟨dr_at drL_law_387 (i := 7) rfl, rfl⟩
theorem dL_397 : dc code 397 398 .iaload 1 := ⟨dr_at drL_law_387 (i := 8) rfl, rfl⟩
theorem dL_398 : dc code 398 401 (.invokevirtual 153) 3 := ⟨dr_at drL_law_387 (i := 9) rfl, rfl⟩
theorem dL_401 : dc code 401 404 (.goto 1598) 3 := ⟨dr_at drL_law_387 (i := 10) rfl, rfl⟩
theorem dL_404 : dc code 404 405 (.aload_n 1) 1 := ⟨dr_at drL_law_387 (i := 11) rfl, rfl⟩
theorem dL_405 : dc code 405 406 (.aload_n 0) 1 := ⟨dr_at drL_law_387 (i := 12) rfl, rfl⟩
theorem dL_406 : dc code 406 408 (.iload 4) 2 := ⟨dr_at drL_law_387 (i := 13) rfl, rfl⟩
theorem dL_408 : dc code 408 409 (.iconst 1) 1 := ⟨dr_at drL_law_387 (i := 14) rfl, rfl⟩
theorem dL_409 : dc code 409 410 .iadd 1 := ⟨dr_at drL_law_387 (i := 15) rfl, rfl⟩
theorem dL_410 : dc code 410 411 .iaload 1 := ⟨dr_at drL_law_387 (i := 16) rfl, rfl⟩
theorem dL_411 : dc code 411 412 (.aload_n 0) 1 := ⟨dr_at drL_law_387 (i := 17) rfl, rfl⟩
theorem dL_412 : dc code 412 414 (.iload 4) 2 := ⟨dr_at drL_law_387 (i := 18) rfl, rfl⟩
theorem dL_414 : dc code 414 415 (.iconst 2) 1 := ⟨dr_at drL_law_387 (i := 19) rfl, rfl⟩
theorem dL_415 : dc code 415 416 .iadd 1 := ⟨dr_at drL_law_387 (i := 20) rfl, rfl⟩
theorem dL_416 : dc code 416 417 .iaload 1 := ⟨dr_at drL_law_387 (i := 21) rfl, rfl⟩
theorem dL_417 : dc code 417 420 (.invokestatic 154) 3 := ⟨dr_at drL_law_387 (i := 22) rfl, rfl⟩
theorem dL_420 : dc code 420 422 (.istore 5) 2 := ⟨dr_at drL_law_387 (i := 23) rfl, rfl⟩
theorem dL_422 : dc code 422 423 (.aload_n 2) 1 := ⟨dr_at drL_law_387 (i := 24) rfl, rfl⟩
theorem dL_423 : dc code 423 424 (.aload_n 0) 1 := ⟨dr_at drL_law_387 (i := 25) rfl, rfl⟩
theorem dL_424 : dc code 424 426 (.iload 4) 2 := ⟨dr_at drL_law_387 (i := 26) rfl, rfl⟩
theorem dL_426 : dc code 426 427 (.iconst 1) 1 := ⟨dr_at drL_law_387 (i := 27) rfl, rfl⟩
theorem dL_427 : dc code 427 428 .iadd 1 := ⟨dr_at drL_law_387 (i := 28) rfl, rfl⟩
theorem dL_428 : dc code 428 429 .iaload 1 := ⟨dr_at drL_law_387 (i := 29) rfl, rfl⟩
theorem dL_429 : dc code 429 430 (.aload_n 0) 1 := ⟨dr_at drL_law_387 (i := 30) rfl, rfl⟩
theorem dL_430 : dc code 430 432 (.iload 4) 2 := ⟨dr_at drL_law_387 (i := 31) rfl, rfl⟩
theorem dL_432 : dc code 432 433 (.iconst 2) 1 := ⟨dr_at drL_law_387 (i := 32) rfl, rfl⟩
theorem dL_433 : dc code 433 434 .iadd 1 := ⟨dr_at drL_law_387 (i := 33) rfl, rfl⟩
theorem dL_434 : dc code 434 435 .iaload 1 := ⟨dr_at drL_law_387 (i := 34) rfl, rfl⟩
theorem dL_435 : dc code 435 438 (.invokevirtual 157) 3 := ⟨dr_at drL_law_387 (i := 35) rfl, rfl⟩
theorem dL_438 : dc code 438 441 (.goto 1561) 3 := ⟨dr_at drL_law_387 (i := 36) rfl, rfl⟩
theorem dL_441 : dc code 441 442 (.aload_n 1) 1 := ⟨dr_at drL_law_387 (i := 37) rfl, rfl⟩
theorem dL_442 : dc code 442 443 (.aload_n 3) 1 := ⟨dr_at drL_law_387 (i := 38) rfl, rfl⟩
theorem dL_443 : dc code 443 446 (.invokestatic 158) 3 := ⟨dr_at drL_law_387 (i := 39) rfl, rfl⟩
theorem dL_446 : dc code 446 448 (.istore 5) 2 := ⟨dr_at drL_law_387 (i := 40) rfl, rfl⟩
theorem dL_448 : dc code 448 449 (.aload_n 2) 1 := ⟨dr_at drL_law_387 (i := 41) rfl, rfl⟩
theorem dL_449 : dc code 449 452 (.invokevirtual 161) 3 := ⟨dr_at drL_law_387 (i := 42) rfl, rfl⟩
theorem dL_452 : dc code 452 454 (.istore 6) 2 := ⟨dr_at drL_law_387 (i := 43) rfl, rfl⟩
theorem dL_454 : dc code 454 457 (.goto 1545) 3 := ⟨dr_at drL_law_387 (i := 44) rfl, rfl⟩
theorem dL_457 : dc code 457 458 (.aload_n 1) 1 := ⟨dr_at drL_law_387 (i := 45) rfl, rfl⟩
theorem dL_458 : dc code 458 461 (.invokevirtual 162) 3 := ⟨dr_at drL_law_387 (i := 46) rfl, rfl⟩
theorem dL_461 : dc code 461 462 .pop 1 := ⟨dr_at drL_law_387 (i := 47) rfl, rfl⟩
theorem dL_462 : dc code 462 463 (.aload_n 2) 1 := ⟨dr_at drL_law_387 (i := 48) rfl, rfl⟩
theorem dL_463 : dc code 463 466 (.invokevirtual 165) 3 := ⟨dr_at drL_law_387 (i := 49) rfl, rfl⟩
theorem dL_466 : dc code 466 467 .pop 1 := ⟨dr_at drL_law_387 (i := 50) rfl, rfl⟩
theorem dL_467 : dc code 467 470 (.goto 1532) 3 := ⟨dr_at drL_law_387 (i := 51) rfl, rfl⟩
theorem dL_470 : dc code 470 471 (.aload_n 1) 1 := ⟨dr_at drL_law_387 (i := 52) rfl, rfl⟩
theorem dL_471 : dc code 471 472 (.aload_n 0) 1 := ⟨dr_at drL_law_387 (i := 53) rfl, rfl⟩
theorem dL_472 : dc code 472 474 (.iload 4) 2 := ⟨dr_at drL_law_387 (i := 54) rfl, rfl⟩
theorem dL_474 : dc code 474 475 (.iconst 1) 1 := ⟨dr_at drL_law_387 (i := 55) rfl, rfl⟩
theorem dL_475 : dc code 475 476 .iadd 1 := ⟨dr_at drL_law_387 (i := 56) rfl, rfl⟩
theorem dL_476 : dc code 476 477 .iaload 1 := ⟨dr_at drL_law_387 (i := 57) rfl, rfl⟩
theorem dL_477 : dc code 477 478 (.aload_n 0) 1 := ⟨dr_at drL_law_387 (i := 58) rfl, rfl⟩
theorem dL_478 : dc code 478 480 (.iload 4) 2 := ⟨dr_at drL_law_387 (i := 59) rfl, rfl⟩
theorem dL_480 : dc code 480 481 (.iconst 2) 1 := ⟨dr_at drL_law_387 (i := 60) rfl, rfl⟩
theorem dL_481 : dc code 481 482 .iadd 1 := ⟨dr_at drL_law_387 (i := 61) rfl, rfl⟩
theorem dL_482 : dc code 482 483 .iaload 1 := ⟨dr_at drL_law_387 (i := 62) rfl, rfl⟩
theorem dL_483 : dc code 483 484 (.aload_n 0) 1 := ⟨dr_at drL_law_387 (i := 63) rfl, rfl⟩
theorem dL_484 : dc code 484 486 (.iload 4) 2 := ⟨dr_at drL_law_387 (i := 64) rfl, rfl⟩
theorem dL_486 : dc code 486 487 (.iconst 3) 1 := ⟨dr_at drL_law_387 (i := 65) rfl, rfl⟩
theorem dL_487 : dc code 487 488 .iadd 1 := ⟨dr_at drL_law_387 (i := 66) rfl, rfl⟩
theorem dL_488 : dc code 488 489 .iaload 1 := ⟨dr_at drL_law_387 (i := 67) rfl, rfl⟩
theorem dL_489 : dc code 489 490 (.aload_n 3) 1 := ⟨dr_at drL_law_387 (i := 68) rfl, rfl⟩
theorem dL_490 : dc code 490 493 (.invokestatic 166) 3 := ⟨dr_at drL_law_387 (i := 69) rfl, rfl⟩
theorem dL_493 : dc code 493 495 (.istore 5) 2 := ⟨dr_at drL_law_387 (i := 70) rfl, rfl⟩
theorem dL_495 : dc code 495 496 (.aload_n 2) 1 := ⟨dr_at drL_law_387 (i := 71) rfl, rfl⟩
theorem dL_496 : dc code 496 497 (.aload_n 0) 1 := ⟨dr_at drL_law_387 (i := 72) rfl, rfl⟩
theorem dL_497 : dc code 497 499 (.iload 4) 2 := ⟨dr_at drL_law_387 (i := 73) rfl, rfl⟩
theorem dL_499 : dc code 499 500 (.iconst 1) 1 := ⟨dr_at drL_law_387 (i := 74) rfl, rfl⟩
theorem dL_500 : dc code 500 501 .iadd 1 := ⟨dr_at drL_law_387 (i := 75) rfl, rfl⟩
theorem dL_501 : dc code 501 502 .iaload 1 := ⟨dr_at drL_law_387 (i := 76) rfl, rfl⟩
theorem dL_502 : dc code 502 503 (.aload_n 0) 1 := ⟨dr_at drL_law_387 (i := 77) rfl, rfl⟩
theorem dL_503 : dc code 503 505 (.iload 4) 2 := ⟨dr_at drL_law_387 (i := 78) rfl, rfl⟩
theorem dL_505 : dc code 505 506 (.iconst 2) 1 := ⟨dr_at drL_law_387 (i := 79) rfl, rfl⟩
theorem dL_506 : dc code 506 507 .iadd 1 := ⟨dr_at drL_law_387 (i := 80) rfl, rfl⟩
theorem dL_507 : dc code 507 508 .iaload 1 := ⟨dr_at drL_law_387 (i := 81) rfl, rfl⟩
theorem dL_508 : dc code 508 509 (.aload_n 0) 1 := ⟨dr_at drL_law_387 (i := 82) rfl, rfl⟩
theorem dL_509 : dc code 509 511 (.iload 4) 2 := ⟨dr_at drL_law_387 (i := 83) rfl, rfl⟩
theorem dL_511 : dc code 511 512 (.iconst 3) 1 := ⟨dr_at drL_law_387 (i := 84) rfl, rfl⟩
theorem dL_512 : dc code 512 513 .iadd 1 := ⟨dr_at drL_law_387 (i := 85) rfl, rfl⟩
theorem dL_513 : dc code 513 514 .iaload 1 := ⟨dr_at drL_law_387 (i := 86) rfl, rfl⟩
theorem dL_514 : dc code 514 517 (.invokevirtual 169) 3 := ⟨dr_at drL_law_387 (i := 87) rfl, rfl⟩
theorem dL_517 : dc code 517 519 (.istore 6) 2 := ⟨dr_at drL_law_387 (i := 88) rfl, rfl⟩
theorem dL_519 : dc code 519 522 (.goto 1480) 3 := ⟨dr_at drL_law_387 (i := 89) rfl, rfl⟩
theorem dL_522 : dc code 522 523 (.aload_n 1) 1 := ⟨dr_at drL_law_387 (i := 90) rfl, rfl⟩
theorem dL_523 : dc code 523 524 (.aload_n 0) 1 := ⟨dr_at drL_law_387 (i := 91) rfl, rfl⟩
theorem dL_524 : dc code 524 526 (.iload 4) 2 := ⟨dr_at drL_law_387 (i := 92) rfl, rfl⟩
theorem dL_526 : dc code 526 527 (.iconst 1) 1 := ⟨dr_at drL_law_387 (i := 93) rfl, rfl⟩
theorem dL_527 : dc code 527 528 .iadd 1 := ⟨dr_at drL_law_387 (i := 94) rfl, rfl⟩
theorem dL_528 : dc code 528 529 .iaload 1 := ⟨dr_at drL_law_387 (i := 95) rfl, rfl⟩
theorem dL_529 : dc code 529 530 (.aload_n 0) 1 := ⟨dr_at drL_law_387 (i := 96) rfl, rfl⟩
theorem dL_530 : dc code 530 532 (.iload 4) 2 := ⟨dr_at drL_law_387 (i := 97) rfl, rfl⟩
theorem dL_532 : dc code 532 533 (.iconst 2) 1 := ⟨dr_at drL_law_387 (i := 98) rfl, rfl⟩
theorem dL_533 : dc code 533 534 .iadd 1 := ⟨dr_at drL_law_387 (i := 99) rfl, rfl⟩
theorem dL_534 : dc code 534 535 .iaload 1 := ⟨dr_at drL_law_387 (i := 100) rfl, rfl⟩
theorem dL_535 : dc code 535 536 (.aload_n 0) 1 := ⟨dr_at drL_law_387 (i := 101) rfl, rfl⟩
theorem dL_536 : dc code 536 538 (.iload 4) 2 := ⟨dr_at drL_law_387 (i := 102) rfl, rfl⟩
theorem dL_538 : dc code 538 539 (.iconst 3) 1 := ⟨dr_at drL_law_387 (i := 103) rfl, rfl⟩
theorem dL_539 : dc code 539 540 .iadd 1 := ⟨dr_at drL_law_387 (i := 104) rfl, rfl⟩
theorem dL_540 : dc code 540 541 .iaload 1 := ⟨dr_at drL_law_387 (i := 105) rfl, rfl⟩
theorem dL_541 : dc code 541 542 (.aload_n 0) 1 := ⟨dr_at drL_law_387 (i := 106) rfl, rfl⟩
theorem dL_542 : dc code 542 544 (.iload 4) 2 := ⟨dr_at drL_law_387 (i := 107) rfl, rfl⟩
theorem dL_544 : dc code 544 545 (.iconst 4) 1 := ⟨dr_at drL_law_387 (i := 108) rfl, rfl⟩
theorem dL_545 : dc code 545 546 .iadd 1 := ⟨dr_at drL_law_387 (i := 109) rfl, rfl⟩
theorem dL_546 : dc code 546 547 .iaload 1 := ⟨dr_at drL_law_387 (i := 110) rfl, rfl⟩
theorem dL_547 : dc code 547 548 (.aload_n 0) 1 := ⟨dr_at drL_law_387 (i := 111) rfl, rfl⟩
theorem dL_548 : dc code 548 550 (.iload 4) 2 := ⟨dr_at drL_law_387 (i := 112) rfl, rfl⟩
theorem dL_550 : dc code 550 551 (.iconst 5) 1 := ⟨dr_at drL_law_387 (i := 113) rfl, rfl⟩
theorem dL_551 : dc code 551 552 .iadd 1 := ⟨dr_at drL_law_387 (i := 114) rfl, rfl⟩
theorem dL_552 : dc code 552 553 .iaload 1 := ⟨dr_at drL_law_387 (i := 115) rfl, rfl⟩
theorem dL_553 : dc code 553 554 (.aload_n 0) 1 := ⟨dr_at drL_law_387 (i := 116) rfl, rfl⟩
theorem dL_554 : dc code 554 556 (.iload 4) 2 := ⟨dr_at drL_law_387 (i := 117) rfl, rfl⟩
theorem dL_556 : dc code 556 558 (.bipush 6) 2 := ⟨dr_at drL_law_387 (i := 118) rfl, rfl⟩
theorem dL_558 : dc code 558 559 .iadd 1 := ⟨dr_at drL_law_387 (i := 119) rfl, rfl⟩
theorem dL_559 : dc code 559 560 .iaload 1 := ⟨dr_at drL_law_387 (i := 120) rfl, rfl⟩
theorem dL_560 : dc code 560 563 (.ifCond .eq 7) 3 := ⟨dr_at drL_law_387 (i := 121) rfl, rfl⟩
theorem dL_563 : dc code 563 564 (.iconst 1) 1 := ⟨dr_at drL_law_387 (i := 122) rfl, rfl⟩
theorem dL_564 : dc code 564 567 (.goto 4) 3 := ⟨dr_at drL_law_387 (i := 123) rfl, rfl⟩
theorem dL_567 : dc code 567 568 (.iconst 0) 1 := ⟨dr_at drL_law_387 (i := 124) rfl, rfl⟩
theorem dL_568 : dc code 568 569 (.aload_n 3) 1 := ⟨dr_at drL_law_387 (i := 125) rfl, rfl⟩
theorem dL_569 : dc code 569 572 (.invokestatic 170) 3 := ⟨dr_at drL_law_387 (i := 126) rfl, rfl⟩
theorem dL_572 : dc code 572 574 (.istore 5) 2 := ⟨dr_at drL_law_387 (i := 127) rfl, rfl⟩
theorem dL_574 : dc code 574 575 (.aload_n 2) 1 := ⟨dr_at drL_law_387 (i := 128) rfl, rfl⟩
theorem dL_575 : dc code 575 576 (.aload_n 0) 1 := ⟨dr_at drL_law_387 (i := 129) rfl, rfl⟩
theorem dL_576 : dc code 576 578 (.iload 4) 2 := ⟨dr_at drL_law_387 (i := 130) rfl, rfl⟩
theorem dL_578 : dc code 578 579 (.iconst 1) 1 := ⟨dr_at drL_law_387 (i := 131) rfl, rfl⟩
theorem dL_579 : dc code 579 580 .iadd 1 := ⟨dr_at drL_law_387 (i := 132) rfl, rfl⟩
theorem dL_580 : dc code 580 581 .iaload 1 := ⟨dr_at drL_law_387 (i := 133) rfl, rfl⟩
theorem dL_581 : dc code 581 582 (.aload_n 0) 1 := ⟨dr_at drL_law_387 (i := 134) rfl, rfl⟩
theorem dL_582 : dc code 582 584 (.iload 4) 2 := ⟨dr_at drL_law_387 (i := 135) rfl, rfl⟩
theorem dL_584 : dc code 584 585 (.iconst 2) 1 := ⟨dr_at drL_law_387 (i := 136) rfl, rfl⟩
theorem dL_585 : dc code 585 586 .iadd 1 := ⟨dr_at drL_law_387 (i := 137) rfl, rfl⟩
theorem dL_586 : dc code 586 587 .iaload 1 := ⟨dr_at drL_law_387 (i := 138) rfl, rfl⟩
theorem dL_587 : dc code 587 588 (.aload_n 0) 1 := ⟨dr_at drL_law_387 (i := 139) rfl, rfl⟩
theorem dL_588 : dc code 588 590 (.iload 4) 2 := ⟨dr_at drL_law_387 (i := 140) rfl, rfl⟩
theorem dL_590 : dc code 590 591 (.iconst 3) 1 := ⟨dr_at drL_law_387 (i := 141) rfl, rfl⟩
theorem dL_591 : dc code 591 592 .iadd 1 := ⟨dr_at drL_law_387 (i := 142) rfl, rfl⟩
theorem dL_592 : dc code 592 593 .iaload 1 := ⟨dr_at drL_law_387 (i := 143) rfl, rfl⟩
theorem dL_593 : dc code 593 594 (.aload_n 0) 1 := ⟨dr_at drL_law_387 (i := 144) rfl, rfl⟩
theorem dL_594 : dc code 594 596 (.iload 4) 2 := ⟨dr_at drL_law_387 (i := 145) rfl, rfl⟩
theorem dL_596 : dc code 596 597 (.iconst 4) 1 := ⟨dr_at drL_law_387 (i := 146) rfl, rfl⟩
theorem dL_597 : dc code 597 598 .iadd 1 := ⟨dr_at drL_law_387 (i := 147) rfl, rfl⟩
theorem dL_598 : dc code 598 599 .iaload 1 := ⟨dr_at drL_law_387 (i := 148) rfl, rfl⟩
theorem dL_599 : dc code 599 600 (.aload_n 0) 1 := ⟨dr_at drL_law_387 (i := 149) rfl, rfl⟩
theorem drL_law_600 : ([(600, (.iload 4), 2), (602, (.iconst 5), 1), (603, .iadd, 1), (604, .iaload, 1), (605, (.aload_n 0), 1), (606, (.iload 4), 2), (608, (.bipush 6), 2), (610, .iadd, 1), (611, .iaload, 1), (612, (.ifCond .eq 7), 3), (615, (.iconst 1), 1), (616, (.goto 4), 3), (619, (.iconst 0), 1), (620, (.invokevirtual 173), 3), (623, (.lstore 6), 2), (625, (.goto 1374), 3), (628, (.aload_n 1), 1), (629, (.aload_n 0), 1), (630, (.iload 4), 2), (632, (.iconst 1), 1), (633, .iadd, 1), (634, .iaload, 1), (635, (.aload_n 0), 1), (636, (.iload 4), 2), (638, (.iconst 2), 1), (639, .iadd, 1), (640, .iaload, 1), (641, (.aload_n 3), 1), (642, (.invokestatic 174), 3), (645, (.istore 5), 2), (647, (.aload_n 2), 1), (648, (.aload_n 0), 1), (649, (.iload 4), 2), (651, (.iconst 1), 1), (652, .iadd, 1), (653, .iaload, 1), (654, (.aload_n 0), 1), (655, (.iload 4), 2), (657, (.iconst 2), 1), (658, .iadd, 1), (659, .iaload, 1), (660, (.invokevirtual 177), 3), (663, (.istore 6), 2), (665, (.goto 1334), 3), (668, (.aload_n 1), 1), (669, (.aload_n 0), 1), (670, (.iload 4), 2), (672, (.iconst 1), 1), (673, .iadd, 1), (674, .iaload, 1), (675, (.aload_n 0), 1), (676, (.iload 4), 2), (678, (.iconst 2), 1), (679, .iadd, 1), (680, .iaload, 1), (681, (.aload_n 3), 1), (682, (.invokestatic 178), 3), (685, (.istore 5), 2), (687, (.aload_n 2), 1), (688, (.aload_n 0), 1), (689, (.iload 4), 2), (691, (.iconst 1), 1), (692, .iadd, 1), (693, .iaload, 1), (694, (.aload_n 0), 1), (695, (.iload 4), 2), (697, (.iconst 2), 1), (698, .iadd, 1), (699, .iaload, 1), (700, (.invokevirtual 180), 3), (703, (.istore 6), 2), (705, (.goto 1294), 3), (708, (.aload_n 1), 1), (709, (.aload_n 0), 1), (710, (.iload 4), 2), (712, (.iconst 1), 1), (713, .iadd, 1), (714, .iaload, 1), (715, (.aload_n 0), 1), (716, (.iload 4), 2), (718, (.iconst 2), 1), (719, .iadd, 1), (720, .iaload, 1), (721, (.aload_n 0), 1), (722, (.iload 4), 2), (724, (.iconst 3), 1), (725, .iadd, 1), (726, .iaload, 1), (727, (.aload_n 3), 1), (728, (.invokestatic 181), 3), (731, (.istore 5), 2), (733, (.aload_n 2), 1), (734, (.aload_n 0), 1), (735, (.iload 4), 2), (737, (.iconst 1), 1), (738, .iadd, 1), (739, .iaload, 1), (740, (.aload_n 0), 1), (741, (.iload 4), 2), (743, (.iconst 2), 1), (744, .iadd, 1), (745, .iaload, 1), (746, (.aload_n 0), 1), (747, (.iload 4), 2), (749, (.iconst 3), 1), (750, .iadd, 1), (751, .iaload, 1), (752, (.invokevirtual 183), 3), (755, (.istore 6), 2), (757, (.goto 1242), 3), (760, (.aload_n 1), 1), (761, (.aload_n 0), 1), (762, (.iload 4), 2), (764, (.iconst 1), 1), (765, .iadd, 1), (766, .iaload, 1), (767, (.aload_n 0), 1), (768, (.iload 4), 2), (770, (.iconst 2), 1), (771, .iadd, 1), (772, .iaload, 1), (773, (.aload_n 0), 1), (774, (.iload 4), 2), (776, (.iconst 3), 1), (777, .iadd, 1), (778, .iaload, 1), (779, (.aload_n 0), 1), (780, (.iload 4), 2), (782, (.iconst 4), 1), (783, .iadd, 1), (784, .iaload, 1), (785, (.ifCond .eq 7), 3), (788, (.iconst 1), 1)] : List (Nat × Instr × Nat)).all (fun q => decide (decode code q.1 = .ok q.2)) = true := by decide +kernel
theorem dL_600 : dc code 600 602 (.iload 4) 2 := ⟨dr_at drL_law_600 (i := 0) rfl, rfl⟩
theorem dL_602 : dc code 602 603 (.iconst 5) 1 := ⟨dr_at drL_law_600 (i := 1) rfl, rfl⟩
theorem dL_603 : dc code 603 604 .iadd 1 := ⟨dr_at drL_law_600 (i := 2) rfl, rfl⟩
theorem dL_604 : dc code 604 605 .iaload 1 := ⟨dr_at drL_law_600 (i := 3) rfl, rfl⟩
theorem dL_605 : dc code 605 606 (.aload_n 0) 1 := ⟨dr_at drL_law_600 (i := 4) rfl, rfl⟩
theorem dL_606 : dc code 606 608 (.iload 4) 2 := ⟨dr_at drL_law_600 (i := 5) rfl, rfl⟩
theorem dL_608 : dc code 608 610 (.bipush 6) 2 := ⟨dr_at drL_law_600 (i := 6) rfl, rfl⟩
theorem dL_610 : dc code 610 611 .iadd 1 := ⟨dr_at drL_law_600 (i := 7) rfl, rfl⟩
theorem dL_611 : dc code 611 612 .iaload 1 := ⟨dr_at drL_law_600 (i := 8) rfl, rfl⟩
theorem dL_612 : dc code 612 615 (.ifCond .eq 7) 3 := ⟨dr_at drL_law_600 (i := 9) rfl, rfl⟩
theorem dL_615 : dc code 615 616 (.iconst 1) 1 := ⟨dr_at drL_law_600 (i := 10) rfl, rfl⟩
theorem dL_616 : dc code 616 619 (.goto 4) 3 := ⟨dr_at drL_law_600 (i := 11) rfl, rfl⟩
theorem dL_619 : dc code 619 620 (.iconst 0) 1 := ⟨dr_at drL_law_600 (i := 12) rfl, rfl⟩
theorem dL_620 : dc code 620 623 (.invokevirtual 173) 3 := ⟨dr_at drL_law_600 (i := 13) rfl, rfl⟩
theorem dL_623 : dc code 623 625 (.lstore 6) 2 := ⟨dr_at drL_law_600 (i := 14) rfl, rfl⟩
theorem dL_625 : dc code 625 628 (.goto 1374) 3 := ⟨dr_at drL_law_600 (i := 15) rfl, rfl⟩
theorem dL_628 : dc code 628 629 (.aload_n 1) 1 := ⟨dr_at drL_law_600 (i := 16) rfl, rfl⟩
theorem dL_629 : dc code 629 630 (.aload_n 0) 1 := ⟨dr_at drL_law_600 (i := 17) rfl, rfl⟩
theorem dL_630 : dc code 630 632 (.iload 4) 2 := ⟨dr_at drL_law_600 (i := 18) rfl, rfl⟩
theorem dL_632 : dc code 632 633 (.iconst 1) 1 := ⟨dr_at drL_law_600 (i := 19) rfl, rfl⟩
theorem dL_633 : dc code 633 634 .iadd 1 := ⟨dr_at drL_law_600 (i := 20) rfl, rfl⟩
theorem dL_634 : dc code 634 635 .iaload 1 := ⟨dr_at drL_law_600 (i := 21) rfl, rfl⟩
theorem dL_635 : dc code 635 636 (.aload_n 0) 1 := ⟨dr_at drL_law_600 (i := 22) rfl, rfl⟩
theorem dL_636 : dc code 636 638 (.iload 4) 2 := ⟨dr_at drL_law_600 (i := 23) rfl, rfl⟩
theorem dL_638 : dc code 638 639 (.iconst 2) 1 := ⟨dr_at drL_law_600 (i := 24) rfl, rfl⟩
theorem dL_639 : dc code 639 640 .iadd 1 := ⟨dr_at drL_law_600 (i := 25) rfl, rfl⟩
theorem dL_640 : dc code 640 641 .iaload 1 := ⟨dr_at drL_law_600 (i := 26) rfl, rfl⟩
theorem dL_641 : dc code 641 642 (.aload_n 3) 1 := ⟨dr_at drL_law_600 (i := 27) rfl, rfl⟩
theorem dL_642 : dc code 642 645 (.invokestatic 174) 3 := ⟨dr_at drL_law_600 (i := 28) rfl, rfl⟩
theorem dL_645 : dc code 645 647 (.istore 5) 2 := ⟨dr_at drL_law_600 (i := 29) rfl, rfl⟩
theorem dL_647 : dc code 647 648 (.aload_n 2) 1 := ⟨dr_at drL_law_600 (i := 30) rfl, rfl⟩
theorem dL_648 : dc code 648 649 (.aload_n 0) 1 := ⟨dr_at drL_law_600 (i := 31) rfl, rfl⟩
theorem dL_649 : dc code 649 651 (.iload 4) 2 := ⟨dr_at drL_law_600 (i := 32) rfl, rfl⟩
theorem dL_651 : dc code 651 652 (.iconst 1) 1 := ⟨dr_at drL_law_600 (i := 33) rfl, rfl⟩
theorem dL_652 : dc code 652 653 .iadd 1 := ⟨dr_at drL_law_600 (i := 34) rfl, rfl⟩
theorem dL_653 : dc code 653 654 .iaload 1 := ⟨dr_at drL_law_600 (i := 35) rfl, rfl⟩
theorem dL_654 : dc code 654 655 (.aload_n 0) 1 := ⟨dr_at drL_law_600 (i := 36) rfl, rfl⟩
theorem dL_655 : dc code 655 657 (.iload 4) 2 := ⟨dr_at drL_law_600 (i := 37) rfl, rfl⟩
theorem dL_657 : dc code 657 658 (.iconst 2) 1 := ⟨dr_at drL_law_600 (i := 38) rfl, rfl⟩
theorem dL_658 : dc code 658 659 .iadd 1 := ⟨dr_at drL_law_600 (i := 39) rfl, rfl⟩
theorem dL_659 : dc code 659 660 .iaload 1 := ⟨dr_at drL_law_600 (i := 40) rfl, rfl⟩
theorem dL_660 : dc code 660 663 (.invokevirtual 177) 3 := ⟨dr_at drL_law_600 (i := 41) rfl, rfl⟩
theorem dL_663 : dc code 663 665 (.istore 6) 2 := ⟨dr_at drL_law_600 (i := 42) rfl, rfl⟩
theorem dL_665 : dc code 665 668 (.goto 1334) 3 := ⟨dr_at drL_law_600 (i := 43) rfl, rfl⟩
theorem dL_668 : dc code 668 669 (.aload_n 1) 1 := ⟨dr_at drL_law_600 (i := 44) rfl, rfl⟩
theorem dL_669 : dc code 669 670 (.aload_n 0) 1 := ⟨dr_at drL_law_600 (i := 45) rfl, rfl⟩
theorem dL_670 : dc code 670 672 (.iload 4) 2 := ⟨dr_at drL_law_600 (i := 46) rfl, rfl⟩
theorem dL_672 : dc code 672 673 (.iconst 1) 1 := ⟨dr_at drL_law_600 (i := 47) rfl, rfl⟩
theorem dL_673 : dc code 673 674 .iadd 1 := ⟨dr_at drL_law_600 (i := 48) rfl, rfl⟩
theorem dL_674 : dc code 674 675 .iaload 1 := ⟨dr_at drL_law_600 (i := 49) rfl, rfl⟩
theorem dL_675 : dc code 675 676 (.aload_n 0) 1 := ⟨dr_at drL_law_600 (i := 50) rfl, rfl⟩
theorem dL_676 : dc code 676 678 (.iload 4) 2 := ⟨dr_at drL_law_600 (i := 51) rfl, rfl⟩
theorem dL_678 : dc code 678 679 (.iconst 2) 1 := ⟨dr_at drL_law_600 (i := 52) rfl, rfl⟩
theorem dL_679 : dc code 679 680 .iadd 1 := ⟨dr_at drL_law_600 (i := 53) rfl, rfl⟩
theorem dL_680 : dc code 680 681 .iaload 1 := ⟨dr_at drL_law_600 (i := 54) rfl, rfl⟩
theorem dL_681 : dc code 681 682 (.aload_n 3) 1 := ⟨dr_at drL_law_600 (i := 55) rfl, rfl⟩
theorem dL_682 : dc code 682 685 (.invokestatic 178) 3 := ⟨dr_at drL_law_600 (i := 56) rfl, rfl⟩
theorem dL_685 : dc code 685 687 (.istore 5) 2 := ⟨dr_at drL_law_600 (i := 57) rfl, rfl⟩
theorem dL_687 : dc code 687 688 (.aload_n 2) 1 := ⟨dr_at drL_law_600 (i := 58) rfl, rfl⟩
theorem dL_688 : dc code 688 689 (.aload_n 0) 1 := ⟨dr_at drL_law_600 (i := 59) rfl, rfl⟩
theorem dL_689 : dc code 689 691 (.iload 4) 2 := ⟨dr_at drL_law_600 (i := 60) rfl, rfl⟩
theorem dL_691 : dc code 691 692 (.iconst 1) 1 := ⟨dr_at drL_law_600 (i := 61) rfl, rfl⟩
theorem dL_692 : dc code 692 693 .iadd 1 := ⟨dr_at drL_law_600 (i := 62) rfl, rfl⟩
theorem dL_693 : dc code 693 694 .iaload 1 := ⟨dr_at drL_law_600 (i := 63) rfl, rfl⟩
theorem dL_694 : dc code 694 695 (.aload_n 0) 1 := ⟨dr_at drL_law_600 (i := 64) rfl, rfl⟩
theorem dL_695 : dc code 695 697 (.iload 4) 2 := ⟨dr_at drL_law_600 (i := 65) rfl, rfl⟩
theorem dL_697 : dc code 697 698 (.iconst 2) 1 := ⟨dr_at drL_law_600 (i := 66) rfl, rfl⟩
theorem dL_698 : dc code 698 699 .iadd 1 := ⟨dr_at drL_law_600 (i := 67) rfl, rfl⟩
theorem dL_699 : dc code 699 700 .iaload 1 := ⟨dr_at drL_law_600 (i := 68) rfl, rfl⟩
theorem dL_700 : dc code 700 703 (.invokevirtual 180) 3 := ⟨dr_at drL_law_600 (i := 69) rfl, rfl⟩
theorem dL_703 : dc code 703 705 (.istore 6) 2 := ⟨dr_at drL_law_600 (i := 70) rfl, rfl⟩
theorem dL_705 : dc code 705 708 (.goto 1294) 3 := ⟨dr_at drL_law_600 (i := 71) rfl, rfl⟩
theorem dL_708 : dc code 708 709 (.aload_n 1) 1 := ⟨dr_at drL_law_600 (i := 72) rfl, rfl⟩
theorem dL_709 : dc code 709 710 (.aload_n 0) 1 := ⟨dr_at drL_law_600 (i := 73) rfl, rfl⟩
theorem dL_710 : dc code 710 712 (.iload 4) 2 := ⟨dr_at drL_law_600 (i := 74) rfl, rfl⟩
theorem dL_712 : dc code 712 713 (.iconst 1) 1 := ⟨dr_at drL_law_600 (i := 75) rfl, rfl⟩
theorem dL_713 : dc code 713 714 .iadd 1 := ⟨dr_at drL_law_600 (i := 76) rfl, rfl⟩
theorem dL_714 : dc code 714 715 .iaload 1 := ⟨dr_at drL_law_600 (i := 77) rfl, rfl⟩
theorem dL_715 : dc code 715 716 (.aload_n 0) 1 := ⟨dr_at drL_law_600 (i := 78) rfl, rfl⟩
theorem dL_716 : dc code 716 718 (.iload 4) 2 := ⟨dr_at drL_law_600 (i := 79) rfl, rfl⟩
theorem dL_718 : dc code 718 719 (.iconst 2) 1 := ⟨dr_at drL_law_600 (i := 80) rfl, rfl⟩
theorem dL_719 : dc code 719 720 .iadd 1 := ⟨dr_at drL_law_600 (i := 81) rfl, rfl⟩
theorem dL_720 : dc code 720 721 .iaload 1 := ⟨dr_at drL_law_600 (i := 82) rfl, rfl⟩
theorem dL_721 : dc code 721 722 (.aload_n 0) 1 := ⟨dr_at drL_law_600 (i := 83) rfl, rfl⟩
theorem dL_722 : dc code 722 724 (.iload 4) 2 := ⟨dr_at drL_law_600 (i := 84) rfl, rfl⟩
theorem dL_724 : dc code 724 725 (.iconst 3) 1 := ⟨dr_at drL_law_600 (i := 85) rfl, rfl⟩
theorem dL_725 : dc code 725 726 .iadd 1 := ⟨dr_at drL_law_600 (i := 86) rfl, rfl⟩
theorem dL_726 : dc code 726 727 .iaload 1 := ⟨dr_at drL_law_600 (i := 87) rfl, rfl⟩
theorem dL_727 : dc code 727 728 (.aload_n 3) 1 := ⟨dr_at drL_law_600 (i := 88) rfl, rfl⟩
theorem dL_728 : dc code 728 731 (.invokestatic 181) 3 := ⟨dr_at drL_law_600 (i := 89) rfl, rfl⟩
theorem dL_731 : dc code 731 733 (.istore 5) 2 := ⟨dr_at drL_law_600 (i := 90) rfl, rfl⟩
theorem dL_733 : dc code 733 734 (.aload_n 2) 1 := ⟨dr_at drL_law_600 (i := 91) rfl, rfl⟩
theorem dL_734 : dc code 734 735 (.aload_n 0) 1 := ⟨dr_at drL_law_600 (i := 92) rfl, rfl⟩
theorem dL_735 : dc code 735 737 (.iload 4) 2 := ⟨dr_at drL_law_600 (i := 93) rfl, rfl⟩
theorem dL_737 : dc code 737 738 (.iconst 1) 1 := ⟨dr_at drL_law_600 (i := 94) rfl, rfl⟩
theorem dL_738 : dc code 738 739 .iadd 1 := ⟨dr_at drL_law_600 (i := 95) rfl, rfl⟩
theorem dL_739 : dc code 739 740 .iaload 1 := ⟨dr_at drL_law_600 (i := 96) rfl, rfl⟩
theorem dL_740 : dc code 740 741 (.aload_n 0) 1 := ⟨dr_at drL_law_600 (i := 97) rfl, rfl⟩
theorem dL_741 : dc code 741 743 (.iload 4) 2 := ⟨dr_at drL_law_600 (i := 98) rfl, rfl⟩
theorem dL_743 : dc code 743 744 (.iconst 2) 1 := ⟨dr_at drL_law_600 (i := 99) rfl, rfl⟩
theorem dL_744 : dc code 744 745 .iadd 1 := ⟨dr_at drL_law_600 (i := 100) rfl, rfl⟩
theorem dL_745 : dc code 745 746 .iaload 1 := ⟨dr_at drL_law_600 (i := 101) rfl, rfl⟩
theorem dL_746 : dc code 746 747 (.aload_n 0) 1 := ⟨dr_at drL_law_600 (i := 102) rfl, rfl⟩
theorem dL_747 : dc code 747 749 (.iload 4) 2 := ⟨dr_at drL_law_600 (i := 103) rfl, rfl⟩
theorem dL_749 : dc code 749 750 (.iconst 3) 1 := ⟨dr_at drL_law_600 (i := 104) rfl, rfl⟩
theorem dL_750 : dc code 750 751 .iadd 1 := ⟨dr_at drL_law_600 (i := 105) rfl, rfl⟩
theorem dL_751 : dc code 751 752 .iaload 1 := ⟨dr_at drL_law_600 (i := 106) rfl, rfl⟩
theorem dL_752 : dc code 752 755 (.invokevirtual 183) 3 := ⟨dr_at drL_law_600 (i := 107) rfl, rfl⟩
theorem dL_755 : dc code 755 757 (.istore 6) 2 := ⟨dr_at drL_law_600 (i := 108) rfl, rfl⟩
theorem dL_757 : dc code 757 760 (.goto 1242) 3 := ⟨dr_at drL_law_600 (i := 109) rfl, rfl⟩
theorem dL_760 : dc code 760 761 (.aload_n 1) 1 := ⟨dr_at drL_law_600 (i := 110) rfl, rfl⟩
theorem dL_761 : dc code 761 762 (.aload_n 0) 1 := ⟨dr_at drL_law_600 (i := 111) rfl, rfl⟩
theorem dL_762 : dc code 762 764 (.iload 4) 2 := ⟨dr_at drL_law_600 (i := 112) rfl, rfl⟩
theorem dL_764 : dc code 764 765 (.iconst 1) 1 := ⟨dr_at drL_law_600 (i := 113) rfl, rfl⟩
theorem dL_765 : dc code 765 766 .iadd 1 := ⟨dr_at drL_law_600 (i := 114) rfl, rfl⟩
theorem dL_766 : dc code 766 767 .iaload 1 := ⟨dr_at drL_law_600 (i := 115) rfl, rfl⟩
theorem dL_767 : dc code 767 768 (.aload_n 0) 1 := ⟨dr_at drL_law_600 (i := 116) rfl, rfl⟩
theorem dL_768 : dc code 768 770 (.iload 4) 2 := ⟨dr_at drL_law_600 (i := 117) rfl, rfl⟩
theorem dL_770 : dc code 770 771 (.iconst 2) 1 := ⟨dr_at drL_law_600 (i := 118) rfl, rfl⟩
theorem dL_771 : dc code 771 772 .iadd 1 := ⟨dr_at drL_law_600 (i := 119) rfl, rfl⟩
theorem dL_772 : dc code 772 773 .iaload 1 := ⟨dr_at drL_law_600 (i := 120) rfl, rfl⟩
theorem dL_773 : dc code 773 774 (.aload_n 0) 1 := ⟨dr_at drL_law_600 (i := 121) rfl, rfl⟩
theorem dL_774 : dc code 774 776 (.iload 4) 2 := ⟨dr_at drL_law_600 (i := 122) rfl, rfl⟩
theorem dL_776 : dc code 776 777 (.iconst 3) 1 := ⟨dr_at drL_law_600 (i := 123) rfl, rfl⟩
theorem dL_777 : dc code 777 778 .iadd 1 := ⟨dr_at drL_law_600 (i := 124) rfl, rfl⟩
theorem dL_778 : dc code 778 779 .iaload 1 := ⟨dr_at drL_law_600 (i := 125) rfl, rfl⟩
theorem dL_779 : dc code 779 780 (.aload_n 0) 1 := ⟨dr_at drL_law_600 (i := 126) rfl, rfl⟩
theorem dL_780 : dc code 780 782 (.iload 4) 2 := ⟨dr_at drL_law_600 (i := 127) rfl, rfl⟩
theorem dL_782 : dc code 782 783 (.iconst 4) 1 := ⟨dr_at drL_law_600 (i := 128) rfl, rfl⟩
theorem dL_783 : dc code 783 784 .iadd 1 := ⟨dr_at drL_law_600 (i := 129) rfl, rfl⟩
theorem dL_784 : dc code 784 785 .iaload 1 := ⟨dr_at drL_law_600 (i := 130) rfl, rfl⟩
theorem dL_785 : dc code 785 788 (.ifCond .eq 7) 3 := ⟨dr_at drL_law_600 (i := 131) rfl, rfl⟩
theorem dL_788 : dc code 788 789 (.iconst 1) 1 := ⟨dr_at drL_law_600 (i := 132) rfl, rfl⟩
