theorem drL_law_0 : ([(0, (.new 8), 3), (3, .dup, 1), (4, (.invokespecial 132), 3), (7, (.astore_n 1), 1), (8, (.new 133), 3), (11, .dup, 1), (12, (.invokespecial 135), 3), (15, (.astore_n 2), 1), (16, (.iconst 1), 1), (17, (.newarray .long), 2), (19, (.astore_n 3), 1), (20, (.iconst 0), 1), (21, (.istore 4), 2), (23, (.iload 4), 2), (25, (.aload_n 0), 1), (26, .arraylength, 1), (27, (.bipush 7), 2), (29, .isub, 1), (30, (.if_icmp .gt 1958), 3), (33, (.aload_n 0), 1), (34, (.iload 4), 2), (36, .iaload, 1), (37, (.bipush 63), 2), (39, .iand, 1), (40, (.tableswitch 1942 0 40 #[180, 253, 278, 303, 375, 412, 428, 441, 493, 599, 639, 679, 731, 811, 867, 923, 936, 989, 1069, 1133, 1185, 1198, 1235, 1343, 1359, 1399, 1427, 1503, 1540, 1565, 1605, 1633, 1661, 1689, 1729, 1769, 1809, 1865, 1893, 1904, 1917]), 180), (220, (.aload_n 1), 1), (221, (.aload_n 0), 1), (222, (.iload 4), 2), (224, (.iconst 1), 1), (225, .iadd, 1), (226, .iaload, 1), (227, (.aload_n 0), 1), (228, (.iload 4), 2), (230, (.iconst 2), 1), (231, .iadd, 1), (232, .iaload, 1), (233, (.aload_n 0), 1), (234, (.iload 4), 2), (236, (.iconst 3), 1), (237, .iadd, 1), (238, .iaload, 1), (239, (.aload_n 0), 1), (240, (.iload 4), 2), (242, (.iconst 4), 1), (243, .iadd, 1), (244, .iaload, 1), (245, (.aload_n 0), 1), (246, (.iload 4), 2), (248, (.iconst 5), 1), (249, .iadd, 1), (250, .iaload, 1), (251, (.invokevirtual 136), 3), (254, .pop, 1), (255, (.aload_n 2), 1), (256, (.aload_n 0), 1), (257, (.iload 4), 2), (259, (.iconst 1), 1), (260, .iadd, 1), (261, .iaload, 1), (262, (.aload_n 0), 1), (263, (.iload 4), 2), (265, (.iconst 2), 1), (266, .iadd, 1), (267, .iaload, 1), (268, (.aload_n 0), 1), (269, (.iload 4), 2), (271, (.iconst 3), 1), (272, .iadd, 1), (273, .iaload, 1), (274, (.aload_n 0), 1), (275, (.iload 4), 2), (277, (.iconst 4), 1), (278, .iadd, 1), (279, .iaload, 1), (280, (.aload_n 0), 1), (281, (.iload 4), 2), (283, (.iconst 5), 1), (284, .iadd, 1), (285, .iaload, 1), (286, (.invokevirtual 139), 3), (289, .pop, 1), (290, (.goto 1692), 3), (293, (.aload_n 1), 1), (294, (.aload_n 0), 1), (295, (.iload 4), 2), (297, (.iconst 1), 1), (298, .iadd, 1), (299, .iaload, 1), (300, (.invokevirtual 140), 3), (303, .pop, 1), (304, (.aload_n 2), 1), (305, (.aload_n 0), 1), (306, (.iload 4), 2), (308, (.iconst 1), 1), (309, .iadd, 1), (310, .iaload, 1), (311, (.invokevirtual 143), 3), (314, .pop, 1), (315, (.goto 1667), 3), (318, (.aload_n 1), 1), (319, (.aload_n 0), 1), (320, (.iload 4), 2), (322, (.iconst 1), 1), (323, .iadd, 1), (324, .iaload, 1), (325, (.invokestatic 144), 3), (328, (.istore 5), 2), (330, (.aload_n 2), 1), (331, (.aload_n 0), 1), (332, (.iload 4), 2), (334, (.iconst 1), 1), (335, .iadd, 1), (336, .iaload, 1), (337, (.invokevirtual 149), 3), (340, (.goto 1642), 3), (343, (.aload_n 1), 1), (344, (.aload_n 0), 1), (345, (.iload 4), 2), (347, (.iconst 1), 1), (348, .iadd, 1), (349, .iaload, 1), (350, (.aload_n 0), 1), (351, (.iload 4), 2), (353, (.iconst 2), 1), (354, .iadd, 1), (355, .iaload, 1), (356, (.aload_n 0), 1), (357, (.iload 4), 2), (359, (.iconst 3), 1), (360, .iadd, 1), (361, .iaload, 1), (362, (.aload_n 0), 1), (363, (.iload 4), 2), (365, (.iconst 4), 1), (366, .iadd, 1), (367, .iaload, 1), (368, (.invokestatic 150), 3), (371, (.istore 5), 2), (373, (.aload_n 2), 1), (374, (.aload_n 0), 1), (375, (.iload 4), 2), (377, (.iconst 1), 1), (378, .iadd, 1), (379, .iaload, 1), (380, (.aload_n 0), 1), (381, (.iload 4), 2), (383, (.iconst 2), 1), (384, .iadd, 1), (385, .iaload, 1), (386, (.aload_n 0), 1)] : List (Nat × Instr × Nat)).all (fun q => decide (decode code q.1 = .ok q.2)) = true := by decide +kernel
theorem dL_0 : dc code 0 3 (.new 8) 3 := ⟨dr_at drL_law_0 (i := 0) rfl, rfl⟩
theorem dL_3 : dc code 3 4 .dup 1 := ⟨dr_at drL_law_0 (i := 1) rfl, rfl⟩
theorem dL_4 : dc code 4 7 (.invokespecial 132) 3 := ⟨dr_at drL_law_0 (i := 2) rfl, rfl⟩
theorem dL_7 : dc code 7 8 (.astore_n 1) 1 := ⟨dr_at drL_law_0 (i := 3) rfl, rfl⟩
theorem dL_8 : dc code 8 11 (.new 133) 3 := ⟨dr_at drL_law_0 (i := 4) rfl, rfl⟩
theorem dL_11 : dc code 11 12 .dup 1 := ⟨dr_at drL_law_0 (i := 5) rfl, rfl⟩
theorem dL_12 : dc code 12 15 (.invokespecial 135) 3 := ⟨dr_at drL_law_0 (i := 6) rfl, rfl⟩
theorem dL_15 : dc code 15 16 (.astore_n 2) 1 := ⟨dr_at drL_law_0 (i := 7) rfl, rfl⟩
theorem dL_16 : dc code 16 17 (.iconst 1) 1 := ⟨dr_at drL_law_0 (i := 8) rfl, rfl⟩
theorem dL_17 : dc code 17 19 (.newarray .long) 2 := ⟨dr_at drL_law_0 (i := 9) rfl, rfl⟩
theorem dL_19 : dc code 19 20 (.astore_n 3) 1 := ⟨dr_at drL_law_0 (i := 10) rfl, rfl⟩
theorem dL_20 : dc code 20 21 (.iconst 0) 1 := ⟨dr_at drL_law_0 (i := 11) rfl, rfl⟩
theorem dL_21 : dc code 21 23 (.istore 4) 2 := ⟨dr_at drL_law_0 (i := 12) rfl, rfl⟩
theorem dL_23 : dc code 23 25 (.iload 4) 2 := ⟨dr_at drL_law_0 (i := 13) rfl, rfl⟩
theorem dL_25 : dc code 25 26 (.aload_n 0) 1 := ⟨dr_at drL_law_0 (i := 14) rfl, rfl⟩
theorem dL_26 : dc code 26 27 .arraylength 1 := ⟨dr_at drL_law_0 (i := 15) rfl, rfl⟩
theorem dL_27 : dc code 27 29 (.bipush 7) 2 := ⟨dr_at drL_law_0 (i := 16) rfl, rfl⟩
theorem dL_29 : dc code 29 30 .isub 1 := ⟨dr_at drL_law_0 (i := 17) rfl, rfl⟩
theorem dL_30 : dc code 30 33 (.if_icmp .gt 1958) 3 := ⟨dr_at drL_law_0 (i := 18) rfl, rfl⟩
theorem dL_33 : dc code 33 34 (.aload_n 0) 1 := ⟨dr_at drL_law_0 (i := 19) rfl, rfl⟩
theorem dL_34 : dc code 34 36 (.iload 4) 2 := ⟨dr_at drL_law_0 (i := 20) rfl, rfl⟩
theorem dL_36 : dc code 36 37 .iaload 1 := ⟨dr_at drL_law_0 (i := 21) rfl, rfl⟩
theorem dL_37 : dc code 37 39 (.bipush 63) 2 := ⟨dr_at drL_law_0 (i := 22) rfl, rfl⟩
theorem dL_39 : dc code 39 40 .iand 1 := ⟨dr_at drL_law_0 (i := 23) rfl, rfl⟩
theorem dL_40 : dc code 40 220 (.tableswitch 1942 0 40 #[180, 253, 278, 303, 375, 412, 428, 441, 493, 599, 639, 679, 731, 811, 867, 923, 936, 989, 1069, 1133, 1185, 1198, 1235, 1343, 1359, 1399, 1427, 1503, 1540, 1565, 1605, 1633, 1661, 1689, 1729, 1769, 1809, 1865, 1893, 1904, 1917]) 180 := ⟨dr_at drL_law_0 (i := 24) rfl, rfl⟩
theorem dL_220 : dc code 220 221 (.aload_n 1) 1 := ⟨dr_at drL_law_0 (i := 25) rfl, rfl⟩
theorem dL_221 : dc code 221 222 (.aload_n 0) 1 := ⟨dr_at drL_law_0 (i := 26) rfl, rfl⟩
theorem dL_222 : dc code 222 224 (.iload 4) 2 := ⟨dr_at drL_law_0 (i := 27) rfl, rfl⟩
theorem dL_224 : dc code 224 225 (.iconst 1) 1 := ⟨dr_at drL_law_0 (i := 28) rfl, rfl⟩
theorem dL_225 : dc code 225 226 .iadd 1 := ⟨dr_at drL_law_0 (i := 29) rfl, rfl⟩
theorem dL_226 : dc code 226 227 .iaload 1 := ⟨dr_at drL_law_0 (i := 30) rfl, rfl⟩
theorem dL_227 : dc code 227 228 (.aload_n 0) 1 := ⟨dr_at drL_law_0 (i := 31) rfl, rfl⟩
theorem dL_228 : dc code 228 230 (.iload 4) 2 := ⟨dr_at drL_law_0 (i := 32) rfl, rfl⟩
theorem dL_230 : dc code 230 231 (.iconst 2) 1 := ⟨dr_at drL_law_0 (i := 33) rfl, rfl⟩
theorem dL_231 : dc code 231 232 .iadd 1 := ⟨dr_at drL_law_0 (i := 34) rfl, rfl⟩
theorem dL_232 : dc code 232 233 .iaload 1 := ⟨dr_at drL_law_0 (i := 35) rfl, rfl⟩
theorem dL_233 : dc code 233 234 (.aload_n 0) 1 := ⟨dr_at drL_law_0 (i := 36) rfl, rfl⟩
theorem dL_234 : dc code 234 236 (.iload 4) 2 := ⟨dr_at drL_law_0 (i := 37) rfl, rfl⟩
theorem dL_236 : dc code 236 237 (.iconst 3) 1 := ⟨dr_at drL_law_0 (i := 38) rfl, rfl⟩
theorem dL_237 : dc code 237 238 .iadd 1 := ⟨dr_at drL_law_0 (i := 39) rfl, rfl⟩
theorem dL_238 : dc code 238 239 .iaload 1 := ⟨dr_at drL_law_0 (i := 40) rfl, rfl⟩
theorem dL_239 : dc code 239 240 (.aload_n 0) 1 := ⟨dr_at drL_law_0 (i := 41) rfl, rfl⟩
theorem dL_240 : dc code 240 242 (.iload 4) 2 := ⟨dr_at drL_law_0 (i := 42) rfl, rfl⟩
theorem dL_242 : dc code 242 243 (.iconst 4) 1 := ⟨dr_at drL_law_0 (i := 43) rfl, rfl⟩
theorem dL_243 : dc code 243 244 .iadd 1 := ⟨dr_at drL_law_0 (i := 44) rfl, rfl⟩
theorem dL_244 : dc code 244 245 .iaload 1 := ⟨dr_at drL_law_0 (i := 45) rfl, rfl⟩
theorem dL_245 : dc code 245 246 (.aload_n 0) 1 := ⟨dr_at drL_law_0 (i := 46) rfl, rfl⟩
theorem dL_246 : dc code 246 248 (.iload 4) 2 := ⟨dr_at drL_law_0 (i := 47) rfl, rfl⟩
theorem dL_248 : dc code 248 249 (.iconst 5) 1 := ⟨dr_at drL_law_0 (i := 48) rfl, rfl⟩
theorem dL_249 : dc code 249 250 .iadd 1 := ⟨dr_at drL_law_0 (i := 49) rfl, rfl⟩
theorem dL_250 : dc code 250 251 .iaload 1 := ⟨dr_at drL_law_0 (i := 50) rfl, rfl⟩
theorem dL_251 : dc code 251 254 (.invokevirtual 136) 3 := ⟨dr_at drL_law_0 (i := 51) rfl, rfl⟩
theorem dL_254 : dc code 254 255 .pop 1 := ⟨dr_at drL_law_0 (i := 52) rfl, rfl⟩
theorem dL_255 : dc code 255 256 (.aload_n 2) 1 := ⟨dr_at drL_law_0 (i := 53) rfl, rfl⟩
theorem dL_256 : dc code 256 257 (.aload_n 0) 1 := ⟨dr_at drL_law_0 (i := 54) rfl, rfl⟩
theorem dL_257 : dc code 257 259 (.iload 4) 2 := ⟨dr_at drL_law_0 (i := 55) rfl, rfl⟩
theorem dL_259 : dc code 259 260 (.iconst 1) 1 := ⟨dr_at drL_law_0 (i := 56) rfl, rfl⟩
theorem dL_260 : dc code 260 261 .iadd 1 := ⟨dr_at drL_law_0 (i := 57) rfl, rfl⟩
theorem dL_261 : dc code 261 262 .iaload 1 := ⟨dr_at drL_law_0 (i := 58) rfl, rfl⟩
theorem dL_262 : dc code 262 263 (.aload_n 0) 1 := ⟨dr_at drL_law_0 (i := 59) rfl, rfl⟩
theorem dL_263 : dc code 263 265 (.iload 4) 2 := ⟨dr_at drL_law_0 (i := 60) rfl, rfl⟩
theorem dL_265 : dc code 265 266 (.iconst 2) 1 := ⟨dr_at drL_law_0 (i := 61) rfl, rfl⟩
theorem dL_266 : dc code 266 267 .iadd 1 := ⟨dr_at drL_law_0 (i := 62) rfl, rfl⟩
theorem dL_267 : dc code 267 268 .iaload 1 := ⟨dr_at drL_law_0 (i := 63) rfl, rfl⟩
theorem dL_268 : dc code 268 269 (.aload_n 0) 1 := ⟨dr_at drL_law_0 (i := 64) rfl, rfl⟩
theorem dL_269 : dc code 269 271 (.iload 4) 2 := ⟨dr_at drL_law_0 (i := 65) rfl, rfl⟩
theorem dL_271 : dc code 271 272 (.iconst 3) 1 := ⟨dr_at drL_law_0 (i := 66) rfl, rfl⟩
theorem dL_272 : dc code 272 273 .iadd 1 := ⟨dr_at drL_law_0 (i := 67) rfl, rfl⟩
theorem dL_273 : dc code 273 274 .iaload 1 := ⟨dr_at drL_law_0 (i := 68) rfl, rfl⟩
theorem dL_274 : dc code 274 275 (.aload_n 0) 1 := ⟨dr_at drL_law_0 (i := 69) rfl, rfl⟩
theorem dL_275 : dc code 275 277 (.iload 4) 2 := ⟨dr_at drL_law_0 (i := 70) rfl, rfl⟩
theorem dL_277 : dc code 277 278 (.iconst 4) 1 := ⟨dr_at drL_law_0 (i := 71) rfl, rfl⟩
theorem dL_278 : dc code 278 279 .iadd 1 := ⟨dr_at drL_law_0 (i := 72) rfl, rfl⟩
theorem dL_279 : dc code 279 280 .iaload 1 := ⟨dr_at drL_law_0 (i := 73) rfl, rfl⟩
theorem dL_280 : dc code 280 281 (.aload_n 0) 1 := ⟨dr_at drL_law_0 (i := 74) rfl, rfl⟩
theorem dL_281 : dc code 281 283 (.iload 4) 2 := ⟨dr_at drL_law_0 (i := 75) rfl, rfl⟩
theorem dL_283 : dc code 283 284 (.iconst 5) 1 := ⟨dr_at drL_law_0 (i := 76) rfl, rfl⟩
theorem dL_284 : dc code 284 285 .iadd 1 := ⟨dr_at drL_law_0 (i := 77) rfl, rfl⟩
theorem dL_285 : dc code 285 286 .iaload 1 := ⟨dr_at drL_law_0 (i := 78) rfl, rfl⟩
theorem dL_286 : dc code 286 289 (.invokevirtual 139) 3 := ⟨dr_at drL_law_0 (i := 79) rfl, rfl⟩
theorem dL_289 : dc code 289 290 .pop 1 := ⟨dr_at drL_law_0 (i := 80) rfl, rfl⟩
theorem dL_290 : dc code 290 293 (.goto 1692) 3 := ⟨dr_at drL_law_0 (i := 81) rfl, rfl⟩
theorem dL_293 : dc code 293 294 (.aload_n 1) 1 := ⟨dr_at drL_law_0 (i := 82) rfl, rfl⟩
theorem dL_294 : dc code 294 295 (.aload_n 0) 1 := ⟨dr_at drL_law_0 (i := 83) rfl, rfl⟩
theorem dL_295 : dc code 295 297 (.iload 4) 2 := ⟨dr_at drL_law_0 (i := 84) rfl, rfl⟩
theorem dL_297 : dc code 297 298 (.iconst 1) 1 := ⟨dr_at drL_law_0 (i := 85) rfl, rfl⟩
theorem dL_298 : dc code 298 299 .iadd 1 := ⟨dr_at drL_law_0 (i := 86) rfl, rfl⟩
theorem dL_299 : dc code 299 300 .iaload 1 := ⟨dr_at drL_law_0 (i := 87) rfl, rfl⟩
theorem dL_300 : dc code 300 303 (.invokevirtual 140) 3 := ⟨dr_at drL_law_0 (i := 88) rfl, rfl⟩
theorem dL_303 : dc code 303 304 .pop 1 := ⟨dr_at drL_law_0 (i := 89) rfl, rfl⟩
theorem dL_304 : dc code 304 305 (.aload_n 2) 1 := ⟨dr_at drL_law_0 (i := 90) rfl, rfl⟩
theorem dL_305 : dc code 305 306 (.aload_n 0) 1 := ⟨dr_at drL_law_0 (i := 91) rfl, rfl⟩
theorem dL_306 : dc code 306 308 (.iload 4) 2 := ⟨dr_at drL_law_0 (i := 92) rfl, rfl⟩
theorem dL_308 : dc code 308 309 (.iconst 1) 1 := ⟨dr_at drL_law_0 (i := 93) rfl, rfl⟩
theorem dL_309 : dc code 309 310 .iadd 1 := ⟨dr_at drL_law_0 (i := 94) rfl, rfl⟩
theorem dL_310 : dc code 310 311 .iaload 1 := ⟨dr_at drL_law_0 (i := 95) rfl, rfl⟩
theorem dL_311 : dc code 311 314 (.invokevirtual 143) 3 := ⟨dr_at drL_law_0 (i := 96) rfl, rfl⟩
theorem dL_314 : dc code 314 315 .pop 1 := ⟨dr_at drL_law_0 (i := 97) rfl, rfl⟩
theorem dL_315 : dc code 315 318 (.goto 1667) 3 := ⟨dr_at drL_law_0 (i := 98) rfl, rfl⟩
theorem dL_318 : dc code 318 319 (.aload_n 1) 1 := ⟨dr_at drL_law_0 (i := 99) rfl, rfl⟩
theorem dL_319 : dc code 319 320 (.aload_n 0) 1 := ⟨dr_at drL_law_0 (i := 100) rfl, rfl⟩
theorem dL_320 : dc code 320 322 (.iload 4) 2 := ⟨dr_at drL_law_0 (i := 101) rfl, rfl⟩
theorem dL_322 : dc code 322 323 (.iconst 1) 1 := ⟨dr_at drL_law_0 (i := 102) rfl, rfl⟩
theorem dL_323 : dc code 323 324 .iadd 1 := ⟨dr_at drL_law_0 (i := 103) rfl, rfl⟩
theorem dL_324 : dc code 324 325 .iaload 1 := ⟨dr_at drL_law_0 (i := 104) rfl, rfl⟩
theorem dL_325 : dc code 325 328 (.invokestatic 144) 3 := ⟨dr_at drL_law_0 (i := 105) rfl, rfl⟩
theorem dL_328 : dc code 328 330 (.istore 5) 2 := ⟨dr_at drL_law_0 (i := 106) rfl, rfl⟩
theorem dL_330 : dc code 330 331 (.aload_n 2) 1 := ⟨dr_at drL_law_0 (i := 107) rfl, rfl⟩
theorem dL_331 : dc code 331 332 (.aload_n 0) 1 := ⟨dr_at drL_law_0 (i := 108) rfl, rfl⟩
theorem dL_332 : dc code 332 334 (.iload 4) 2 := ⟨dr_at drL_law_0 (i := 109) rfl, rfl⟩
theorem dL_334 : dc code 334 335 (.iconst 1) 1 := ⟨dr_at drL_law_0 (i := 110) rfl, rfl⟩
theorem dL_335 : dc code 335 336 .iadd 1 := ⟨dr_at drL_law_0 (i := 111) rfl, rfl⟩
theorem dL_336 : dc code 336 337 .iaload 1 := ⟨dr_at drL_law_0 (i := 112) rfl, rfl⟩
theorem dL_337 : dc code 337 340 (.invokevirtual 149) 3 := ⟨dr_at drL_law_0 (i := 113) rfl, rfl⟩
theorem dL_340 : dc code 340 343 (.goto 1642) 3 := ⟨dr_at drL_law_0 (i := 114) rfl, rfl⟩
theorem dL_343 : dc code 343 344 (.aload_n 1) 1 := ⟨dr_at drL_law_0 (i := 115) rfl, rfl⟩
theorem dL_344 : dc code 344 345 (.aload_n 0) 1 := ⟨dr_at drL_law_0 (i := 116) rfl, rfl⟩
theorem dL_345 : dc code 345 347 (.iload 4) 2 := ⟨dr_at drL_law_0 (i := 117) rfl, rfl⟩
theorem dL_347 : dc code 347 348 (.iconst 1) 1 := ⟨dr_at drL_law_0 (i := 118) rfl, rfl⟩
theorem dL_348 : dc code 348 349 .iadd 1 := ⟨dr_at drL_law_0 (i := 119) rfl, rfl⟩
theorem dL_349 : dc code 349 350 .iaload 1 := ⟨dr_at drL_law_0 (i := 120) rfl, rfl⟩
theorem dL_350 : dc code 350 351 (.aload_n 0) 1 := ⟨dr_at drL_law_0 (i := 121) rfl, rfl⟩
theorem dL_351 : dc code 351 353 (.iload 4) 2 := ⟨dr_at drL_law_0 (i := 122) rfl, rfl⟩
theorem dL_353 : dc code 353 354 (.iconst 2) 1 := ⟨dr_at drL_law_0 (i := 123) rfl, rfl⟩
theorem dL_354 : dc code 354 355 .iadd 1 := ⟨dr_at drL_law_0 (i := 124) rfl, rfl⟩
theorem dL_355 : dc code 355 356 .iaload 1 := ⟨dr_at drL_law_0 (i := 125) rfl, rfl⟩
theorem dL_356 : dc code 356 357 (.aload_n 0) 1 := ⟨dr_at drL_law_0 (i := 126) rfl, rfl⟩
theorem dL_357 : dc code 357 359 (.iload 4) 2 := ⟨dr_at drL_law_0 (i := 127) rfl, rfl⟩
theorem dL_359 : dc code 359 360 (.iconst 3) 1 := ⟨dr_at drL_law_0 (i := 128) rfl, rfl⟩
theorem dL_360 : dc code 360 361 .iadd 1 := ⟨dr_at drL_law_0 (i := 129) rfl, rfl⟩
theorem dL_361 : dc code 361 362 .iaload 1 := ⟨dr_at drL_law_0 (i := 130) rfl, rfl⟩
theorem dL_362 : dc code 362 363 (.aload_n 0) 1 := ⟨dr_at drL_law_0 (i := 131) rfl, rfl⟩
theorem dL_363 : dc code 363 365 (.iload 4) 2 := ⟨dr_at drL_law_0 (i := 132) rfl, rfl⟩
theorem dL_365 : dc code 365 366 (.iconst 4) 1 := ⟨dr_at drL_law_0 (i := 133) rfl, rfl⟩
theorem dL_366 : dc code 366 367 .iadd 1 := ⟨dr_at drL_law_0 (i := 134) rfl, rfl⟩
theorem dL_367 : dc code 367 368 .iaload 1 := ⟨dr_at drL_law_0 (i := 135) rfl, rfl⟩
theorem dL_368 : dc code 368 371 (.invokestatic 150) 3 := ⟨dr_at drL_law_0 (i := 136) rfl, rfl⟩
theorem dL_371 : dc code 371 373 (.istore 5) 2 := ⟨dr_at drL_law_0 (i := 137) rfl, rfl⟩
theorem dL_373 : dc code 373 374 (.aload_n 2) 1 := ⟨dr_at drL_law_0 (i := 138) rfl, rfl⟩
theorem dL_374 : dc code 374 375 (.aload_n 0) 1 := ⟨dr_at drL_law_0 (i := 139) rfl, rfl⟩
theorem dL_375 : dc code 375 377 (.iload 4) 2 := ⟨dr_at drL_law_0 (i := 140) rfl, rfl⟩
theorem dL_377 : dc code 377 378 (.iconst 1) 1 := ⟨dr_at drL_law_0 (i := 141) rfl, rfl⟩
theorem dL_378 : dc code 378 379 .iadd 1 := ⟨dr_at drL_law_0 (i := 142) rfl, rfl⟩
theorem dL_379 : dc code 379 380 .iaload 1 := ⟨dr_at drL_law_0 (i := 143) rfl, rfl⟩
theorem dL_380 : dc code 380 381 (.aload_n 0) 1 := ⟨dr_at drL_law_0 (i := 144) rfl, rfl⟩
theorem dL_381 : dc code 381 383 (.iload 4) 2 := ⟨dr_at drL_law_0 (i := 145) rfl, rfl⟩
theorem dL_383 : dc code 383 384 (.iconst 2) 1 := ⟨dr_at drL_law_0 (i := 146) rfl, rfl⟩
theorem dL_384 : dc code 384 385 .iadd 1 := ⟨dr_at drL_law_0 (i := 147) rfl, rfl⟩
theorem dL_385 : dc code 385 386 .iaload 1 := ⟨dr_at drL_law_0 (i := 148) rfl, rfl⟩
theorem dL_386 : dc code 386 387 (.aload_n 0) 1 := ⟨dr_at drL_law_0 (i := 149) rfl, rfl⟩
theorem drL_law_387 : ([(387, (.iload 4), 2), (389, (.iconst 3), 1), (390, .iadd, 1), (391, .iaload, 1), (392, (.aload_n 0), 1), (393, (.iload 4), 2), (395, (.iconst 4), 1), (396, .iadd, 1), (397, .iaload, 1), (398, (.invokevirtual 153), 3), (401, (.aload_n 2), 1), (402, (.invokevirtual 154), 3), (405, (.iload 5), 2), (407, (.if_icmp .eq 5), 3), (410, (.iconst 0), 1), (412, (.goto 1570), 3), (415, (.aload_n 1), 1), (416, (.aload_n 0), 1), (417, (.iload 4), 2), (419, (.iconst 1), 1), (420, .iadd, 1), (421, .iaload, 1), (422, (.aload_n 0), 1), (423, (.iload 4), 2), (425, (.iconst 2), 1), (426, .iadd, 1), (427, .iaload, 1), (428, (.invokestatic 157), 3), (431, (.istore 5), 2), (433, (.aload_n 2), 1), (434, (.aload_n 0), 1), (435, (.iload 4), 2), (437, (.iconst 1), 1), (438, .iadd, 1), (439, .iaload, 1), (440, (.aload_n 0), 1), (441, (.iload 4), 2), (443, (.iconst 2), 1), (444, .iadd, 1), (445, .iaload, 1), (446, (.invokevirtual 160), 3), (449, (.goto 1533), 3), (452, (.aload_n 1), 1), (453, (.aload_n 3), 1), (454, (.invokestatic 161), 3), (457, (.istore 5), 2), (459, (.aload_n 2), 1), (460, (.invokevirtual 164), 3), (463, (.istore 6), 2), (465, (.goto 1517), 3), (468, (.aload_n 1), 1), (469, (.invokevirtual 165), 3), (472, .pop, 1), (473, (.aload_n 2), 1), (474, (.invokevirtual 168), 3), (477, .pop, 1), (478, (.goto 1504), 3), (481, (.aload_n 1), 1), (482, (.aload_n 0), 1), (483, (.iload 4), 2), (485, (.iconst 1), 1), (486, .iadd, 1), (487, .iaload, 1), (488, (.aload_n 0), 1), (489, (.iload 4), 2), (491, (.iconst 2), 1), (492, .iadd, 1), (493, .iaload, 1), (494, (.aload_n 0), 1), (495, (.iload 4), 2), (497, (.iconst 3), 1), (498, .iadd, 1), (499, .iaload, 1), (500, (.aload_n 3), 1), (501, (.invokestatic 169), 3), (504, (.istore 5), 2), (506, (.aload_n 2), 1), (507, (.aload_n 0), 1), (508, (.iload 4), 2), (510, (.iconst 1), 1), (511, .iadd, 1), (512, .iaload, 1), (513, (.aload_n 0), 1), (514, (.iload 4), 2), (516, (.iconst 2), 1), (517, .iadd, 1), (518, .iaload, 1), (519, (.aload_n 0), 1), (520, (.iload 4), 2), (522, (.iconst 3), 1), (523, .iadd, 1), (524, .iaload, 1), (525, (.invokevirtual 172), 3), (528, (.istore 6), 2), (530, (.goto 1452), 3), (533, (.aload_n 1), 1), (534, (.aload_n 0), 1), (535, (.iload 4), 2), (537, (.iconst 1), 1), (538, .iadd, 1), (539, .iaload, 1), (540, (.aload_n 0), 1), (541, (.iload 4), 2), (543, (.iconst 2), 1), (544, .iadd, 1), (545, .iaload, 1), (546, (.aload_n 0), 1), (547, (.iload 4), 2), (549, (.iconst 3), 1), (550, .iadd, 1), (551, .iaload, 1), (552, (.aload_n 0), 1), (553, (.iload 4), 2), (555, (.iconst 4), 1), (556, .iadd, 1), (557, .iaload, 1), (558, (.aload_n 0), 1), (559, (.iload 4), 2), (561, (.iconst 5), 1), (562, .iadd, 1), (563, .iaload, 1), (564, (.aload_n 0), 1), (565, (.iload 4), 2), (567, (.bipush 6), 2), (569, .iadd, 1), (570, .iaload, 1), (571, (.ifCond .eq 7), 3), (574, (.iconst 1), 1), (575, (.goto 4), 3), (578, (.iconst 0), 1), (579, (.aload_n 3), 1), (580, (.invokestatic 173), 3), (583, (.istore 5), 2), (585, (.aload_n 2), 1), (586, (.aload_n 0), 1), (587, (.iload 4), 2), (589, (.iconst 1), 1), (590, .iadd, 1), (591, .iaload, 1), (592, (.aload_n 0), 1), (593, (.iload 4), 2), (595, (.iconst 2), 1), (596, .iadd, 1), (597, .iaload, 1), (598, (.aload_n 0), 1), (599, (.iload 4), 2), (601, (.iconst 3), 1), (602, .iadd, 1), (603, .iaload, 1), (604, (.aload_n 0), 1)] : List (Nat × Instr × Nat)).all (fun q => decide (decode code q.1 = .ok q.2)) = true := by decide +kernel
theorem dL_387 : dc code 387 389 (.iload 4) 2 := ⟨dr_at drL_law_387 (i := 0) rfl, rfl⟩
theorem dL_389 : dc code 389 390 (.iconst 3) 1 := ⟨dr_at drL_law_387 (i := 1) rfl, rfl⟩
theorem dL_390 : dc code 390 391 .iadd 1 := ⟨dr_at drL_law_387 (i := 2) rfl, rfl⟩
theorem dL_391 : dc code 391 392 .iaload 1 := ⟨dr_at drL_law_387 (i := 3) rfl, rfl⟩
theorem dL_392 : dc code 392 393 (.aload_n 0) 1 := ⟨dr_at drL_law_387 (i := 4) rfl, rfl⟩
theorem dL_393 : dc code 393 395 (.iload 4) 2 := ⟨dr_at drL_law_387 (i := 5) rfl, rfl⟩
theorem dL_395 : dc code 395 396 (.iconst 4) 1 := ⟨dr_at drL_law_387 (i := 6) rfl, rfl⟩
theorem dL_396 : dc code 396 397 .iadd 1 := ⟨dr_at drL_law_387 (i := 7) rfl, rfl⟩
theorem dL_397 : dc code 397 398 .iaload 1 := ⟨dr_at drL_law_387 (i := 8) rfl, rfl⟩
theorem dL_398 : dc code 398 401 (.invokevirtual 153) 3 := ⟨dr_at drL_law_387 (i := 9) rfl, rfl⟩
theorem dL_401 : dc code 401 402 (.aload_n 2) 1 := ⟨dr_at drL_law_387 (i := 10) rfl, rfl⟩
theorem dL_402 : dc code 402 405 (.invokevirtual 154) 3 := ⟨dr_at drL_law_387 (i := 11) rfl, rfl⟩
theorem dL_405 : dc code 405 407 (.iload 5) 2 := ⟨dr_at drL_law_387 (i := 12) rfl, rfl⟩
theorem dL_407 : dc code 407 410 (.if_icmp .eq 5) 3 := ⟨dr_at drL_law_387 (i := 13) rfl, rfl⟩
theorem dL_410 : dc code 410 411 (.iconst 0) 1 := ⟨dr_at drL_law_387 (i := 14) rfl, rfl⟩
theorem dL_412 : dc code 412 415 (.goto 1570) 3 := ⟨dr_at drL_law_387 (i := 15) rfl, rfl⟩
theorem dL_415 : dc code 415 416 (.aload_n 1) 1 := ⟨dr_at drL_law_387 (i := 16) rfl, rfl⟩
theorem dL_416 : dc code 416 417 (.aload_n 0) 1 := ⟨dr_at drL_law_387 (i := 17) rfl, rfl⟩
theorem dL_417 : dc code 417 419 (.iload 4) 2 := ⟨dr_at drL_law_387 (i := 18) rfl, rfl⟩
theorem dL_419 : dc code 419 420 (.iconst 1) 1 := ⟨dr_at drL_law_387 (i := 19) rfl, rfl⟩
theorem dL_420 : dc code 420 421 .iadd 1 := ⟨dr_at drL_law_387 (i := 20) rfl, rfl⟩
theorem dL_421 : dc code 421 422 .iaload 1 := ⟨dr_at drL_law_387 (i := 21) rfl, rfl⟩
theorem dL_422 : dc code 422 423 (.aload_n 0) 1 := ⟨dr_at drL_law_387 (i := 22) rfl, rfl⟩
theorem dL_423 : dc code 423 425 (.iload 4) 2 := ⟨dr_at drL_law_387 (i := 23) rfl, rfl⟩
theorem dL_425 : dc code 425 426 (.iconst 2) 1 := ⟨dr_at drL_law_387 (i := 24) rfl, rfl⟩
theorem dL_426 : dc code 426 427 .iadd 1 := ⟨dr_at drL_law_387 (i := 25) rfl, rfl⟩
theorem dL_427 : dc code 427 428 .iaload 1 := ⟨dr_at drL_law_387 (i := 26) rfl, rfl⟩
theorem dL_428 : dc code 428 431 (.invokestatic 157) 3 := ⟨dr_at drL_law_387 (i := 27) rfl, rfl⟩
theorem dL_431 : dc code 431 433 (.istore 5) 2 := ⟨dr_at drL_law_387 (i := 28) rfl, rfl⟩
theorem dL_433 : dc code 433 434 (.aload_n 2) 1 := ⟨dr_at drL_law_387 (i := 29) rfl, rfl⟩
theorem dL_434 : dc code 434 435 (.aload_n 0) 1 := ⟨dr_at drL_law_387 (i := 30) rfl, rfl⟩
theorem dL_435 : dc code 435 437 (.iload 4) 2 := ⟨dr_at drL_law_387 (i := 31) rfl, rfl⟩
theorem dL_437 : dc code 437 438 (.iconst 1) 1 := ⟨dr_at drL_law_387 (i := 32) rfl, rfl⟩
theorem dL_438 : dc code 438 439 .iadd 1 := ⟨dr_at drL_law_387 (i := 33) rfl, rfl⟩
theorem dL_439 : dc code 439 440 .iaload 1 := ⟨dr_at drL_law_387 (i := 34) rfl, rfl⟩
theorem dL_440 : dc code 440 441 (.aload_n 0) 1 := ⟨dr_at drL_law_387 (i := 35) rfl, rfl⟩
theorem dL_441 : dc code 441 443 (.iload 4) 2 := ⟨dr_at drL_law_387 (i := 36) rfl, rfl⟩
theorem dL_443 : dc code 443 444 (.iconst 2) 1 := ⟨dr_at drL_law_387 (i := 37) rfl, rfl⟩
theorem dL_444 : dc code 444 445 .iadd 1 := ⟨dr_at drL_law_387 (i := 38) rfl, rfl⟩
theorem dL_445 : dc code 445 446 .iaload 1 := ⟨dr_at drL_law_387 (i := 39) rfl, rfl⟩
theorem dL_446 : dc code 446 449 (.invokevirtual 160) 3 := ⟨dr_at drL_law_387 (i := 40) rfl, rfl⟩
theorem dL_449 : dc code 449 452 (.goto 1533) 3 := ⟨dr_at drL_law_387 (i := 41) rfl, rfl⟩
theorem dL_452 : dc code 452 453 (.aload_n 1) 1 := ⟨dr_at drL_law_387 (i := 42) rfl, rfl⟩
theorem dL_453 : dc code 453 454 (.aload_n 3) 1 := ⟨dr_at drL_law_387 (i := 43) rfl, rfl⟩
theorem dL_454 : dc code 454 457 (.invokestatic 161) 3 := ⟨dr_at drL_law_387 (i := 44) rfl, rfl⟩
theorem dL_457 : dc code 457 459 (.istore 5) 2 := ⟨dr_at drL_law_387 (i := 45) rfl, rfl⟩
theorem dL_459 : dc code 459 460 (.aload_n 2) 1 := ⟨dr_at drL_law_387 (i := 46) rfl, rfl⟩
theorem dL_460 : dc code 460 463 (.invokevirtual 164) 3 := ⟨dr_at drL_law_387 (i := 47) rfl, rfl⟩
theorem dL_463 : dc code 463 465 (.istore 6) 2 := ⟨dr_at drL_law_387 (i := 48) rfl, rfl⟩
theorem dL_465 : dc code 465 468 (.goto 1517) 3 := ⟨dr_at drL_law_387 (i := 49) rfl, rfl⟩
theorem dL_468 : dc code 468 469 (.aload_n 1) 1 := ⟨dr_at drL_law_387 (i := 50) rfl, rfl⟩
theorem dL_469 : dc code 469 472 (.invokevirtual 165) 3 := ⟨dr_at drL_law_387 (i := 51) rfl, rfl⟩
theorem dL_472 : dc code 472 473 .pop 1 := ⟨dr_at drL_law_387 (i := 52) rfl, rfl⟩
theorem dL_473 : dc code 473 474 (.aload_n 2) 1 := ⟨dr_at drL_law_387 (i := 53) rfl, rfl⟩
theorem dL_474 : dc code 474 477 (.invokevirtual 168) 3 := ⟨dr_at drL_law_387 (i := 54) rfl, rfl⟩
theorem dL_477 : dc code 477 478 .pop 1 := ⟨dr_at drL_law_387 (i := 55) rfl, rfl⟩
theorem dL_478 : dc code 478 481 (.goto 1504) 3 := ⟨dr_at drL_law_387 (i := 56) rfl, rfl⟩
theorem dL_481 : dc code 481 482 (.aload_n 1) 1 := ⟨dr_at drL_law_387 (i := 57) rfl, rfl⟩
theorem dL_482 : dc code 482 483 (.aload_n 0) 1 := ⟨dr_at drL_law_387 (i := 58) rfl, rfl⟩
theorem dL_483 : dc code 483 485 (.iload 4) 2 := ⟨dr_at drL_law_387 (i := 59) rfl, rfl⟩
theorem dL_485 : dc code 485 486 (.iconst 1) 1 := ⟨dr_at drL_law_387 (i := 60) rfl, rfl⟩
theorem dL_486 : dc code 486 487 .iadd 1 := ⟨dr_at drL_law_387 (i := 61) rfl, rfl⟩
theorem dL_487 : dc code 487 488 .iaload 1 := ⟨dr_at drL_law_387 (i := 62) rfl, rfl⟩
theorem dL_488 : dc code 488 489 (.aload_n 0) 1 := ⟨dr_at drL_law_387 (i := 63) rfl, rfl⟩
theorem dL_489 : dc code 489 491 (.iload 4) 2 := ⟨dr_at drL_law_387 (i := 64) rfl, rfl⟩
theorem dL_491 : dc code 491 492 (.iconst 2) 1 := ⟨dr_at drL_law_387 (i := 65) rfl, rfl⟩
theorem dL_492 : dc code 492 493 .iadd 1 := ⟨dr_at drL_law_387 (i := 66) rfl, rfl⟩
theorem dL_493 : dc code 493 494 .iaload 1 := ⟨dr_at drL_law_387 (i := 67) rfl, rfl⟩
theorem dL_494 : dc code 494 495 (.aload_n 0) 1 := ⟨dr_at drL_law_387 (i := 68) rfl, rfl⟩
theorem dL_495 : dc code 495 497 (.iload 4) 2 := ⟨dr_at drL_law_387 (i := 69) rfl, rfl⟩
theorem dL_497 : dc code 497 498 (.iconst 3) 1 := ⟨dr_at drL_law_387 (i := 70) rfl, rfl⟩
theorem dL_498 : dc code 498 499 .iadd 1 := ⟨dr_at drL_law_387 (i := 71) rfl, rfl⟩
theorem dL_499 : dc code 499 500 .iaload 1 := ⟨dr_at drL_law_387 (i := 72) rfl, rfl⟩
theorem dL_500 : dc code 500 501 (.aload_n 3) 1 := ⟨dr_at drL_law_387 (i := 73) rfl, rfl⟩
theorem dL_501 : dc code 501 504 (.invokestatic 169) 3 := ⟨dr_at drL_law_387 (i := 74) rfl, rfl⟩
theorem dL_504 : dc code 504 506 (.istore 5) 2 := ⟨dr_at drL_law_387 (i := 75) rfl, rfl⟩
theorem dL_506 : dc code 506 507 (.aload_n 2) 1 := ⟨dr_at drL_law_387 (i := 76) rfl, rfl⟩
theorem dL_507 : dc code 507 508 (.aload_n 0) 1 := ⟨dr_at drL_law_387 (i := 77) rfl, rfl⟩
theorem dL_508 : dc code 508 510 (.iload 4) 2 := ⟨dr_at drL_law_387 (i := 78) rfl, rfl⟩
theorem dL_510 : dc code 510 511 (.iconst 1) 1 := ⟨dr_at drL_law_387 (i := 79) rfl, rfl⟩
theorem dL_511 : dc code 511 512 .iadd 1 := ⟨dr_at drL_law_387 (i := 80) rfl, rfl⟩
theorem dL_512 : dc code 512 513 .iaload 1 := ⟨dr_at drL_law_387 (i := 81) rfl, rfl⟩
theorem dL_513 : dc code 513 514 (.aload_n 0) 1 := ⟨dr_at drL_law_387 (i := 82) rfl, rfl⟩
theorem dL_514 : dc code 514 516 (.iload 4) 2 := ⟨dr_at drL_law_387 (i := 83) rfl, rfl⟩
theorem dL_516 : dc code 516 517 (.iconst 2) 1 := ⟨dr_at drL_law_387 (i := 84) rfl, rfl⟩
theorem dL_517 : dc code 517 518 .iadd 1 := ⟨dr_at drL_law_387 (i := 85) rfl, rfl⟩
theorem dL_518 : dc code 518 519 .iaload 1 := ⟨dr_at drL_law_387 (i := 86) rfl, rfl⟩
theorem dL_519 : dc code 519 520 (.aload_n 0) 1 := ⟨dr_at drL_law_387 (i := 87) rfl, rfl⟩
theorem dL_520 : dc code 520 522 (.iload 4) 2 := ⟨dr_at drL_law_387 (i := 88) rfl, rfl⟩
theorem dL_522 : dc code 522 523 (.iconst 3) 1 := ⟨dr_at drL_law_387 (i := 89) rfl, rfl⟩
theorem dL_523 : dc code 523 524 .iadd 1 := ⟨dr_at drL_law_387 (i := 90) rfl, rfl⟩
theorem dL_524 : dc code 524 525 .iaload 1 := ⟨dr_at drL_law_387 (i := 91) rfl, rfl⟩
theorem dL_525 : dc code 525 528 (.invokevirtual 172) 3 := ⟨dr_at drL_law_387 (i := 92) rfl, rfl⟩
theorem dL_528 : dc code 528 530 (.istore 6) 2 := ⟨dr_at drL_law_387 (i := 93) rfl, rfl⟩
theorem dL_530 : dc code 530 533 (.goto 1452) 3 := ⟨dr_at drL_law_387 (i := 94) rfl, rfl⟩
theorem dL_533 : dc code 533 534 (.aload_n 1) 1 := ⟨dr_at drL_law_387 (i := 95) rfl, rfl⟩
theorem dL_534 : dc code 534 535 (.aload_n 0) 1 := ⟨dr_at drL_law_387 (i := 96) rfl, rfl⟩
theorem dL_535 : dc code 535 537 (.iload 4) 2 := ⟨dr_at drL_law_387 (i := 97) rfl, rfl⟩
theorem dL_537 : dc code 537 538 (.iconst 1) 1 := ⟨dr_at drL_law_387 (i := 98) rfl, rfl⟩
theorem dL_538 : dc code 538 539 .iadd 1 := ⟨dr_at drL_law_387 (i := 99) rfl, rfl⟩
theorem dL_539 : dc code 539 540 .iaload 1 := ⟨dr_at drL_law_387 (i := 100) rfl, rfl⟩
theorem dL_540 : dc code 540 541 (.aload_n 0) 1 := ⟨dr_at drL_law_387 (i := 101) rfl, rfl⟩
theorem dL_541 : dc code 541 543 (.iload 4) 2 := ⟨dr_at drL_law_387 (i := 102) rfl, rfl⟩
theorem dL_543 : dc code 543 544 (.iconst 2) 1 := ⟨dr_at drL_law_387 (i := 103) rfl, rfl⟩
theorem dL_544 : dc code 544 545 .iadd 1 := ⟨dr_at drL_law_387 (i := 104) rfl, rfl⟩
theorem dL_545 : dc code 545 546 .iaload 1 := ⟨dr_at drL_law_387 (i := 105) rfl, rfl⟩
theorem dL_546 : dc code 546 547 (.aload_n 0) 1 := ⟨dr_at drL_law_387 (i := 106) rfl, rfl⟩
theorem dL_547 : dc code 547 549 (.iload 4) 2 := ⟨dr_at drL_law_387 (i := 107) rfl, rfl⟩
theorem dL_549 : dc code 549 550 (.iconst 3) 1 := ⟨dr_at drL_law_387 (i := 108) rfl, rfl⟩
theorem dL_550 : dc code 550 551 .iadd 1 := ⟨dr_at drL_law_387 (i := 109) rfl, rfl⟩
theorem dL_551 : dc code 551 552 .iaload 1 := ⟨dr_at drL_law_387 (i := 110) rfl, rfl⟩
theorem dL_552 : dc code 552 553 (.aload_n 0) 1 := ⟨dr_at drL_law_387 (i := 111) rfl, rfl⟩
theorem dL_553 : dc code 553 555 (.iload 4) 2 := ⟨dr_at drL_law_387 (i := 112) rfl, rfl⟩
theorem dL_555 : dc code 555 556 (.iconst 4) 1 := ⟨dr_at drL_law_387 (i := 113) rfl, rfl⟩
theorem dL_556 : dc code 556 557 .iadd 1 := ⟨dr_at drL_law_387 (i := 114) rfl, rfl⟩
theorem dL_557 : dc code 557 558 .iaload 1 := ⟨dr_at drL_law_387 (i := 115) rfl, rfl⟩
theorem dL_558 : dc code 558 559 (.aload_n 0) 1 := ⟨dr_at drL_law_387 (i := 116) rfl, rfl⟩
theorem dL_559 : dc code 559 561 (.iload 4) 2 := ⟨dr_at drL_law_387 (i := 117) rfl, rfl⟩
theorem dL_561 : dc code 561 562 (.iconst 5) 1 := ⟨dr_at drL_law_387 (i := 118) rfl, rfl⟩
theorem dL_562 : dc code 562 563 .iadd 1 := ⟨dr_at drL_law_387 (i := 119) rfl, rfl⟩
theorem dL_563 : dc code 563 564 .iaload 1 := ⟨dr_at drL_law_387 (i := 120) rfl, rfl⟩
theorem dL_564 : dc code 564 565 (.aload_n 0) 1 := ⟨dr_at drL_law_387 (i := 121) rfl, rfl⟩
theorem dL_565 : dc code 565 567 (.iload 4) 2 := ⟨dr_at drL_law_387 (i := 122) rfl, rfl⟩
theorem dL_567 : dc code 567 569 (.bipush 6) 2 := ⟨dr_at drL_law_387 (i := 123) rfl, rfl⟩
theorem dL_569 : dc code 569 570 .iadd 1 := ⟨dr_at drL_law_387 (i := 124) rfl, rfl⟩
theorem dL_570 : dc code 570 571 .iaload 1 := ⟨dr_at drL_law_387 (i := 125) rfl, rfl⟩
theorem dL_571 : dc code 571 574 (.ifCond .eq 7) 3 := ⟨dr_at drL_law_387 (i := 126) rfl, rfl⟩
theorem dL_574 : dc code 574 575 (.iconst 1) 1 := ⟨dr_at drL_law_387 (i := 127) rfl, rfl⟩
theorem dL_575 : dc code 575 578 (.goto 4) 3 := ⟨dr_at drL_law_387 (i := 128) rfl, rfl⟩
theorem dL_578 : dc code 578 579 (.iconst 0) 1 := ⟨dr_at drL_law_387 (i := 129) rfl, rfl⟩
theorem dL_579 : dc code 579 580 (.aload_n 3) 1 := ⟨dr_at drL_law_387 (i := 130) rfl, rfl⟩
theorem dL_580 : dc code 580 583 (.invokestatic 173) 3 := ⟨dr_at drL_law_387 (i := 131) rfl, rfl⟩
theorem dL_583 : dc code 583 585 (.istore 5) 2 := ⟨dr_at drL_law_387 (i := 132) rfl, rfl⟩
theorem dL_585 : dc code 585 586 (.aload_n 2) 1 := ⟨dr_at drL_law_387 (i := 133) rfl, rfl⟩
theorem dL_586 : dc code 586 587 (.aload_n 0) 1 := ⟨dr_at drL_law_387 (i := 134) rfl, rfl⟩
theorem dL_587 : dc code 587 589 (.iload 4) 2 := ⟨dr_at drL_law_387 (i := 135) rfl, rfl⟩
theorem dL_589 : dc code 589 590 (.iconst 1) 1 := ⟨dr_at drL_law_387 (i := 136) rfl, rfl⟩
theorem dL_590 : dc code 590 591 .iadd 1 := ⟨dr_at drL_law_387 (i := 137) rfl, rfl⟩
theorem dL_591 : dc code 591 592 .iaload 1 := ⟨dr_at drL_law_387 (i := 138) rfl, rfl⟩
theorem dL_592 : dc code 592 593 (.aload_n 0) 1 := ⟨dr_at drL_law_387 (i := 139) rfl, rfl⟩
theorem dL_593 : dc code 593 595 (.iload 4) 2 := ⟨dr_at drL_law_387 (i := 140) rfl, rfl⟩
theorem dL_595 : dc code 595 596 (.iconst 2) 1 := ⟨dr_at drL_law_387 (i := 141) rfl, rfl⟩
theorem dL_596 : dc code 596 597 .iadd 1 := ⟨dr_at drL_law_387 (i := 142) rfl, rfl⟩
theorem dL_597 : dc code 597 598 .iaload 1 := ⟨dr_at drL_law_387 (i := 143) rfl, rfl⟩
theorem dL_598 : dc code 598 599 (.aload_n 0) 1 := ⟨dr_at drL_law_387 (i := 144) rfl, rfl⟩
theorem dL_599 : dc code 599 601 (.iload 4) 2 := ⟨dr_at drL_law_387 (i := 145) rfl, rfl⟩
theorem dL_601 : dc code 601 602 (.iconst 3) 1 := ⟨dr_at drL_law_387 (i := 146) rfl, rfl⟩
theorem dL_602 : dc code 602 603 .iadd 1 := ⟨dr_at drL_law_387 (i := 147) rfl, rfl⟩
theorem dL_603 : dc code 603 604 .iaload 1 := ⟨dr_at drL_law_387 (i := 148) rfl, rfl⟩
theorem dL_604 : dc code 604 605 (.aload_n 0) 1 := ⟨dr_at drL_law_387 (i := 149) rfl, rfl⟩
theorem drL_law_605 : ([(605, (.iload 4), 2), (607, (.iconst 4), 1), (608, .iadd, 1), (609, .iaload, 1), (610, (.aload_n 0), 1), (611, (.iload 4), 2), (613, (.iconst 5), 1), (614, .iadd, 1), (615, .iaload, 1), (616, (.aload_n 0), 1), (617, (.iload 4), 2), (619, (.bipush 6), 2), (621, .iadd, 1), (622, .iaload, 1), (623, (.ifCond .eq 7), 3), (626, (.iconst 1), 1), (627, (.goto 4), 3), (630, (.iconst 0), 1), (631, (.invokevirtual 176), 3), (634, (.lstore 6), 2), (636, (.goto 1346), 3), (639, (.aload_n 1), 1), (640, (.aload_n 0), 1), (641, (.iload 4), 2), (643, (.iconst 1), 1), (644, .iadd, 1), (645, .iaload, 1), (646, (.aload_n 0), 1), (647, (.iload 4), 2), (649, (.iconst 2), 1), (650, .iadd, 1), (651, .iaload, 1), (652, (.aload_n 3), 1), (653, (.invokestatic 177), 3), (656, (.istore 5), 2), (658, (.aload_n 2), 1), (659, (.aload_n 0), 1), (660, (.iload 4), 2), (662, (.iconst 1), 1), (663, .iadd, 1), (664, .iaload, 1), (665, (.aload_n 0), 1), (666, (.iload 4), 2), (668, (.iconst 2), 1), (669, .iadd, 1), (670, .iaload, 1), (671, (.invokevirtual 180), 3), (674, (.istore 6), 2), (676, (.goto 1306), 3), (679, (.aload_n 1), 1), (680, (.aload_n 0), 1), (681, (.iload 4), 2), (683, (.iconst 1), 1), (684, .iadd, 1), (685, .iaload, 1), (686, (.aload_n 0), 1), (687, (.iload 4), 2), (689, (.iconst 2), 1), (690, .iadd, 1), (691, .iaload, 1), (692, (.aload_n 3), 1), (693, (.invokestatic 181), 3), (696, (.istore 5), 2), (698, (.aload_n 2), 1), (699, (.aload_n 0), 1), (700, (.iload 4), 2), (702, (.iconst 1), 1), (703, .iadd, 1), (704, .iaload, 1), (705, (.aload_n 0), 1), (706, (.iload 4), 2), (708, (.iconst 2), 1), (709, .iadd, 1), (710, .iaload, 1), (711, (.invokevirtual 183), 3), (714, (.istore 6), 2), (716, (.goto 1266), 3), (719, (.aload_n 1), 1), (720, (.aload_n 0), 1), (721, (.iload 4), 2), (723, (.iconst 1), 1), (724, .iadd, 1), (725, .iaload, 1), (726, (.aload_n 0), 1), (727, (.iload 4), 2), (729, (.iconst 2), 1), (730, .iadd, 1), (731, .iaload, 1), (732, (.aload_n 0), 1), (733, (.iload 4), 2), (735, (.iconst 3), 1), (736, .iadd, 1), (737, .iaload, 1), (738, (.aload_n 3), 1), (739, (.invokestatic 184), 3), (742, (.istore 5), 2), (744, (.aload_n 2), 1), (745, (.aload_n 0), 1), (746, (.iload 4), 2), (748, (.iconst 1), 1), (749, .iadd, 1), (750, .iaload, 1), (751, (.aload_n 0), 1), (752, (.iload 4), 2), (754, (.iconst 2), 1), (755, .iadd, 1), (756, .iaload, 1), (757, (.aload_n 0), 1), (758, (.iload 4), 2), (760, (.iconst 3), 1), (761, .iadd, 1), (762, .iaload, 1), (763, (.invokevirtual 186), 3), (766, (.istore 6), 2), (768, (.goto 1214), 3), (771, (.aload_n 1), 1), (772, (.aload_n 0), 1), (773, (.iload 4), 2), (775, (.iconst 1), 1), (776, .iadd, 1), (777, .iaload, 1), (778, (.aload_n 0), 1), (779, (.iload 4), 2), (781, (.iconst 2), 1), (782, .iadd, 1), (783, .iaload, 1), (784, (.aload_n 0), 1), (785, (.iload 4), 2), (787, (.iconst 3), 1), (788, .iadd, 1), (789, .iaload, 1), (790, (.aload_n 0), 1)] : List (Nat × Instr × Nat)).all (fun q => decide (decode code q.1 = .ok q.2)) = true := by decide +kernel
theorem dL_605 : dc code 605 607 (.iload 4) 2 := ⟨dr_at drL_law_605 (i := 0) rfl, rfl⟩
theorem dL_607 : dc code 607 608 (.iconst 4) 1 := ⟨dr_at drL_law_605 (i := 1) rfl, rfl⟩
theorem dL_608 : dc code 608 609 .iadd 1 := ⟨dr_at drL_law_605 (i := 2) rfl, rfl⟩
theorem dL_609 : dc code 609 610 .iaload 1 := ⟨dr_at drL_law_605 (i := 3) rfl, rfl⟩
theorem dL_610 : dc code 610 611 (.aload_n 0) 1 := ⟨dr_at drL_law_605 (i := 4) rfl, rfl⟩
theorem dL_611 : dc code 611 613 (.iload 4) 2 := ⟨dr_at drL_law_605 (i := 5) rfl, rfl⟩
theorem dL_613 : dc code 613 614 (.iconst 5) 1 := ⟨dr_at drL_law_605 (i := 6) rfl, rfl⟩
theorem dL_614 : dc code 614 615 .iadd 1 := ⟨dr_at drL_law_605 (i := 7) rfl, rfl⟩
theorem dL_615 : dc code 615 616 .iaload 1 := ⟨dr_at drL_law_605 (i := 8) rfl, rfl⟩
theorem dL_616 : dc code 616 617 (.aload_n 0) 1 := ⟨dr_at drL_law_605 (i := 9) rfl, rfl⟩
theorem dL_617 : dc code 617 619 (.iload 4) 2 := ⟨dr_at drL_law_605 (i := 10) rfl, rfl⟩
theorem dL_619 : dc code 619 621 (.bipush 6) 2 := ⟨dr_at drL_law_605 (i := 11) rfl, rfl⟩
theorem dL_621 : dc code 621 622 .iadd 1 := ⟨dr_at drL_law_605 (i := 12) rfl, rfl⟩
theorem dL_622 : dc code 622 623 .iaload 1 := ⟨dr_at drL_law_605 (i := 13) rfl, rfl⟩
theorem dL_623 : dc code 623 626 (.ifCond .eq 7) 3 := ⟨dr_at drL_law_605 (i := 14) rfl, rfl⟩
theorem dL_626 : dc code 626 627 (.iconst 1) 1 := ⟨dr_at drL_law_605 (i := 15) rfl, rfl⟩
theorem dL_627 : dc code 627 630 (.goto 4) 3 := ⟨dr_at drL_law_605 (i := 16) rfl, rfl⟩
theorem dL_630 : dc code 630 631 (.iconst 0) 1 := ⟨dr_at drL_law_605 (i := 17) rfl, rfl⟩
theorem dL_631 : dc code 631 634 (.invokevirtual 176) 3 := ⟨dr_at drL_law_605 (i := 18) rfl, rfl⟩
theorem dL_634 : dc code 634 636 (.lstore 6) 2 := ⟨dr_at drL_law_605 (i := 19) rfl, rfl⟩
theorem dL_636 : dc code 636 639 (.goto 1346) 3 := ⟨dr_at drL_law_605 (i := 20) rfl, rfl⟩
theorem dL_639 : dc code 639 640 (.aload_n 1) 1 := ⟨dr_at drL_law_605 (i := 21) rfl, rfl⟩
theorem dL_640 : dc code 640 641 (.aload_n 0) 1 := ⟨dr_at drL_law_605 (i := 22) rfl, rfl⟩
theorem dL_641 : dc code 641 643 (.iload 4) 2 := ⟨dr_at drL_law_605 (i := 23) rfl, rfl⟩
theorem dL_643 : dc code 643 644 (.iconst 1) 1 := ⟨dr_at drL_law_605 (i := 24) rfl, rfl⟩
theorem dL_644 : dc code 644 645 .iadd 1 := ⟨dr_at drL_law_605 (i := 25) rfl, rfl⟩
theorem dL_645 : dc code 645 646 .iaload 1 := ⟨dr_at drL_law_605 (i := 26) rfl, rfl⟩
theorem dL_646 : dc code 646 647 (.aload_n 0) 1 := ⟨dr_at drL_law_605 (i := 27) rfl, rfl⟩
theorem dL_647 : dc code 647 649 (.iload 4) 2 := ⟨dr_at drL_law_605 (i := 28) rfl, rfl⟩
theorem dL_649 : dc code 649 650 (.iconst 2) 1 := ⟨dr_at drL_law_605 (i := 29) rfl, rfl⟩
theorem dL_650 : dc code 650 651 .iadd 1 := ⟨dr_at drL_law_605 (i := 30) rfl, rfl⟩
theorem dL_651 : dc code 651 652 .iaload 1 := ⟨dr_at drL_law_605 (i := 31) rfl, rfl⟩
theorem dL_652 : dc code 652 653 (.aload_n 3) 1 := ⟨dr_at drL_law_605 (i := 32) rfl, rfl⟩
theorem dL_653 : dc code 653 656 (.invokestatic 177) 3 := ⟨dr_at drL_law_605 (i := 33) rfl, rfl⟩
theorem dL_656 : dc code 656 658 (.istore 5) 2 := ⟨dr_at drL_law_605 (i := 34) rfl, rfl⟩
theorem dL_658 : dc code 658 659 (.aload_n 2) 1 := ⟨dr_at drL_law_605 (i := 35) rfl, rfl⟩
theorem dL_659 : dc code 659 660 (.aload_n 0) 1 := ⟨dr_at drL_law_605 (i := 36) rfl, rfl⟩
theorem dL_660 : dc code 660 662 (.iload 4) 2 := ⟨dr_at drL_law_605 (i := 37) rfl, rfl⟩
theorem dL_662 : dc code 662 663 (.iconst 1) 1 := ⟨dr_at drL_law_605 (i := 38) rfl, rfl⟩
theorem dL_663 : dc code 663 664 .iadd 1 := ⟨dr_at drL_law_605 (i := 39) rfl, rfl⟩
theorem dL_664 : dc code 664 665 .iaload 1 := ⟨dr_at drL_law_605 (i := 40) rfl, rfl⟩
theorem dL_665 : dc code 665 666 (.aload_n 0) 1 := ⟨dr_at drL_law_605 (i := 41) rfl, rfl⟩
theorem dL_666 : dc code 666 668 (.iload 4) 2 := ⟨dr_at drL_law_605 (i := 42) rfl, rfl⟩
theorem dL_668 : dc code 668 669 (.iconst 2) 1 := ⟨dr_at drL_law_605 (i := 43) rfl, rfl⟩
theorem dL_669 : dc code 669 670 .iadd 1 := ⟨dr_at drL_law_605 (i := 44) rfl, rfl⟩
theorem dL_670 : dc code 670 671 .iaload 1 := ⟨dr_at drL_law_605 (i := 45) rfl, rfl⟩
theorem dL_671 : dc code 671 674 (.invokevirtual 180) 3 := ⟨dr_at drL_law_605 (i := 46) rfl, rfl⟩
theorem dL_674 : dc code 674 676 (.istore 6) 2 := ⟨dr_at drL_law_605 (i := 47) rfl, rfl⟩
theorem dL_676 : dc code 676 679 (.goto 1306) 3 := ⟨dr_at drL_law_605 (i := 48) rfl, rfl⟩
theorem dL_679 : dc code 679 680 (.aload_n 1) 1 := ⟨dr_at drL_law_605 (i := 49) rfl, rfl⟩
theorem dL_680 : dc code 680 681 (.aload_n 0) 1 := ⟨dr_at drL_law_605 (i := 50) rfl, rfl⟩
theorem dL_681 : dc code 681 683 (.iload 4) 2 := ⟨dr_at drL_law_605 (i := 51) rfl, rfl⟩
theorem dL_683 : dc code 683 684 (.iconst 1) 1 := ⟨dr_at drL_law_605 (i := 52) rfl, rfl⟩
theorem dL_684 : dc code 684 685 .iadd 1 := ⟨dr_at drL_law_605 (i := 53) rfl, rfl⟩
theorem dL_685 : dc code 685 686 .iaload 1 := ⟨dr_at drL_law_605 (i := 54) rfl, rfl⟩
theorem dL_686 : dc code 686 687 (.aload_n 0) 1 := ⟨dr_at drL_law_605 (i := 55) rfl, rfl⟩
theorem dL_687 : dc code 687 689 (.iload 4) 2 := ⟨dr_at drL_law_605 (i := 56) rfl, rfl⟩
theorem dL_689 : dc code 689 690 (.iconst 2) 1 := ⟨dr_at drL_law_605 (i := 57) rfl, rfl⟩
theorem dL_690 : dc code 690 691 .iadd 1 := ⟨dr_at drL_law_605 (i := 58) rfl, rfl⟩
theorem dL_691 : dc code 691 692 .iaload 1 := ⟨dr_at drL_law_605 (i := 59) rfl, rfl⟩
theorem dL_692 : dc code 692 693 (.aload_n 3) 1 := ⟨dr_at drL_law_605 (i := 60) rfl, rfl⟩
theorem dL_693 : dc code 693 696 (.invokestatic 181) 3 := ⟨dr_at drL_law_605 (i := 61) rfl, rfl⟩
theorem dL_696 : dc code 696 698 (.istore 5) 2 := ⟨dr_at drL_law_605 (i := 62) rfl, rfl⟩
theorem dL_698 : dc code 698 699 (.aload_n 2) 1 := ⟨dr_at drL_law_605 (i := 63) rfl, rfl⟩
theorem dL_699 : dc code 699 700 (.aload_n 0) 1 := ⟨dr_at drL_law_605 (i := 64) rfl, rfl⟩
theorem dL_700 : dc code 700 702 (.iload 4) 2 := ⟨dr_at drL_law_605 (i := 65) rfl, rfl⟩
theorem dL_702 : dc code 702 703 (.iconst 1) 1 := ⟨dr_at drL_law_605 (i := 66) rfl, rfl⟩
theorem dL_703 : dc code 703 704 .iadd 1 := ⟨dr_at drL_law_605 (i := 67) rfl, rfl⟩
theorem dL_704 : dc code 704 705 .iaload 1 := ⟨dr_at drL_law_605 (i := 68) rfl, rfl⟩
theorem dL_705 : dc code 705 706 (.aload_n 0) 1 := ⟨dr_at drL_law_605 (i := 69) rfl, rfl⟩
theorem dL_706 : dc code 706 708 (.iload 4) 2 := ⟨dr_at drL_law_605 (i := 70) rfl, rfl⟩
theorem dL_708 : dc code 708 709 (.iconst 2) 1 := ⟨dr_at drL_law_605 (i := 71) rfl, rfl⟩
theorem dL_709 : dc code 709 710 .iadd 1 := ⟨dr_at drL_law_605 (i := 72) rfl, rfl⟩
theorem dL_710 : dc code 710 711 .iaload 1 := ⟨dr_at drL_law_605 (i := 73) rfl, rfl⟩
theorem dL_711 : dc code 711 714 (.invokevirtual 183) 3 := ⟨dr_at drL_law_605 (i := 74) rfl, rfl⟩
theorem dL_714 : dc code 714 716 (.istore 6) 2 := ⟨dr_at drL_law_605 (i := 75) rfl, rfl⟩
theorem dL_716 : dc code 716 719 (.goto 1266) 3 := ⟨dr_at drL_law_605 (i := 76) rfl, rfl⟩
theorem dL_719 : dc code 719 720 (.aload_n 1) 1 := ⟨dr_at drL_law_605 (i := 77) rfl, rfl⟩
theorem dL_720 : dc code 720 721 (.aload_n 0) 1 := ⟨dr_at drL_law_605 (i := 78) rfl, rfl⟩
theorem dL_721 : dc code 721 723 (.iload 4) 2 := ⟨dr_at drL_law_605 (i := 79) rfl, rfl⟩
theorem dL_723 : dc code 723 724 (.iconst 1) 1 := ⟨dr_at drL_law_605 (i := 80) rfl, rfl⟩
theorem dL_724 : dc code 724 725 .iadd 1 := ⟨dr_at drL_law_605 (i := 81) rfl, rfl⟩
theorem dL_725 : dc code 725 726 .iaload 1 := ⟨dr_at drL_law_605 (i := 82) rfl, rfl⟩
theorem dL_726 : dc code 726 727 (.aload_n 0) 1 := ⟨dr_at drL_law_605 (i := 83) rfl, rfl⟩
theorem dL_727 : dc code 727 729 (.iload 4) 2 := ⟨dr_at drL_law_605 (i := 84) rfl, rfl⟩
theorem dL_729 : dc code 729 730 (.iconst 2) 1 := ⟨dr_at drL_law_605 (i := 85) rfl, rfl⟩
theorem dL_730 : dc code 730 731 .iadd 1 := ⟨dr_at drL_law_605 (i := 86) rfl, rfl⟩
theorem dL_731 : dc code 731 732 .iaload 1 := ⟨dr_at drL_law_605 (i := 87) rfl, rfl⟩
theorem dL_732 : dc code 732 733 (.aload_n 0) 1 := ⟨dr_at drL_law_605 (i := 88) rfl, rfl⟩
theorem dL_733 : dc code 733 735 (.iload 4) 2 := ⟨dr_at drL_law_605 (i := 89) rfl, rfl⟩
theorem dL_735 : dc code 735 736 (.iconst 3) 1 := ⟨dr_at drL_law_605 (i := 90) rfl, rfl⟩
theorem dL_736 : dc code 736 737 .iadd 1 := ⟨dr_at drL_law_605 (i := 91) rfl, rfl⟩
theorem dL_737 : dc code 737 738 .iaload 1 := ⟨dr_at drL_law_605 (i := 92) rfl, rfl⟩
theorem dL_738 : dc code 738 739 (.aload_n 3) 1 := ⟨dr_at drL_law_605 (i := 93) rfl, rfl⟩
theorem dL_739 : dc code 739 742 (.invokestatic 184) 3 := ⟨dr_at drL_law_605 (i := 94) rfl, rfl⟩
theorem dL_742 : dc code 742 744 (.istore 5) 2 := ⟨dr_at drL_law_605 (i := 95) rfl, rfl⟩
theorem dL_744 : dc code 744 745 (.aload_n 2) 1 := ⟨dr_at drL_law_605 (i := 96) rfl, rfl⟩
theorem dL_745 : dc code 745 746 (.aload_n 0) 1 := ⟨dr_at drL_law_605 (i := 97) rfl, rfl⟩
theorem dL_746 : dc code 746 748 (.iload 4) 2 := ⟨dr_at drL_law_605 (i := 98) rfl, rfl⟩
theorem dL_748 : dc code 748 749 (.iconst 1) 1 := ⟨dr_at drL_law_605 (i := 99) rfl, rfl⟩
theorem dL_749 : dc code 749 750 .iadd 1 := ⟨dr_at drL_law_605 (i := 100) rfl, rfl⟩
theorem dL_750 : dc code 750 751 .iaload 1 := ⟨dr_at drL_law_605 (i := 101) rfl, rfl⟩
theorem dL_751 : dc code 751 752 (.aload_n 0) 1 := ⟨dr_at drL_law_605 (i := 102) rfl, rfl⟩
theorem dL_752 : dc code 752 754 (.iload 4) 2 := ⟨dr_at drL_law_605 (i := 103) rfl, rfl⟩
theorem dL_754 : dc code 754 755 (.iconst 2) 1 := ⟨dr_at drL_law_605 (i := 104) rfl, rfl⟩
theorem dL_755 : dc code 755 756 .iadd 1 := ⟨dr_at drL_law_605 (i := 105) rfl, rfl⟩
theorem dL_756 : dc code 756 757 .iaload 1 := ⟨dr_at drL_law_605 (i := 106) rfl, rfl⟩
theorem dL_757 : dc code 757 758 (.aload_n 0) 1 := ⟨dr_at drL_law_605 (i := 107) rfl, rfl⟩
theorem dL_758 : dc code 758 760 (.iload 4) 2 := ⟨dr_at drL_law_605 (i := 108) rfl, rfl⟩
theorem dL_760 : dc code 760 761 (.iconst 3) 1 := ⟨dr_at drL_law_605 (i := 109) rfl, rfl⟩
theorem dL_761 : dc code 761 762 .iadd 1 := ⟨dr_at drL_law_605 (i := 110) rfl, rfl⟩
theorem dL_762 : dc code 762 763 .iaload 1 := ⟨dr_at drL_law_605 (i := 111) rfl, rfl⟩
theorem dL_763 : dc code 763 766 (.invokevirtual 186) 3 := ⟨dr_at drL_law_605 (i := 112) rfl, rfl⟩
theorem dL_766 : dc code 766 768 (.istore 6) 2 := ⟨dr_at drL_law_605 (i := 113) rfl, rfl⟩
theorem dL_768 : dc code 768 771 (.goto 1214) 3 := ⟨dr_at drL_law_605 (i := 114) rfl, rfl⟩
theorem dL_771 : dc code 771 772 (.aload_n 1) 1 := ⟨dr_at drL_law_605 (i := 115) rfl, rfl⟩
theorem dL_772 : dc code 772 773 (.aload_n 0) 1 := ⟨dr_at drL_law_605 (i := 116) rfl, rfl⟩
theorem dL_773 : dc code 773 775 (.iload 4) 2 := ⟨dr_at drL_law_605 (i := 117) rfl, rfl⟩
theorem dL_775 : dc code 775 776 (.iconst 1) 1 := ⟨dr_at drL_law_605 (i := 118) rfl, rfl⟩
theorem dL_776 : dc code 776 777 .iadd 1 := ⟨dr_at drL_law_605 (i := 119) rfl, rfl⟩
theorem dL_777 : dc code 777 778 .iaload 1 := ⟨dr_at drL_law_605 (i := 120) rfl, rfl⟩
theorem dL_778 : dc code 778 779 (.aload_n 0) 1 := ⟨dr_at drL_law_605 (i := 121) rfl, rfl⟩
theorem dL_779 : dc code 779 781 (.iload 4) 2 := ⟨dr_at drL_law_605 (i := 122) rfl, rfl⟩
theorem dL_781 : dc code 781 782 (.iconst 2) 1 := ⟨dr_at drL_law_605 (i := 123) rfl, rfl⟩
theorem dL_782 : dc code 782 783 .iadd 1 := ⟨dr_at drL_law_605 (i := 124) rfl, rfl⟩
theorem dL_783 : dc code 783 784 .iaload 1 := ⟨dr_at drL_law_605 (i := 125) rfl, rfl⟩
theorem dL_784 : dc code 784 785 (.aload_n 0) 1 := ⟨dr_at drL_law_605 (i := 126) rfl, rfl⟩
theorem dL_785 : dc code 785 787 (.iload 4) 2 := ⟨dr_at drL_law_605 (i := 127) rfl, rfl⟩
theorem dL_787 : dc code 787 788 (.iconst 3) 1 := ⟨dr_at drL_law_605 (i := 128) rfl, rfl⟩
theorem dL_788 : dc code 788 789 .iadd 1 := ⟨dr_at drL_law_605 (i := 129) rfl, rfl⟩
theorem dL_789 : dc code 789 790 .iaload 1 := ⟨dr_at drL_law_605 (i := 130) rfl, rfl⟩
theorem dL_790 : dc code 790 791 (.aload_n 0) 1 := ⟨dr_at drL_law_605 (i := 131) rfl, rfl⟩
