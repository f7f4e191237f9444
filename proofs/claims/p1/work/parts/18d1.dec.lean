theorem drL_law_0 : ([(0, (.new 8), 3), (3, .dup, 1), (4, (.invokespecial 132), 3), (7, (.astore_n 1), 1), (8, (.new 133), 3), (11, .dup, 1), (12, (.invokespecial 135), 3), (15, (.astore_n 2), 1), (16, (.iconst 1), 1), (17, (.newarray .long), 2), (19, (.astore_n 3), 1), (20, (.iconst 0), 1), (21, (.istore 4), 2), (23, (.iload 4), 2), (25, (.aload_n 0), 1), (26, .arraylength, 1), (27, (.bipush 7), 2), (29, .isub, 1), (30, (.if_icmp .gt 2758), 3), (33, (.aload_n 0), 1), (34, (.iload 4), 2), (36, .iaload, 1), (37, (.bipush 63), 2), (39, .iand, 1), (40, (.tableswitch 2742 0 40 #[180, 253, 278, 314, 386, 434, 478, 491, 571, 704, 779, 847, 927, 1034, 1118, 1201, 1214, 1267, 1382, 1474, 1554, 1567, 1615, 1750, 1794, 1862, 1918, 2022, 2070, 2106, 2174, 2230, 2286, 2349, 2417, 2485, 2553, 2637, 2693, 2704, 2717]), 180), (220, (.aload_n 1), 1), (221, (.aload_n 0), 1), (222, (.iload 4), 2), (224, (.iconst 1), 1), (225, .iadd, 1), (226, .iaload, 1), (227, (.aload_n 0), 1), (228, (.iload 4), 2), (230, (.iconst 2), 1), (231, .iadd, 1), (232, .iaload, 1), (233, (.aload_n 0), 1), (234, (.iload 4), 2), (236, (.iconst 3), 1), (237, .iadd, 1), (238, .iaload, 1), (239, (.aload_n 0), 1), (240, (.iload 4), 2), (242, (.iconst 4), 1), (243, .iadd, 1), (244, .iaload, 1), (245, (.aload_n 0), 1), (246, (.iload 4), 2), (248, (.iconst 5), 1), (249, .iadd, 1), (250, .iaload, 1), (251, (.invokevirtual 136), 3), (254, (.aload_n 2), 1), (255, (.aload_n 0), 1), (256, (.iload 4), 2), (258, (.iconst 1), 1), (259, .iadd, 1), (260, .iaload, 1), (261, (.aload_n 0), 1), (262, (.iload 4), 2), (264, (.iconst 2), 1), (265, .iadd, 1), (266, .iaload, 1), (267, (.aload_n 0), 1), (268, (.iload 4), 2), (270, (.iconst 3), 1), (271, .iadd, 1), (272, .iaload, 1), (273, (.aload_n 0), 1), (274, (.iload 4), 2), (276, (.iconst 4), 1), (277, .iadd, 1), (278, .iaload, 1), (279, (.aload_n 0), 1), (280, (.iload 4), 2), (282, (.iconst 5), 1), (283, .iadd, 1), (284, .iaload, 1), (285, (.invokevirtual 139), 3), (288, (.if_icmp .eq 2494), 3), (291, (.iconst 0), 1), (293, (.aload_n 1), 1), (294, (.aload_n 0), 1), (295, (.iload 4), 2), (297, (.iconst 1), 1), (298, .iadd, 1), (299, .iaload, 1), (300, (.invokevirtual 140), 3), (303, (.aload_n 2), 1), (304, (.aload_n 0), 1), (305, (.iload 4), 2), (307, (.iconst 1), 1), (308, .iadd, 1), (309, .iaload, 1), (310, (.invokevirtual 143), 3), (313, (.if_icmp .eq 2469), 3), (316, (.iconst 0), 1), (318, (.aload_n 1), 1), (319, (.aload_n 0), 1), (320, (.iload 4), 2), (322, (.iconst 1), 1), (323, .iadd, 1), (324, .iaload, 1), (325, (.invokestatic 144), 3), (328, (.istore 5), 2), (330, (.aload_n 2), 1), (331, (.aload_n 0), 1), (332, (.iload 4), 2), (334, (.iconst 1), 1), (335, .iadd, 1), (336, .iaload, 1), (337, (.invokevirtual 149), 3), (340, (.aload_n 2), 1), (341, (.invokevirtual 150), 3), (344, (.iload 5), 2), (346, (.if_icmp .eq 5), 3), (349, (.iconst 0), 1), (351, (.goto 2431), 3), (354, (.aload_n 1), 1), (355, (.aload_n 0), 1), (356, (.iload 4), 2), (358, (.iconst 1), 1), (359, .iadd, 1), (360, .iaload, 1), (361, (.aload_n 0), 1), (362, (.iload 4), 2), (364, (.iconst 2), 1), (365, .iadd, 1), (366, .iaload, 1), (367, (.aload_n 0), 1), (368, (.iload 4), 2), (370, (.iconst 3), 1), (371, .iadd, 1), (372, .iaload, 1), (373, (.aload_n 0), 1), (374, (.iload 4), 2), (376, (.iconst 4), 1), (377, .iadd, 1), (378, .iaload, 1), (379, (.invokestatic 153), 3), (382, (.istore 5), 2), (384, (.aload_n 2), 1), (385, (.aload_n 0), 1), (386, (.iload 4), 2), (388, (.iconst 1), 1), (389, .iadd, 1), (390, .iaload, 1), (391, (.aload_n 0), 1), (392, (.iload 4), 2), (394, (.iconst 2), 1)] : List (Nat × Instr × Nat)).all (fun q => decide (decode code q.1 = .ok q.2)) = true := by decide +kernel
theorem dL_0 : dc code 0 3 (.new 8) 3 := ⟨dr_at drL_law_0 (i := 0) rfl, rfl⟩
theorem dL_3 : dc code 3 4 .dup 1 := ⟨dr_at drL_law_0 (i := 1) rfl, rfl⟩
theorem dL_4 : dc code 4 7 (.invokespecial 132) 3 := ⟨dr_at drL_law_0 (i := 2) rfl, rfl⟩
theorem dL_7 : dc code 7 8 (.astore_n 1) 1 := ⟨dr_at drL_law_0 (i := 3) rfl, rfl⟩
theorem dL_8 : dc code 8 11 (.new 133) 3 := ⟨dr_at drL_law_0 (i := 4) rfl, rfl⟩
theorem dL_11 : dc code 11 12 .dup 1 := ⟨dr_at drL_law_0 (i := 5) rfl, rfl⟩
theorem dL_12 : dc code 12 15 (.invokespecial 135) 3 := ⟨dr_at drL_law_0 (i := 6) rfl, rfl⟩
theorem dL_15 : dc code 15 16 (.astore_n 2) 1 := ⟨dr_at drL_law_0 (i := 7) rfl, rfl⟩
theorem dL_16 : dc code 16 17 (.iconst 1) 1 := ⟨dr_at drL_law_0 (i := 8) rfl, rfl⟩
theorem dL_17 : dc code 17 19 (.newarray .long) 2 := ⟨dr_at drL_law_0 (i := 9) rfl, rfl⟩
theorem dL_19 : dc code 19 20 (.astore_n 3) 1 := ⟨dr_at drL_law_0 (i := 10) rfl, rfl⟩
theorem dL_20 : dc code 20 21 (.iconst 0) 1 := ⟨dr_at drL_law_0 (i := 11) rfl, rfl⟩
theorem dL_21 : dc code 21 23 (.istore 4) 2 := ⟨dr_at drL_law_0 (i := 12) rfl, rfl⟩
theorem dL_23 : dc code 23 25 (.iload 4) 2 := ⟨dr_at drL_law_0 (i := 13) rfl, rfl⟩
theorem dL_25 : dc code 25 26 (.aload_n 0) 1 := ⟨dr_at drL_law_0 (i := 14) rfl, rfl⟩
theorem dL_26 : dc code 26 27 .arraylength 1 := ⟨dr_at drL_law_0 (i := 15) rfl, rfl⟩
theorem dL_27 : dc code 27 29 (.bipush 7) 2 := ⟨dr_at drL_law_0 (i := 16) rfl, rfl⟩
theorem dL_29 : dc code 29 30 .isub 1 := ⟨dr_at drL_law_0 (i := 17) rfl, rfl⟩
theorem dL_30 : dc code 30 33 (.if_icmp .gt 2758) 3 := ⟨dr_at drL_law_0 (i := 18) rfl, rfl⟩
theorem dL_33 : dc code 33 34 (.aload_n 0) 1 := ⟨dr_at drL_law_0 (i := 19) rfl, rfl⟩
theorem dL_34 : dc code 34 36 (.iload 4) 2 := ⟨dr_at drL_law_0 (i := 20) rfl, rfl⟩
theorem dL_36 : dc code 36 37 .iaload 1 := ⟨dr_at drL_law_0 (i := 21) rfl, rfl⟩
theorem dL_37 : dc code 37 39 (.bipush 63) 2 := ⟨dr_at drL_law_0 (i := 22) rfl, rfl⟩
theorem dL_39 : dc code 39 40 .iand 1 := ⟨dr_at drL_law_0 (i := 23) rfl, rfl⟩
theorem dL_40 : dc code 40 220 (.tableswitch 2742 0 40 #[180, 253, 278, 314, 386, 434, 478, 491, 571, 704, 779, 847, 927, 1034, 1118, 1201, 1214, 1267, 1382, 1474, 1554, 1567, 1615, 1750, 1794, 1862, 1918, 2022, 2070, 2106, 2174, 2230, 2286, 2349, 2417, 2485, 2553, 2637, 2693, 2704, 2717]) 180 := ⟨dr_at drL_law_0 (i := 24) rfl, rfl⟩
theorem dL_220 : dc code 220 221 (.aload_n 1) 1 := ⟨dr_at drL_law_0 (i := 25) rfl, rfl⟩
theorem dL_221 : dc code 221 222 (.aload_n 0) 1 := ⟨dr_at drL_law_0 (i := 26) rfl, rfl⟩
theorem dL_222 : dc code 222 224 (.iload 4) 2 := ⟨dr_at drL_law_0 (i := 27) rfl, rfl⟩
theorem dL_224 : dc code 224 225 (.iconst 1) 1 := ⟨dr_at drL_law_0 (i := 28) rfl, rfl⟩
theorem dL_225 : dc code 225 226 .iadd 1 := ⟨dr_at drL_law_0 (i := 29) rfl, rfl⟩
theorem dL_226 : dc code 226 227 .iaload 1 := ⟨dr_at drL_law_0 (i := 30) rfl, rfl⟩
theorem dL_227 : dc code 227 228 (.aload_n 0) 1 := ⟨dr_at drL_law_0 (i := 31) rfl, rfl⟩
theorem dL_228 : dc code 228 230 (.iload 4) 2 := ⟨dr_at drL_law_0 (i := 32) rfl, rfl⟩
theorem dL_230 : dc code 230 231 (.iconst 2) 1 := ⟨dr_at drL_law_0 (i := 33) rfl, rfl⟩
theorem dL_231 : dc code 231 232 .iadd 1 := ⟨dr_at drL_law_0 (i := 34) rfl, rfl⟩
theorem dL_232 : dc code 232 233 .iaload 1 := ⟨dr_at drL_law_0 (i := 35) rfl, rfl⟩
theorem dL_233 : dc code 233 234 (.aload_n 0) 1 := ⟨dr_at drL_law_0 (i := 36) rfl, rfl⟩
theorem dL_234 : dc code 234 236 (.iload 4) 2 := ⟨dr_at drL_law_0 (i := 37) rfl, rfl⟩
theorem dL_236 : dc code 236 237 (.iconst 3) 1 := ⟨dr_at drL_law_0 (i := 38) rfl, rfl⟩
theorem dL_237 : dc code 237 238 .iadd 1 := ⟨dr_at drL_law_0 (i := 39) rfl, rfl⟩
theorem dL_238 : dc code 238 239 .iaload 1 := ⟨dr_at drL_law_0 (i := 40) rfl, rfl⟩
theorem dL_239 : dc code 239 240 (.aload_n 0) 1 := ⟨dr_at drL_law_0 (i := 41) rfl, rfl⟩
theorem dL_240 : dc code 240 242 (.iload 4) 2 := ⟨dr_at drL_law_0 (i := 42) rfl, rfl⟩
theorem dL_242 : dc code 242 243 (.iconst 4) 1 := ⟨dr_at drL_law_0 (i := 43) rfl, rfl⟩
theorem dL_243 : dc code 243 244 .iadd 1 := ⟨dr_at drL_law_0 (i := 44) rfl, rfl⟩
theorem dL_244 : dc code 244 245 .iaload 1 := ⟨dr_at drL_law_0 (i := 45) rfl, rfl⟩
theorem dL_245 : dc code 245 246 (.aload_n 0) 1 := ⟨dr_at drL_law_0 (i := 46) rfl, rfl⟩
theorem dL_246 : dc code 246 248 (.iload 4) 2 := ⟨dr_at drL_law_0 (i := 47) rfl, rfl⟩
theorem dL_248 : dc code 248 249 (.iconst 5) 1 := ⟨dr_at drL_law_0 (i := 48) rfl, rfl⟩
theorem dL_249 : dc code 249 250 .iadd 1 := ⟨dr_at drL_law_0 (i := 49) rfl, rfl⟩
theorem dL_250 : dc code 250 251 .iaload 1 := ⟨dr_at drL_law_0 (i := 50) rfl, rfl⟩
theorem dL_251 : dc code 251 254 (.invokevirtual 136) 3 := ⟨dr_at drL_law_0 (i := 51) rfl, rfl⟩
theorem dL_254 : dc code 254 255 (.aload_n 2) 1 := ⟨dr_at drL_law_0 (i := 52) rfl, rfl⟩
theorem dL_255 : dc code 255 256 (.aload_n 0) 1 := ⟨dr_at drL_law_0 (i := 53) rfl, rfl⟩
theorem dL_256 : dc code 256 258 (.iload 4) 2 := ⟨dr_at drL_law_0 (i := 54) rfl, rfl⟩
theorem dL_258 : dc code 258 259 (.iconst 1) 1 := ⟨dr_at drL_law_0 (i := 55) rfl, rfl⟩
theorem dL_259 : dc code 259 260 .iadd 1 := ⟨dr_at drL_law_0 (i := 56) rfl, rfl⟩
theorem dL_260 : dc code 260 261 .iaload 1 := ⟨dr_at drL_law_0 (i := 57) rfl, rfl⟩
theorem dL_261 : dc code 261 262 (.aload_n 0) 1 := ⟨dr_at drL_law_0 (i := 58) rfl, rfl⟩
theorem dL_262 : dc code 262 264 (.iload 4) 2 := ⟨dr_at drL_law_0 (i := 59) rfl, rfl⟩
theorem dL_264 : dc code 264 265 (.iconst 2) 1 := ⟨dr_at drL_law_0 (i := 60) rfl, rfl⟩
theorem dL_265 : dc code 265 266 .iadd 1 := ⟨dr_at drL_law_0 (i := 61) rfl, rfl⟩
theorem dL_266 : dc code 266 267 .iaload 1 := ⟨dr_at drL_law_0 (i := 62) rfl, rfl⟩
theorem dL_267 : dc code 267 268 (.aload_n 0) 1 := ⟨dr_at drL_law_0 (i := 63) rfl, rfl⟩
theorem dL_268 : dc code 268 270 (.iload 4) 2 := ⟨dr_at drL_law_0 (i := 64) rfl, rfl⟩
theorem dL_270 : dc code 270 271 (.iconst 3) 1 := ⟨dr_at drL_law_0 (i := 65) rfl, rfl⟩
theorem dL_271 : dc code 271 272 .iadd 1 := ⟨dr_at drL_law_0 (i := 66) rfl, rfl⟩
theorem dL_272 : dc code 272 273 .iaload 1 := ⟨dr_at drL_law_0 (i := 67) rfl, rfl⟩
theorem dL_273 : dc code 273 274 (.aload_n 0) 1 := ⟨dr_at drL_law_0 (i := 68) rfl, rfl⟩
theorem dL_274 : dc code 274 276 (.iload 4) 2 := ⟨dr_at drL_law_0 (i := 69) rfl, rfl⟩
theorem dL_276 : dc code 276 277 (.iconst 4) 1 := ⟨dr_at drL_law_0 (i := 70) rfl, rfl⟩
theorem dL_277 : dc code 277 278 .iadd 1 := ⟨dr_at drL_law_0 (i := 71) rfl, rfl⟩
theorem dL_278 : dc code 278 279 .iaload 1 := ⟨dr_at drL_law_0 (i := 72) rfl, rfl⟩
theorem dL_279 : dc code 279 280 (.aload_n 0) 1 := ⟨dr_at drL_law_0 (i := 73) rfl, rfl⟩
theorem dL_280 : dc code 280 282 (.iload 4) 2 := ⟨dr_at drL_law_0 (i := 74) rfl, rfl⟩
theorem dL_282 : dc code 282 283 (.iconst 5) 1 := ⟨dr_at drL_law_0 (i := 75) rfl, rfl⟩
theorem dL_283 : dc code 283 284 .iadd 1 := ⟨dr_at drL_law_0 (i := 76) rfl, rfl⟩
theorem dL_284 : dc code 284 285 .iaload 1 := ⟨dr_at drL_law_0 (i := 77) rfl, rfl⟩
theorem dL_285 : dc code 285 288 (.invokevirtual 139) 3 := ⟨dr_at drL_law_0 (i := 78) rfl, rfl⟩
theorem dL_288 : dc code 288 291 (.if_icmp .eq 2494) 3 := ⟨dr_at drL_law_0 (i := 79) rfl, rfl⟩
theorem dL_291 : dc code 291 292 (.iconst 0) 1 := ⟨dr_at drL_law_0 (i := 80) rfl, rfl⟩
theorem dL_293 : dc code 293 294 (.aload_n 1) 1 := ⟨dr_at drL_law_0 (i := 81) rfl, rfl⟩
theorem dL_294 : dc code 294 295 (.aload_n 0) 1 := ⟨dr_at drL_law_0 (i := 82) rfl, rfl⟩
theorem dL_295 : dc code 295 297 (.iload 4) 2 := ⟨dr_at drL_law_0 (i := 83) rfl, rfl⟩
theorem dL_297 : dc code 297 298 (.iconst 1) 1 := ⟨dr_at drL_law_0 (i := 84) rfl, rfl⟩
theorem dL_298 : dc code 298 299 .iadd 1 := ⟨dr_at drL_law_0 (i := 85) rfl, rfl⟩
theorem dL_299 : dc code 299 300 .iaload 1 := ⟨dr_at drL_law_0 (i := 86) rfl, rfl⟩
theorem dL_300 : dc code 300 303 (.invokevirtual 140) 3 := ⟨dr_at drL_law_0 (i := 87) rfl, rfl⟩
theorem dL_303 : dc code 303 304 (.aload_n 2) 1 := ⟨dr_at drL_law_0 (i := 88) rfl, rfl⟩
theorem dL_304 : dc code 304 305 (.aload_n 0) 1 := ⟨dr_at drL_law_0 (i := 89) rfl, rfl⟩
theorem dL_305 : dc code 305 307 (.iload 4) 2 := ⟨dr_at drL_law_0 (i := 90) rfl, rfl⟩
theorem dL_307 : dc code 307 308 (.iconst 1) 1 := ⟨dr_at drL_law_0 (i := 91) rfl, rfl⟩
theorem dL_308 : dc code 308 309 .iadd 1 := ⟨dr_at drL_law_0 (i := 92) rfl, rfl⟩
theorem dL_309 : dc code 309 310 .iaload 1 := ⟨dr_at drL_law_0 (i := 93) rfl, rfl⟩
theorem dL_310 : dc code 310 313 (.invokevirtual 143) 3 := ⟨dr_at drL_law_0 (i := 94) rfl, rfl⟩
theorem dL_313 : dc code 313 316 (.if_icmp .eq 2469) 3 := ⟨dr_at drL_law_0 (i := 95) rfl, rfl⟩
theorem dL_316 : dc code 316 317 (.iconst 0) 1 := ⟨dr_at drL_law_0 (i := 96) rfl, rfl⟩
theorem dL_318 : dc code 318 319 (.aload_n 1) 1 := ⟨dr_at drL_law_0 (i := 97) rfl, rfl⟩
theorem dL_319 : dc code 319 320 (.aload_n 0) 1 := ⟨dr_at drL_law_0 (i := 98) rfl, rfl⟩
theorem dL_320 : dc code 320 322 (.iload 4) 2 := ⟨dr_at drL_law_0 (i := 99) rfl, rfl⟩
theorem dL_322 : dc code 322 323 (.iconst 1) 1 := ⟨dr_at drL_law_0 (i := 100) rfl, rfl⟩
theorem dL_323 : dc code 323 324 .iadd 1 := ⟨dr_at drL_law_0 (i := 101) rfl, rfl⟩
theorem dL_324 : dc code 324 325 .iaload 1 := ⟨dr_at drL_law_0 (i := 102) rfl, rfl⟩
theorem dL_325 : dc code 325 328 (.invokestatic 144) 3 := ⟨dr_at drL_law_0 (i := 103) rfl, rfl⟩
theorem dL_328 : dc code 328 330 (.istore 5) 2 := ⟨dr_at drL_law_0 (i := 104) rfl, rfl⟩
theorem dL_330 : dc code 330 331 (.aload_n 2) 1 := ⟨dr_at drL_law_0 (i := 105) rfl, rfl⟩
theorem dL_331 : dc code 331 332 (.aload_n 0) 1 := ⟨dr_at drL_law_0 (i := 106) rfl, rfl⟩
theorem dL_332 : dc code 332 334 (.iload 4) 2 := ⟨dr_at drL_law_0 (i := 107) rfl, rfl⟩
theorem dL_334 : dc code 334 335 (.iconst 1) 1 := ⟨dr_at drL_law_0 (i := 108) rfl, rfl⟩
theorem dL_335 : dc code 335 336 .iadd 1 := ⟨dr_at drL_law_0 (i := 109) rfl, rfl⟩
theorem dL_336 : dc code 336 337 .iaload 1 := ⟨dr_at drL_law_0 (i := 110) rfl, rfl⟩
theorem dL_337 : dc code 337 340 (.invokevirtual 149) 3 := ⟨dr_at drL_law_0 (i := 111) rfl, rfl⟩
theorem dL_340 : dc code 340 341 (.aload_n 2) 1 := ⟨dr_at drL_law_0 (i := 112) rfl, rfl⟩
theorem dL_341 : dc code 341 344 (.invokevirtual 150) 3 := ⟨dr_at drL_law_0 (i := 113) rfl, rfl⟩
theorem dL_344 : dc code 344 346 (.iload 5) 2 := ⟨dr_at drL_law_0 (i := 114) rfl, rfl⟩
theorem dL_346 : dc code 346 349 (.if_icmp .eq 5) 3 := ⟨dr_at drL_law_0 (i := 115) rfl, rfl⟩
theorem dL_349 : dc code 349 350 (.iconst 0) 1 := ⟨dr_at drL_law_0 (i := 116) rfl, rfl⟩
theorem dL_351 : dc code 351 354 (.goto 2431) 3 := ⟨dr_at drL_law_0 (i := 117) rfl, rfl⟩
theorem dL_354 : dc code 354 355 (.aload_n 1) 1 := ⟨dr_at drL_law_0 (i := 118) rfl, rfl⟩
theorem dL_355 : dc code 355 356 (.aload_n 0) 1 := ⟨dr_at drL_law_0 (i := 119) rfl, rfl⟩
theorem dL_356 : dc code 356 358 (.iload 4) 2 := ⟨dr_at drL_law_0 (i := 120) rfl, rfl⟩
theorem dL_358 : dc code 358 359 (.iconst 1) 1 := ⟨dr_at drL_law_0 (i := 121) rfl, rfl⟩
theorem dL_359 : dc code 359 360 .iadd 1 := ⟨dr_at drL_law_0 (i := 122) rfl, rfl⟩
theorem dL_360 : dc code 360 361 .iaload 1 := ⟨dr_at drL_law_0 (i := 123) rfl, rfl⟩
theorem dL_361 : dc code 361 362 (.aload_n 0) 1 := ⟨dr_at drL_law_0 (i := 124) rfl, rfl⟩
theorem dL_362 : dc code 362 364 (.iload 4) 2 := ⟨dr_at drL_law_0 (i := 125) rfl, rfl⟩
theorem dL_364 : dc code 364 365 (.iconst 2) 1 := ⟨dr_at drL_law_0 (i := 126) rfl, rfl⟩
theorem dL_365 : dc code 365 366 .iadd 1 := ⟨dr_at drL_law_0 (i := 127) rfl, rfl⟩
theorem dL_366 : dc code 366 367 .iaload 1 := ⟨dr_at drL_law_0 (i := 128) rfl, rfl⟩
theorem dL_367 : dc code 367 368 (.aload_n 0) 1 := ⟨dr_at drL_law_0 (i := 129) rfl, rfl⟩
theorem dL_368 : dc code 368 370 (.iload 4) 2 := ⟨dr_at drL_law_0 (i := 130) rfl, rfl⟩
theorem dL_370 : dc code 370 371 (.iconst 3) 1 := ⟨dr_at drL_law_0 (i := 131) rfl, rfl⟩
theorem dL_371 : dc code 371 372 .iadd 1 := ⟨dr_at drL_law_0 (i := 132) rfl, rfl⟩
theorem dL_372 : dc code 372 373 .iaload 1 := ⟨dr_at drL_law_0 (i := 133) rfl, rfl⟩
theorem dL_373 : dc code 373 374 (.aload_n 0) 1 := ⟨dr_at drL_law_0 (i := 134) rfl, rfl⟩
theorem dL_374 : dc code 374 376 (.iload 4) 2 := ⟨dr_at drL_law_0 (i := 135) rfl, rfl⟩
theorem dL_376 : dc code 376 377 (.iconst 4) 1 := ⟨dr_at drL_law_0 (i := 136) rfl, rfl⟩
theorem dL_377 : dc code 377 378 .iadd 1 := ⟨dr_at drL_law_0 (i := 137) rfl, rfl⟩
theorem dL_378 : dc code 378 379 .iaload 1 := ⟨dr_at drL_law_0 (i := 138) rfl, rfl⟩
theorem dL_379 : dc code 379 382 (.invokestatic 153) 3 := ⟨dr_at drL_law_0 (i := 139) rfl, rfl⟩
theorem dL_382 : dc code 382 384 (.istore 5) 2 := ⟨dr_at drL_law_0 (i := 140) rfl, rfl⟩
theorem dL_384 : dc code 384 385 (.aload_n 2) 1 := ⟨dr_at drL_law_0 (i := 141) rfl, rfl⟩
theorem dL_385 : dc code 385 386 (.aload_n 0) 1 := ⟨dr_at drL_law_0 (i := 142) rfl, rfl⟩
theorem dL_386 : dc code 386 388 (.iload 4) 2 := ⟨dr_at drL_law_0 (i := 143) rfl, rfl⟩
theorem dL_388 : dc code 388 389 (.iconst 1) 1 := ⟨dr_at drL_law_0 (i := 144) rfl, rfl⟩
theorem dL_389 : dc code 389 390 .iadd 1 := ⟨dr_at drL_law_0 (i := 145) rfl, rfl⟩
theorem dL_390 : dc code 390 391 .iaload 1 := ⟨dr_at drL_law_0 (i := 146) rfl, rfl⟩
theorem dL_391 : dc code 391 392 (.aload_n 0) 1 := ⟨dr_at drL_law_0 (i := 147) rfl, rfl⟩
theorem dL_392 : dc code 392 394 (.iload 4) 2 := ⟨dr_at drL_law_0 (i := 148) rfl, rfl⟩
theorem dL_394 : dc code 394 395 (.iconst 2) 1 := ⟨dr_at drL_law_0 (i := 149) rfl, rfl⟩
theorem drL_law_395 : ([(395, .iadd, 1), (396, .iaload, 1), (397, (.aload_n 0), 1), (398, (.iload 4), 2), (400, (.iconst 3), 1), (401, .iadd, 1), (402, .iaload, 1), (403, (.aload_n 0), 1), (404, (.iload 4), 2), (406, (.iconst 4), 1), (407, .iadd, 1), (408, .iaload, 1), (409, (.invokevirtual 156), 3), (412, (.aload_n 2), 1), (413, (.invokevirtual 150), 3), (416, (.iload 5), 2), (418, (.if_icmp .eq 5), 3), (421, (.iconst 0), 1), (423, (.goto 2359), 3), (426, (.aload_n 1), 1), (427, (.aload_n 0), 1), (428, (.iload 4), 2), (430, (.iconst 1), 1), (431, .iadd, 1), (432, .iaload, 1), (433, (.aload_n 0), 1), (434, (.iload 4), 2), (436, (.iconst 2), 1), (437, .iadd, 1), (438, .iaload, 1), (439, (.invokestatic 157), 3), (442, (.istore 5), 2), (444, (.aload_n 2), 1), (445, (.aload_n 0), 1), (446, (.iload 4), 2), (448, (.iconst 1), 1), (449, .iadd, 1), (450, .iaload, 1), (451, (.aload_n 0), 1), (452, (.iload 4), 2), (454, (.iconst 2), 1), (455, .iadd, 1), (456, .iaload, 1), (457, (.invokevirtual 160), 3), (460, (.aload_n 2), 1), (461, (.invokevirtual 150), 3), (464, (.iload 5), 2), (466, (.if_icmp .eq 5), 3), (469, (.iconst 0), 1), (471, (.goto 2311), 3), (474, (.aload_n 1), 1), (475, (.aload_n 3), 1), (476, (.invokestatic 161), 3), (479, (.istore 5), 2), (481, (.aload_n 2), 1), (482, (.invokevirtual 164), 3), (485, (.istore 6), 2), (487, (.aload_n 2), 1), (488, (.invokevirtual 150), 3), (491, (.iload 5), 2), (493, (.if_icmp .eq 5), 3), (496, (.iconst 0), 1), (498, (.iload 5), 2), (500, (.ifCond .ne 15), 3), (503, (.aload_n 3), 1), (504, (.iconst 0), 1), (505, .laload, 1), (506, (.iload 6), 2), (508, .i2l, 1), (509, .lcmp, 1), (510, (.ifCond .eq 5), 3), (513, (.iconst 0), 1), (515, (.goto 2267), 3), (518, (.aload_n 1), 1), (519, (.invokevirtual 165), 3), (522, (.aload_n 2), 1), (523, (.invokevirtual 168), 3), (526, (.if_icmp .eq 2256), 3), (529, (.iconst 0), 1), (531, (.aload_n 1), 1), (532, (.aload_n 0), 1), (533, (.iload 4), 2), (535, (.iconst 1), 1), (536, .iadd, 1), (537, .iaload, 1), (538, (.aload_n 0), 1), (539, (.iload 4), 2), (541, (.iconst 2), 1), (542, .iadd, 1), (543, .iaload, 1), (544, (.aload_n 0), 1), (545, (.iload 4), 2), (547, (.iconst 3), 1), (548, .iadd, 1), (549, .iaload, 1), (550, (.aload_n 3), 1), (551, (.invokestatic 169), 3), (554, (.istore 5), 2), (556, (.aload_n 2), 1), (557, (.aload_n 0), 1), (558, (.iload 4), 2), (560, (.iconst 1), 1), (561, .iadd, 1), (562, .iaload, 1), (563, (.aload_n 0), 1), (564, (.iload 4), 2), (566, (.iconst 2), 1), (567, .iadd, 1), (568, .iaload, 1), (569, (.aload_n 0), 1), (570, (.iload 4), 2), (572, (.iconst 3), 1), (573, .iadd, 1), (574, .iaload, 1), (575, (.invokevirtual 172), 3), (578, (.istore 6), 2), (580, (.aload_n 2), 1), (581, (.invokevirtual 150), 3), (584, (.iload 5), 2), (586, (.if_icmp .eq 5), 3), (589, (.iconst 0), 1), (591, (.iload 5), 2), (593, (.ifCond .ne 15), 3), (596, (.aload_n 3), 1), (597, (.iconst 0), 1), (598, .laload, 1), (599, (.iload 6), 2), (601, .i2l, 1), (602, .lcmp, 1), (603, (.ifCond .eq 5), 3), (606, (.iconst 0), 1), (608, (.goto 2174), 3), (611, (.aload_n 1), 1), (612, (.aload_n 0), 1), (613, (.iload 4), 2), (615, (.iconst 1), 1), (616, .iadd, 1), (617, .iaload, 1), (618, (.aload_n 0), 1), (619, (.iload 4), 2), (621, (.iconst 2), 1), (622, .iadd, 1), (623, .iaload, 1), (624, (.aload_n 0), 1), (625, (.iload 4), 2), (627, (.iconst 3), 1), (628, .iadd, 1), (629, .iaload, 1), (630, (.aload_n 0), 1), (631, (.iload 4), 2)] : List (Nat × Instr × Nat)).all (fun q => decide (decode code q.1 = .ok q.2)) = true := by decide +kernel
theorem dL_395 : dc code 395 396 .iadd 1 := ⟨dr_at drL_law_395 (i := 0) rfl, rfl⟩
theorem dL_396 : dc code 396 397 .iaload 1 := ⟨dr_at drL_law_395 (i := 1) rfl, rfl⟩
theorem dL_397 : dc code 397 398 (.aload_n 0) 1 := ⟨dr_at drL_law_395 (i := 2) rfl, rfl⟩
theorem dL_398 : dc code 398 400 (.iload 4) 2 := ⟨dr_at drL_law_395 (i := 3) rfl, rfl⟩
theorem dL_400 : dc code 400 401 (.iconst 3) 1 := ⟨dr_at drL_law_395 (i := 4) rfl, rfl⟩
theorem dL_401 : dc code 401 402 .iadd 1 := ⟨dr_at drL_law_395 (i := 5) rfl, rfl⟩
theorem dL_402 : dc code 402 403 .iaload 1 := ⟨dr_at drL_law_395 (i := 6) rfl, rfl⟩
theorem dL_403 : dc code 403 404 (.aload_n 0) 1 := ⟨dr_at drL_law_395 (i := 7) rfl, rfl⟩
theorem dL_404 : dc code 404 406 (.iload 4) 2 := ⟨dr_at drL_law_395 (i := 8) rfl, rfl⟩
theorem dL_406 : dc code 406 407 (.iconst 4) 1 := ⟨dr_at drL_law_395 (i := 9) rfl, rfl⟩
theorem dL_407 : dc code 407 408 .iadd 1 := ⟨dr_at drL_law_395 (i := 10) rfl, rfl⟩
theorem dL_408 : dc code 408 409 .iaload 1 := ⟨dr_at drL_law_395 (i := 11) rfl, rfl⟩
theorem dL_409 : dc code 409 412 (.invokevirtual 156) 3 := ⟨dr_at drL_law_395 (i := 12) rfl, rfl⟩
theorem dL_412 : dc code 412 413 (.aload_n 2) 1 := ⟨dr_at drL_law_395 (i := 13) rfl, rfl⟩
theorem dL_413 : dc code 413 416 (.invokevirtual 150) 3 := ⟨dr_at drL_law_395 (i := 14) rfl, rfl⟩
theorem dL_416 : dc code 416 418 (.iload 5) 2 := ⟨dr_at drL_law_395 (i := 15) rfl, rfl⟩
theorem dL_418 : dc code 418 421 (.if_icmp .eq 5) 3 := ⟨dr_at drL_law_395 (i := 16) rfl, rfl⟩
theorem dL_421 : dc code 421 422 (.iconst 0) 1 := ⟨dr_at drL_law_395 (i := 17) rfl, rfl⟩
theorem dL_423 : dc code 423 426 (.goto 2359) 3 := ⟨dr_at drL_law_395 (i := 18) rfl, rfl⟩
theorem dL_426 : dc code 426 427 (.aload_n 1) 1 := ⟨dr_at drL_law_395 (i := 19) rfl, rfl⟩
theorem dL_427 : dc code 427 428 (.aload_n 0) 1 := ⟨dr_at drL_law_395 (i := 20) rfl, rfl⟩
theorem dL_428 : dc code 428 430 (.iload 4) 2 := ⟨dr_at drL_law_395 (i := 21) rfl, rfl⟩
theorem dL_430 : dc code 430 431 (.iconst 1) 1 := ⟨dr_at drL_law_395 (i := 22) rfl, rfl⟩
theorem dL_431 : dc code 431 432 .iadd 1 := ⟨dr_at drL_law_395 (i := 23) rfl, rfl⟩
theorem dL_432 : dc code 432 433 .iaload 1 := ⟨dr_at drL_law_395 (i := 24) rfl, rfl⟩
theorem dL_433 : dc code 433 434 (.aload_n 0) 1 := ⟨dr_at drL_law_395 (i := 25) rfl, rfl⟩
theorem dL_434 : dc code 434 436 (.iload 4) 2 := ⟨dr_at drL_law_395 (i := 26) rfl, rfl⟩
theorem dL_436 : dc code 436 437 (.iconst 2) 1 := ⟨dr_at drL_law_395 (i := 27) rfl, rfl⟩
theorem dL_437 : dc code 437 438 .iadd 1 := ⟨dr_at drL_law_395 (i := 28) rfl, rfl⟩
theorem dL_438 : dc code 438 439 .iaload 1 := ⟨dr_at drL_law_395 (i := 29) rfl, rfl⟩
theorem dL_439 : dc code 439 442 (.invokestatic 157) 3 := ⟨dr_at drL_law_395 (i := 30) rfl, rfl⟩
theorem dL_442 : dc code 442 444 (.istore 5) 2 := ⟨dr_at drL_law_395 (i := 31) rfl, rfl⟩
theorem dL_444 : dc code 444 445 (.aload_n 2) 1 := ⟨dr_at drL_law_395 (i := 32) rfl, rfl⟩
theorem dL_445 : dc code 445 446 (.aload_n 0) 1 := ⟨dr_at drL_law_395 (i := 33) rfl, rfl⟩
theorem dL_446 : dc code 446 448 (.iload 4) 2 := ⟨dr_at drL_law_395 (i := 34) rfl, rfl⟩
theorem dL_448 : dc code 448 449 (.iconst 1) 1 := ⟨dr_at drL_law_395 (i := 35) rfl, rfl⟩
theorem dL_449 : dc code 449 450 .iadd 1 := ⟨dr_at drL_law_395 (i := 36) rfl, rfl⟩
theorem dL_450 : dc code 450 451 .iaload 1 := ⟨dr_at drL_law_395 (i := 37) rfl, rfl⟩
theorem dL_451 : dc code 451 452 (.aload_n 0) 1 := ⟨dr_at drL_law_395 (i := 38) rfl, rfl⟩
theorem dL_452 : dc code 452 454 (.iload 4) 2 := ⟨dr_at drL_law_395 (i := 39) rfl, rfl⟩
theorem dL_454 : dc code 454 455 (.iconst 2) 1 := ⟨dr_at drL_law_395 (i := 40) rfl, rfl⟩
theorem dL_455 : dc code 455 456 .iadd 1 := ⟨dr_at drL_law_395 (i := 41) rfl, rfl⟩
theorem dL_456 : dc code 456 457 .iaload 1 := ⟨dr_at drL_law_395 (i := 42) rfl, rfl⟩
theorem dL_457 : dc code 457 460 (.invokevirtual 160) 3 := ⟨dr_at drL_law_395 (i := 43) rfl, rfl⟩
theorem dL_460 : dc code 460 461 (.aload_n 2) 1 := ⟨dr_at drL_law_395 (i := 44) rfl, rfl⟩
theorem dL_461 : dc code 461 464 (.invokevirtual 150) 3 := ⟨dr_at drL_law_395 (i := 45) rfl, rfl⟩
theorem dL_464 : dc code 464 466 (.iload 5) 2 := ⟨dr_at drL_law_395 (i := 46) rfl, rfl⟩
theorem dL_466 : dc code 466 469 (.if_icmp .eq 5) 3 := ⟨dr_at drL_law_395 (i := 47) rfl, rfl⟩
theorem dL_469 : dc code 469 470 (.iconst 0) 1 := ⟨dr_at drL_law_395 (i := 48) rfl, rfl⟩
theorem dL_471 : dc code 471 474 (.goto 2311) 3 := ⟨dr_at drL_law_395 (i := 49) rfl, rfl⟩
theorem dL_474 : dc code 474 475 (.aload_n 1) 1 := ⟨dr_at drL_law_395 (i := 50) rfl, rfl⟩
theorem dL_475 : dc code 475 476 (.aload_n 3) 1 := ⟨dr_at drL_law_395 (i := 51) rfl, rfl⟩
theorem dL_476 : dc code 476 479 (.invokestatic 161) 3 := ⟨dr_at drL_law_395 (i := 52) rfl, rfl⟩
theorem dL_479 : dc code 479 481 (.istore 5) 2 := ⟨dr_at drL_law_395 (i := 53) rfl, rfl⟩
theorem dL_481 : dc code 481 482 (.aload_n 2) 1 := ⟨dr_at drL_law_395 (i := 54) rfl, rfl⟩
theorem dL_482 : dc code 482 485 (.invokevirtual 164) 3 := ⟨dr_at drL_law_395 (i := 55) rfl, rfl⟩
theorem dL_485 : dc code 485 487 (.istore 6) 2 := ⟨dr_at drL_law_395 (i := 56) rfl, rfl⟩
theorem dL_487 : dc code 487 488 (.aload_n 2) 1 := ⟨dr_at drL_law_395 (i := 57) rfl, rfl⟩
theorem dL_488 : dc code 488 491 (.invokevirtual 150) 3 := ⟨dr_at drL_law_395 (i := 58) rfl, rfl⟩
theorem dL_491 : dc code 491 493 (.iload 5) 2 := ⟨dr_at drL_law_395 (i := 59) rfl, rfl⟩
theorem dL_493 : dc code 493 496 (.if_icmp .eq 5) 3 := ⟨dr_at drL_law_395 (i := 60) rfl, rfl⟩
theorem dL_496 : dc code 496 497 (.iconst 0) 1 := ⟨dr_at drL_law_395 (i := 61) rfl, rfl⟩
theorem dL_498 : dc code 498 500 (.iload 5) 2 := ⟨dr_at drL_law_395 (i := 62) rfl, rfl⟩
theorem dL_500 : dc code 500 503 (.ifCond .ne 15) 3 := ⟨dr_at drL_law_395 (i := 63) rfl, rfl⟩
theorem dL_503 : dc code 503 504 (.aload_n 3) 1 := ⟨dr_at drL_law_395 (i := 64) rfl, rfl⟩
theorem dL_504 : dc code 504 505 (.iconst 0) 1 := ⟨dr_at drL_law_395 (i := 65) rfl, rfl⟩
theorem dL_505 : dc code 505 506 .laload 1 := ⟨dr_at drL_law_395 (i := 66) rfl, rfl⟩
theorem dL_506 : dc code 506 508 (.iload 6) 2 := ⟨dr_at drL_law_395 (i := 67) rfl, rfl⟩
theorem dL_508 : dc code 508 509 .i2l 1 := ⟨dr_at drL_law_395 (i := 68) rfl, rfl⟩
theorem dL_509 : dc code 509 510 .lcmp 1 := ⟨dr_at drL_law_395 (i := 69) rfl, rfl⟩
theorem dL_510 : dc code 510 513 (.ifCond .eq 5) 3 := ⟨dr_at drL_law_395 (i := 70) rfl, rfl⟩
theorem dL_513 : dc code 513 514 (.iconst 0) 1 := ⟨dr_at drL_law_395 (i := 71) rfl, rfl⟩
theorem dL_515 : dc code 515 518 (.goto 2267) 3 := ⟨dr_at drL_law_395 (i := 72) rfl, rfl⟩
theorem dL_518 : dc code 518 519 (.aload_n 1) 1 := ⟨dr_at drL_law_395 (i := 73) rfl, rfl⟩
theorem dL_519 : dc code 519 522 (.invokevirtual 165) 3 := ⟨dr_at drL_law_395 (i := 74) rfl, rfl⟩
theorem dL_522 : dc code 522 523 (.aload_n 2) 1 := ⟨dr_at drL_law_395 (i := 75) rfl, rfl⟩
theorem dL_523 : dc code 523 526 (.invokevirtual 168) 3 := ⟨dr_at drL_law_395 (i := 76) rfl, rfl⟩
theorem dL_526 : dc code 526 529 (.if_icmp .eq 2256) 3 := ⟨dr_at drL_law_395 (i := 77) rfl, rfl⟩
theorem dL_529 : dc code 529 530 (.iconst 0) 1 := ⟨dr_at drL_law_395 (i := 78) rfl, rfl⟩
theorem dL_531 : dc code 531 532 (.aload_n 1) 1 := ⟨dr_at drL_law_395 (i := 79) rfl, rfl⟩
theorem dL_532 : dc code 532 533 (.aload_n 0) 1 := ⟨dr_at drL_law_395 (i := 80) rfl, rfl⟩
theorem dL_533 : dc code 533 535 (.iload 4) 2 := ⟨dr_at drL_law_395 (i := 81) rfl, rfl⟩
theorem dL_535 : dc code 535 536 (.iconst 1) 1 := ⟨dr_at drL_law_395 (i := 82) rfl, rfl⟩
theorem dL_536 : dc code 536 537 .iadd 1 := ⟨dr_at drL_law_395 (i := 83) rfl, rfl⟩
theorem dL_537 : dc code 537 538 .iaload 1 := ⟨dr_at drL_law_395 (i := 84) rfl, rfl⟩
theorem dL_538 : dc code 538 539 (.aload_n 0) 1 := ⟨dr_at drL_law_395 (i := 85) rfl, rfl⟩
theorem dL_539 : dc code 539 541 (.iload 4) 2 := ⟨dr_at drL_law_395 (i := 86) rfl, rfl⟩
theorem dL_541 : dc code 541 542 (.iconst 2) 1 := ⟨dr_at drL_law_395 (i := 87) rfl, rfl⟩
theorem dL_542 : dc code 542 543 .iadd 1 := ⟨dr_at drL_law_395 (i := 88) rfl, rfl⟩
theorem dL_543 : dc code 543 544 .iaload 1 := ⟨dr_at drL_law_395 (i := 89) rfl, rfl⟩
theorem dL_544 : dc code 544 545 (.aload_n 0) 1 := ⟨dr_at drL_law_395 (i := 90) rfl, rfl⟩
theorem dL_545 : dc code 545 547 (.iload 4) 2 := ⟨dr_at drL_law_395 (i := 91) rfl, rfl⟩
theorem dL_547 : dc code 547 548 (.iconst 3) 1 := ⟨dr_at drL_law_395 (i := 92) rfl, rfl⟩
theorem dL_548 : dc code 548 549 .iadd 1 := ⟨dr_at drL_law_395 (i := 93) rfl, rfl⟩
theorem dL_549 : dc code 549 550 .iaload 1 := ⟨dr_at drL_law_395 (i := 94) rfl, rfl⟩
theorem dL_550 : dc code 550 551 (.aload_n 3) 1 := ⟨dr_at drL_law_395 (i := 95) rfl, rfl⟩
theorem dL_551 : dc code 551 554 (.invokestatic 169) 3 := ⟨dr_at drL_law_395 (i := 96) rfl, rfl⟩
theorem dL_554 : dc code 554 556 (.istore 5) 2 := ⟨dr_at drL_law_395 (i := 97) rfl, rfl⟩
theorem dL_556 : dc code 556 557 (.aload_n 2) 1 := ⟨dr_at drL_law_395 (i := 98) rfl, rfl⟩
theorem dL_557 : dc code 557 558 (.aload_n 0) 1 := ⟨dr_at drL_law_395 (i := 99) rfl, rfl⟩
theorem dL_558 : dc code 558 560 (.iload 4) 2 := ⟨dr_at drL_law_395 (i := 100) rfl, rfl⟩
theorem dL_560 : dc code 560 561 (.iconst 1) 1 := ⟨dr_at drL_law_395 (i := 101) rfl, rfl⟩
theorem dL_561 : dc code 561 562 .iadd 1 := ⟨dr_at drL_law_395 (i := 102) rfl, rfl⟩
theorem dL_562 : dc code 562 563 .iaload 1 := ⟨dr_at drL_law_395 (i := 103) rfl, rfl⟩
theorem dL_563 : dc code 563 564 (.aload_n 0) 1 := ⟨dr_at drL_law_395 (i := 104) rfl, rfl⟩
theorem dL_564 : dc code 564 566 (.iload 4) 2 := ⟨dr_at drL_law_395 (i := 105) rfl, rfl⟩
theorem dL_566 : dc code 566 567 (.iconst 2) 1 := ⟨dr_at drL_law_395 (i := 106) rfl, rfl⟩
theorem dL_567 : dc code 567 568 .iadd 1 := ⟨dr_at drL_law_395 (i := 107) rfl, rfl⟩
theorem dL_568 : dc code 568 569 .iaload 1 := ⟨dr_at drL_law_395 (i := 108) rfl, rfl⟩
theorem dL_569 : dc code 569 570 (.aload_n 0) 1 := ⟨dr_at drL_law_395 (i := 109) rfl, rfl⟩
theorem dL_570 : dc code 570 572 (.iload 4) 2 := ⟨dr_at drL_law_395 (i := 110) rfl, rfl⟩
theorem dL_572 : dc code 572 573 (.iconst 3) 1 := ⟨dr_at drL_law_395 (i := 111) rfl, rfl⟩
theorem dL_573 : dc code 573 574 .iadd 1 := ⟨dr_at drL_law_395 (i := 112) rfl, rfl⟩
theorem dL_574 : dc code 574 575 .iaload 1 := ⟨dr_at drL_law_395 (i := 113) rfl, rfl⟩
theorem dL_575 : dc code 575 578 (.invokevirtual 172) 3 := ⟨dr_at drL_law_395 (i := 114) rfl, rfl⟩
theorem dL_578 : dc code 578 580 (.istore 6) 2 := ⟨dr_at drL_law_395 (i := 115) rfl, rfl⟩
theorem dL_580 : dc code 580 581 (.aload_n 2) 1 := ⟨dr_at drL_law_395 (i := 116) rfl, rfl⟩
theorem dL_581 : dc code 581 584 (.invokevirtual 150) 3 := ⟨dr_at drL_law_395 (i := 117) rfl, rfl⟩
theorem dL_584 : dc code 584 586 (.iload 5) 2 := ⟨dr_at drL_law_395 (i := 118) rfl, rfl⟩
theorem dL_586 : dc code 586 589 (.if_icmp .eq 5) 3 := ⟨dr_at drL_law_395 (i := 119) rfl, rfl⟩
theorem dL_589 : dc code 589 590 (.iconst 0) 1 := ⟨dr_at drL_law_395 (i := 120) rfl, rfl⟩
theorem dL_591 : dc code 591 593 (.iload 5) 2 := ⟨dr_at drL_law_395 (i := 121) rfl, rfl⟩
theorem dL_593 : dc code 593 596 (.ifCond .ne 15) 3 := ⟨dr_at drL_law_395 (i := 122) rfl, rfl⟩
theorem dL_596 : dc code 596 597 (.aload_n 3) 1 := ⟨dr_at drL_law_395 (i := 123) rfl, rfl⟩
theorem dL_597 : dc code 597 598 (.iconst 0) 1 := ⟨dr_at drL_law_395 (i := 124) rfl, rfl⟩
theorem dL_598 : dc code 598 599 .laload 1 := ⟨dr_at drL_law_395 (i := 125) rfl, rfl⟩
theorem dL_599 : dc code 599 601 (.iload 6) 2 := ⟨dr_at drL_law_395 (i := 126) rfl, rfl⟩
theorem dL_601 : dc code 601 602 .i2l 1 := ⟨dr_at drL_law_395 (i := 127) rfl, rfl⟩
theorem dL_602 : dc code 602 603 .lcmp 1 := ⟨dr_at drL_law_395 (i := 128) rfl, rfl⟩
theorem dL_603 : dc code 603 606 (.ifCond .eq 5) 3 := ⟨dr_at drL_law_395 (i := 129) rfl, rfl⟩
theorem dL_606 : dc code 606 607 (.iconst 0) 1 := ⟨dr_at drL_law_395 (i := 130) rfl, rfl⟩
theorem dL_608 : dc code 608 611 (.goto 2174) 3 := ⟨dr_at drL_law_395 (i := 131) rfl, rfl⟩
theorem dL_611 : dc code 611 612 (.aload_n 1) 1 := ⟨dr_at drL_law_395 (i := 132) rfl, rfl⟩
theorem dL_612 : dc code 612 613 (.aload_n 0) 1 := ⟨dr_at drL_law_395 (i := 133) rfl, rfl⟩
theorem dL_613 : dc code 613 615 (.iload 4) 2 := ⟨dr_at drL_law_395 (i := 134) rfl, rfl⟩
theorem dL_615 : dc code 615 616 (.iconst 1) 1 := ⟨dr_at drL_law_395 (i := 135) rfl, rfl⟩
theorem dL_616 : dc code 616 617 .iadd 1 := ⟨dr_at drL_law_395 (i := 136) rfl, rfl⟩
theorem dL_617 : dc code 617 618 .iaload 1 := ⟨dr_at drL_law_395 (i := 137) rfl, rfl⟩
theorem dL_618 : dc code 618 619 (.aload_n 0) 1 := ⟨dr_at drL_law_395 (i := 138) rfl, rfl⟩
theorem dL_619 : dc code 619 621 (.iload 4) 2 := ⟨dr_at drL_law_395 (i := 139) rfl, rfl⟩
theorem dL_621 : dc code 621 622 (.iconst 2) 1 := ⟨dr_at drL_law_395 (i := 140) rfl, rfl⟩
theorem dL_622 : dc code 622 623 .iadd 1 := ⟨dr_at drL_law_395 (i := 141) rfl, rfl⟩
theorem dL_623 : dc code 623 624 .iaload 1 := ⟨dr_at drL_law_395 (i := 142) rfl, rfl⟩
theorem dL_624 : dc code 624 625 (.aload_n 0) 1 := ⟨dr_at drL_law_395 (i := 143) rfl, rfl⟩
theorem dL_625 : dc code 625 627 (.iload 4) 2 := ⟨dr_at drL_law_395 (i := 144) rfl, rfl⟩
theorem dL_627 : dc code 627 628 (.iconst 3) 1 := ⟨dr_at drL_law_395 (i := 145) rfl, rfl⟩
theorem dL_628 : dc code 628 629 .iadd 1 := ⟨dr_at drL_law_395 (i := 146) rfl, rfl⟩
theorem dL_629 : dc code 629 630 .iaload 1 := ⟨dr_at drL_law_395 (i := 147) rfl, rfl⟩
theorem dL_630 : dc code 630 631 (.aload_n 0) 1 := ⟨dr_at drL_law_395 (i := 148) rfl, rfl⟩
theorem dL_631 : dc code 631 633 (.iload 4) 2 := ⟨dr_at drL_law_395 (i := 149) rfl, rfl⟩
theorem drL_law_633 : ([(633, (.iconst 4), 1), (634, .iadd, 1), (635, .iaload, 1), (636, (.aload_n 0), 1), (637, (.iload 4), 2), (639, (.iconst 5), 1), (640, .iadd, 1), (641, .iaload, 1), (642, (.aload_n 0), 1), (643, (.iload 4), 2), (645, (.bipush 6), 2), (647, .iadd, 1), (648, .iaload, 1), (649, (.ifCond .eq 7), 3), (652, (.iconst 1), 1), (653, (.goto 4), 3), (656, (.iconst 0), 1), (657, (.aload_n 3), 1), (658, (.invokestatic 173), 3), (661, (.istore 5), 2), (663, (.aload_n 2), 1), (664, (.aload_n 0), 1), (665, (.iload 4), 2), (667, (.iconst 1), 1), (668, .iadd, 1), (669, .iaload, 1), (670, (.aload_n 0), 1), (671, (.iload 4), 2), (673, (.iconst 2), 1), (674, .iadd, 1), (675, .iaload, 1), (676, (.aload_n 0), 1), (677, (.iload 4), 2), (679, (.iconst 3), 1), (680, .iadd, 1), (681, .iaload, 1), (682, (.aload_n 0), 1), (683, (.iload 4), 2), (685, (.iconst 4), 1), (686, .iadd, 1), (687, .iaload, 1), (688, (.aload_n 0), 1), (689, (.iload 4), 2), (691, (.iconst 5), 1), (692, .iadd, 1), (693, .iaload, 1), (694, (.aload_n 0), 1), (695, (.iload 4), 2), (697, (.bipush 6), 2), (699, .iadd, 1), (700, .iaload, 1), (701, (.ifCond .eq 7), 3), (704, (.iconst 1), 1), (705, (.goto 4), 3), (708, (.iconst 0), 1), (709, (.invokevirtual 176), 3), (712, (.lstore 6), 2), (714, (.aload_n 2), 1), (715, (.invokevirtual 150), 3), (718, (.iload 5), 2), (720, (.if_icmp .eq 5), 3), (723, (.iconst 0), 1), (725, (.iload 5), 2), (727, (.ifCond .ne 14), 3), (730, (.aload_n 3), 1), (731, (.iconst 0), 1), (732, .laload, 1), (733, (.lload 6), 2), (735, .lcmp, 1), (736, (.ifCond .eq 5), 3), (739, (.iconst 0), 1), (741, (.goto 2041), 3), (744, (.aload_n 1), 1), (745, (.aload_n 0), 1), (746, (.iload 4), 2), (748, (.iconst 1), 1), (749, .iadd, 1), (750, .iaload, 1), (751, (.aload_n 0), 1), (752, (.iload 4), 2), (754, (.iconst 2), 1), (755, .iadd, 1), (756, .iaload, 1), (757, (.aload_n 3), 1), (758, (.invokestatic 177), 3), (761, (.istore 5), 2), (763, (.aload_n 2), 1), (764, (.aload_n 0), 1), (765, (.iload 4), 2), (767, (.iconst 1), 1), (768, .iadd, 1), (769, .iaload, 1), (770, (.aload_n 0), 1), (771, (.iload 4), 2), (773, (.iconst 2), 1), (774, .iadd, 1), (775, .iaload, 1), (776, (.invokevirtual 180), 3), (779, (.istore 6), 2), (781, (.aload_n 2), 1), (782, (.invokevirtual 150), 3), (785, (.iload 5), 2), (787, (.if_icmp .eq 5), 3), (790, (.iconst 0), 1), (792, (.iload 5), 2), (794, (.ifCond .ne 22), 3), (797, (.aload_n 3), 1), (798, (.iconst 0), 1), (799, .laload, 1), (800, (.iload 6), 2), (802, (.ifCond .eq 7), 3), (805, (.lconst 1), 1), (806, (.goto 4), 3), (809, (.lconst 0), 1), (810, .lcmp, 1), (811, (.ifCond .eq 5), 3), (814, (.iconst 0), 1), (816, (.goto 1966), 3), (819, (.aload_n 1), 1), (820, (.aload_n 0), 1), (821, (.iload 4), 2), (823, (.iconst 1), 1), (824, .iadd, 1), (825, .iaload, 1), (826, (.aload_n 0), 1), (827, (.iload 4), 2)] : List (Nat × Instr × Nat)).all (fun q => decide (decode code q.1 = .ok q.2)) = true := by decide +kernel
theorem dL_633 : dc code 633 634 (.iconst 4) 1 := ⟨dr_at drL_law_633 (i := 0) rfl, rfl⟩
theorem dL_634 : dc code 634 635 .iadd 1 := ⟨dr_at drL_law_633 (i := 1) rfl, rfl⟩
theorem dL_635 : dc code 635 636 .iaload 1 := ⟨dr_at drL_law_633 (i := 2) rfl, rfl⟩
theorem dL_636 : dc code 636 637 (.aload_n 0) 1 := ⟨dr_at drL_law_633 (i := 3) rfl, rfl⟩
theorem dL_637 : dc code 637 639 (.iload 4) 2 := ⟨dr_at drL_law_633 (i := 4) rfl, rfl⟩
theorem dL_639 : dc code 639 640 (.iconst 5) 1 := ⟨dr_at drL_law_633 (i := 5) rfl, rfl⟩
theorem dL_640 : dc code 640 641 .iadd 1 := ⟨dr_at drL_law_633 (i := 6) rfl, rfl⟩
theorem dL_641 : dc code 641 642 .iaload 1 := ⟨dr_at drL_law_633 (i := 7) rfl, rfl⟩
theorem dL_642 : dc code 642 643 (.aload_n 0) 1 := ⟨dr_at drL_law_633 (i := 8) rfl, rfl⟩
theorem dL_643 : dc code 643 645 (.iload 4) 2 := ⟨dr_at drL_law_633 (i := 9) rfl, rfl⟩
theorem dL_645 : dc code 645 647 (.bipush 6) 2 := ⟨dr_at drL_law_633 (i := 10) rfl, rfl⟩
theorem dL_647 : dc code 647 648 .iadd 1 := ⟨dr_at drL_law_633 (i := 11) rfl, rfl⟩
theorem dL_648 : dc code 648 649 .iaload 1 := ⟨dr_at drL_law_633 (i := 12) rfl, rfl⟩
theorem dL_649 : dc code 649 652 (.ifCond .eq 7) 3 := ⟨dr_at drL_law_633 (i := 13) rfl, rfl⟩
theorem dL_652 : dc code 652 653 (.iconst 1) 1 := ⟨dr_at drL_law_633 (i := 14) rfl, rfl⟩
theorem dL_653 : dc code 653 656 (.goto 4) 3 := ⟨dr_at drL_law_633 (i := 15) rfl, rfl⟩
theorem dL_656 : dc code 656 657 (.iconst 0) 1 := ⟨dr_at drL_law_633 (i := 16) rfl, rfl⟩
theorem dL_657 : dc code 657 658 (.aload_n 3) 1 := ⟨dr_at drL_law_633 (i := 17) rfl, rfl⟩
theorem dL_658 : dc code 658 661 (.invokestatic 173) 3 := ⟨dr_at drL_law_633 (i := 18) rfl, rfl⟩
theorem dL_661 : dc code 661 663 (.istore 5) 2 := ⟨dr_at drL_law_633 (i := 19) rfl, rfl⟩
theorem dL_663 : dc code 663 664 (.aload_n 2) 1 := ⟨dr_at drL_law_633 (i := 20) rfl, rfl⟩
theorem dL_664 : dc code 664 665 (.aload_n 0) 1 := ⟨dr_at drL_law_633 (i := 21) rfl, rfl⟩
theorem dL_665 : dc code 665 667 (.iload 4) 2 := ⟨dr_at drL_law_633 (i := 22) rfl, rfl⟩
theorem dL_667 : dc code 667 668 (.iconst 1) 1 := ⟨dr_at drL_law_633 (i := 23) rfl, rfl⟩
theorem dL_668 : dc code 668 669 .iadd 1 := ⟨dr_at drL_law_633 (i := 24) rfl, rfl⟩
theorem dL_669 : dc code 669 670 .iaload 1 := ⟨dr_at drL_law_633 (i := 25) rfl, rfl⟩
theorem dL_670 : dc code 670 671 (.aload_n 0) 1 := ⟨dr_at drL_law_633 (i := 26) rfl, rfl⟩
theorem dL_671 : dc code 671 673 (.iload 4) 2 := ⟨dr_at drL_law_633 (i := 27) rfl, rfl⟩
theorem dL_673 : dc code 673 674 (.iconst 2) 1 := ⟨dr_at drL_law_633 (i := 28) rfl, rfl⟩
theorem dL_674 : dc code 674 675 .iadd 1 := ⟨dr_at drL_law_633 (i := 29) rfl, rfl⟩
theorem dL_675 : dc code 675 676 .iaload 1 := ⟨dr_at drL_law_633 (i := 30) rfl, rfl⟩
theorem dL_676 : dc code 676 677 (.aload_n 0) 1 := ⟨dr_at drL_law_633 (i := 31) rfl, rfl⟩
theorem dL_677 : dc code 677 679 (.iload 4) 2 := ⟨dr_at drL_law_633 (i := 32) rfl, rfl⟩
theorem dL_679 : dc code 679 680 (.iconst 3) 1 := ⟨dr_at drL_law_633 (i := 33) rfl, rfl⟩
theorem dL_680 : dc code 680 681 .iadd 1 := ⟨dr_at drL_law_633 (i := 34) rfl, rfl⟩
theorem dL_681 : dc code 681 682 .iaload 1 := ⟨dr_at drL_law_633 (i := 35) rfl, rfl⟩
theorem dL_682 : dc code 682 683 (.aload_n 0) 1 := ⟨dr_at drL_law_633 (i := 36) rfl, rfl⟩
theorem dL_683 : dc code 683 685 (.iload 4) 2 := ⟨dr_at drL_law_633 (i := 37) rfl, rfl⟩
theorem dL_685 : dc code 685 686 (.iconst 4) 1 := ⟨dr_at drL_law_633 (i := 38) rfl, rfl⟩
theorem dL_686 : dc code 686 687 .iadd 1 := ⟨dr_at drL_law_633 (i := 39) rfl, rfl⟩
theorem dL_687 : dc code 687 688 .iaload 1 := ⟨dr_at drL_law_633 (i := 40) rfl, rfl⟩
theorem dL_688 : dc code 688 689 (.aload_n 0) 1 := ⟨dr_at drL_law_633 (i := 41) rfl, rfl⟩
theorem dL_689 : dc code 689 691 (.iload 4) 2 := ⟨dr_at drL_law_633 (i := 42) rfl, rfl⟩
theorem dL_691 : dc code 691 692 (.iconst 5) 1 := ⟨dr_at drL_law_633 (i := 43) rfl, rfl⟩
theorem dL_692 : dc code 692 693 .iadd 1 := ⟨dr_at drL_law_633 (i := 44) rfl, rfl⟩
theorem dL_693 : dc code 693 694 .iaload 1 := ⟨dr_at drL_law_633 (i := 45) rfl, rfl⟩
theorem dL_694 : dc code 694 695 (.aload_n 0) 1 := ⟨dr_at drL_law_633 (i := 46) rfl, rfl⟩
theorem dL_695 : dc code 695 697 (.iload 4) 2 := ⟨dr_at drL_law_633 (i := 47) rfl, rfl⟩
theorem dL_697 : dc code 697 699 (.bipush 6) 2 := ⟨dr_at drL_law_633 (i := 48) rfl, rfl⟩
theorem dL_699 : dc code 699 700 .iadd 1 := ⟨dr_at drL_law_633 (i := 49) rfl, rfl⟩
theorem dL_700 : dc code 700 701 .iaload 1 := ⟨dr_at drL_law_633 (i := 50) rfl, rfl⟩
theorem dL_701 : dc code 701 704 (.ifCond .eq 7) 3 := ⟨dr_at drL_law_633 (i := 51) rfl, rfl⟩
theorem dL_704 : dc code 704 705 (.iconst 1) 1 := ⟨dr_at drL_law_633 (i := 52) rfl, rfl⟩
theorem dL_705 : dc code 705 708 (.goto 4) 3 := ⟨dr_at drL_law_633 (i := 53) rfl, rfl⟩
theorem dL_708 : dc code 708 709 (.iconst 0) 1 := ⟨dr_at drL_law_633 (i := 54) rfl, rfl⟩
theorem dL_709 : dc code 709 712 (.invokevirtual 176) 3 := ⟨dr_at drL_law_633 (i := 55) rfl, rfl⟩
theorem dL_712 : dc code 712 714 (.lstore 6) 2 := ⟨dr_at drL_law_633 (i := 56) rfl, rfl⟩
theorem dL_714 : dc code 714 715 (.aload_n 2) 1 := ⟨dr_at drL_law_633 (i := 57) rfl, rfl⟩
theorem dL_715 : dc code 715 718 (.invokevirtual 150) 3 := ⟨dr_at drL_law_633 (i := 58) rfl, rfl⟩
theorem dL_718 : dc code 718 720 (.iload 5) 2 := ⟨dr_at drL_law_633 (i := 59) rfl, rfl⟩
theorem dL_720 : dc code 720 723 (.if_icmp .eq 5) 3 := ⟨dr_at drL_law_633 (i := 60) rfl, rfl⟩
theorem dL_723 : dc code 723 724 (.iconst 0) 1 := ⟨dr_at drL_law_633 (i := 61) rfl, rfl⟩
theorem dL_725 : dc code 725 727 (.iload 5) 2 := ⟨dr_at drL_law_633 (i := 62) rfl, rfl⟩
theorem dL_727 : dc code 727 730 (.ifCond .ne 14) 3 := ⟨dr_at drL_law_633 (i := 63) rfl, rfl⟩
theorem dL_730 : dc code 730 731 (.aload_n 3) 1 := ⟨dr_at drL_law_633 (i := 64) rfl, rfl⟩
theorem dL_731 : dc code 731 732 (.iconst 0) 1 := ⟨dr_at drL_law_633 (i := 65) rfl, rfl⟩
theorem dL_732 : dc code 732 733 .laload 1 := ⟨dr_at drL_law_633 (i := 66) rfl, rfl⟩
theorem dL_733 : dc code 733 735 (.lload 6) 2 := ⟨dr_at drL_law_633 (i := 67) rfl, rfl⟩
theorem dL_735 : dc code 735 736 .lcmp 1 := ⟨dr_at drL_law_633 (i := 68) rfl, rfl⟩
theorem dL_736 : dc code 736 739 (.ifCond .eq 5) 3 := ⟨dr_at drL_law_633 (i := 69) rfl, rfl⟩
theorem dL_739 : dc code 739 740 (.iconst 0) 1 := ⟨dr_at drL_law_633 (i := 70) rfl, rfl⟩
theorem dL_741 : dc code 741 744 (.goto 2041) 3 := ⟨dr_at drL_law_633 (i := 71) rfl, rfl⟩
theorem dL_744 : dc code 744 745 (.aload_n 1) 1 := ⟨dr_at drL_law_633 (i := 72) rfl, rfl⟩
theorem dL_745 : dc code 745 746 (.aload_n 0) 1 := ⟨dr_at drL_law_633 (i := 73) rfl, rfl⟩
theorem dL_746 : dc code 746 748 (.iload 4) 2 := ⟨dr_at drL_law_633 (i := 74) rfl, rfl⟩
theorem dL_748 : dc code 748 749 (.iconst 1) 1 := ⟨dr_at drL_law_633 (i := 75) rfl, rfl⟩
theorem dL_749 : dc code 749 750 .iadd 1 := ⟨dr_at drL_law_633 (i := 76) rfl, rfl⟩
theorem dL_750 : dc code 750 751 .iaload 1 := ⟨dr_at drL_law_633 (i := 77) rfl, rfl⟩
theorem dL_751 : dc code 751 752 (.aload_n 0) 1 := ⟨dr_at drL_law_633 (i := 78) rfl, rfl⟩
theorem dL_752 : dc code 752 754 (.iload 4) 2 := ⟨dr_at drL_law_633 (i := 79) rfl, rfl⟩
theorem dL_754 : dc code 754 755 (.iconst 2) 1 := ⟨dr_at drL_law_633 (i := 80) rfl, rfl⟩
theorem dL_755 : dc code 755 756 .iadd 1 := ⟨dr_at drL_law_633 (i := 81) rfl, rfl⟩
theorem dL_756 : dc code 756 757 .iaload 1 := ⟨dr_at drL_law_633 (i := 82) rfl, rfl⟩
theorem dL_757 : dc code 757 758 (.aload_n 3) 1 := ⟨dr_at drL_law_633 (i := 83) rfl, rfl⟩
theorem dL_758 : dc code 758 761 (.invokestatic 177) 3 := ⟨dr_at drL_law_633 (i := 84) rfl, rfl⟩
theorem dL_761 : dc code 761 763 (.istore 5) 2 := ⟨dr_at drL_law_633 (i := 85) rfl, rfl⟩
theorem dL_763 : dc code 763 764 (.aload_n 2) 1 := ⟨dr_at drL_law_633 (i := 86) rfl, rfl⟩
theorem dL_764 : dc code 764 765 (.aload_n 0) 1 := ⟨dr_at drL_law_633 (i := 87) rfl, rfl⟩
theorem dL_765 : dc code 765 767 (.iload 4) 2 := ⟨dr_at drL_law_633 (i := 88) rfl, rfl⟩
theorem dL_767 : dc code 767 768 (.iconst 1) 1 := ⟨dr_at drL_law_633 (i := 89) rfl, rfl⟩
theorem dL_768 : dc code 768 769 .iadd 1 := ⟨dr_at drL_law_633 (i := 90) rfl, rfl⟩
theorem dL_769 : dc code 769 770 .iaload 1 := ⟨dr_at drL_law_633 (i := 91) rfl, rfl⟩
theorem dL_770 : dc code 770 771 (.aload_n 0) 1 := ⟨dr_at drL_law_633 (i := 92) rfl, rfl⟩
theorem dL_771 : dc code 771 773 (.iload 4) 2 := ⟨dr_at drL_law_633 (i := 93) rfl, rfl⟩
theorem dL_773 : dc code 773 774 (.iconst 2) 1 := ⟨dr_at drL_law_633 (i := 94) rfl, rfl⟩
theorem dL_774 : dc code 774 775 .iadd 1 := ⟨dr_at drL_law_633 (i := 95) rfl, rfl⟩
theorem dL_775 : dc code 775 776 .iaload 1 := ⟨dr_at drL_law_633 (i := 96) rfl, rfl⟩
theorem dL_776 : dc code 776 779 (.invokevirtual 180) 3 := ⟨dr_at drL_law_633 (i := 97) rfl, rfl⟩
theorem dL_779 : dc code 779 781 (.istore 6) 2 := ⟨dr_at drL_law_633 (i := 98) rfl, rfl⟩
theorem dL_781 : dc code 781 782 (.aload_n 2) 1 := ⟨dr_at drL_law_633 (i := 99) rfl, rfl⟩
theorem dL_782 : dc code 782 785 (.invokevirtual 150) 3 := ⟨dr_at drL_law_633 (i := 100) rfl, rfl⟩
theorem dL_785 : dc code 785 787 (.iload 5) 2 := ⟨dr_at drL_law_633 (i := 101) rfl, rfl⟩
theorem dL_787 : dc code 787 790 (.if_icmp .eq 5) 3 := ⟨dr_at drL_law_633 (i := 102) rfl, rfl⟩
theorem dL_790 : dc code 790 791 (.iconst 0) 1 := ⟨dr_at drL_law_633 (i := 103) rfl, rfl⟩
theorem dL_792 : dc code 792 794 (.iload 5) 2 := ⟨dr_at drL_law_633 (i := 104) rfl, rfl⟩
theorem dL_794 : dc code 794 797 (.ifCond .ne 22) 3 := ⟨dr_at drL_law_633 (i := 105) rfl, rfl⟩
theorem dL_797 : dc code 797 798 (.aload_n 3) 1 := ⟨dr_at drL_law_633 (i := 106) rfl, rfl⟩
theorem dL_798 : dc code 798 799 (.iconst 0) 1 := ⟨dr_at drL_law_633 (i := 107) rfl, rfl⟩
theorem dL_799 : dc code 799 800 .laload 1 := ⟨dr_at drL_law_633 (i := 108) rfl, rfl⟩
theorem dL_800 : dc code 800 802 (.iload 6) 2 := ⟨dr_at drL_law_633 (i := 109) rfl, rfl⟩
theorem dL_802 : dc code 802 805 (.ifCond .eq 7) 3 := ⟨dr_at drL_law_633 (i := 110) rfl, rfl⟩
theorem dL_805 : dc code 805 806 (.lconst 1) 1 := ⟨dr_at drL_law_633 (i := 111) rfl, rfl⟩
theorem dL_806 : dc code 806 809 (.goto 4) 3 := ⟨dr_at drL_law_633 (i := 112) rfl, rfl⟩
theorem dL_809 : dc code 809 810 (.lconst 0) 1 := ⟨dr_at drL_law_633 (i := 113) rfl, rfl⟩
theorem dL_810 : dc code 810 811 .lcmp 1 := ⟨dr_at drL_law_633 (i := 114) rfl, rfl⟩
theorem dL_811 : dc code 811 814 (.ifCond .eq 5) 3 := ⟨dr_at drL_law_633 (i := 115) rfl, rfl⟩
theorem dL_814 : dc code 814 815 (.iconst 0) 1 := ⟨dr_at drL_law_633 (i := 116) rfl, rfl⟩
theorem dL_816 : dc code 816 819 (.goto 1966) 3 := ⟨dr_at drL_law_633 (i := 117) rfl, rfl⟩
theorem dL_819 : dc code 819 820 (.aload_n 1) 1 := ⟨dr_at drL_law_633 (i := 118) rfl, rfl⟩
theorem dL_820 : dc code 820 821 (.aload_n 0) 1 := ⟨dr_at drL_law_633 (i := 119) rfl, rfl⟩
theorem dL_821 : dc code 821 823 (.iload 4) 2 := ⟨dr_at drL_law_633 (i := 120) rfl, rfl⟩
theorem dL_823 : dc code 823 824 (.iconst 1) 1 := ⟨dr_at drL_law_633 (i := 121) rfl, rfl⟩
theorem dL_824 : dc code 824 825 .iadd 1 := ⟨dr_at drL_law_633 (i := 122) rfl, rfl⟩
theorem dL_825 : dc code 825 826 .iaload 1 := ⟨dr_at drL_law_633 (i := 123) rfl, rfl⟩
theorem dL_826 : dc code 826 827 (.aload_n 0) 1 := ⟨dr_at drL_law_633 (i := 124) rfl, rfl⟩
theorem dL_827 : dc code 827 829 (.iload 4) 2 := ⟨dr_at drL_law_633 (i := 125) rfl, rfl⟩
