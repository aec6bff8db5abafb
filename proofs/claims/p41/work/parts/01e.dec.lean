theorem dL_law_7 : decode cL_law 7 = .ok (.astore_n 1, 1) := by decide +kernel
theorem dL_law_15 : decode cL_law 15 = .ok (.astore_n 2, 1) := by decide +kernel
theorem dL_law_20 : decode cL_law 20 = .ok (.arraylength, 1) := by decide +kernel
theorem dg_511 : fd_G cL_law 0 [(0, .new 7, 3), (3, .dup, 1), (4, .invokespecial 9, 3), (8, .new 10, 3), (11, .dup, 1), (12, .invokespecial 12, 3), (16, .iconst 0, 1), (17, .istore_n 3, 1), (18, .iload_n 3, 1), (19, .aload_n 0, 1), (21, .iconst 5, 1), (22, .isub, 1), (23, .if_icmp .gt 1267, 3), (26, .aload_n 0, 1), (27, .iload_n 3, 1), (28, .iaload, 1)] = true := by decide +kernel
theorem dL_law_0 : decode cL_law 0 = .ok (.new 7, 3) := dk_0 dg_511
theorem dL_law_3 : decode cL_law 3 = .ok (.dup, 1) := dk_1 dg_511
theorem dL_law_4 : decode cL_law 4 = .ok (.invokespecial 9, 3) := dk_2 dg_511
theorem dL_law_8 : decode cL_law 8 = .ok (.new 10, 3) := dk_3 dg_511
theorem dL_law_11 : decode cL_law 11 = .ok (.dup, 1) := dk_4 dg_511
theorem dL_law_12 : decode cL_law 12 = .ok (.invokespecial 12, 3) := dk_5 dg_511
theorem dL_law_16 : decode cL_law 16 = .ok (.iconst 0, 1) := dk_6 dg_511
theorem dL_law_17 : decode cL_law 17 = .ok (.istore_n 3, 1) := dk_7 dg_511
theorem dL_law_18 : decode cL_law 18 = .ok (.iload_n 3, 1) := dk_8 dg_511
theorem dL_law_19 : decode cL_law 19 = .ok (.aload_n 0, 1) := dk_9 dg_511
theorem dL_law_21 : decode cL_law 21 = .ok (.iconst 5, 1) := dk_10 dg_511
theorem dL_law_22 : decode cL_law 22 = .ok (.isub, 1) := dk_11 dg_511
theorem dL_law_23 : decode cL_law 23 = .ok (.if_icmp .gt 1267, 3) := dk_12 dg_511
theorem dL_law_26 : decode cL_law 26 = .ok (.aload_n 0, 1) := dk_13 dg_511
theorem dL_law_27 : decode cL_law 27 = .ok (.iload_n 3, 1) := dk_14 dg_511
theorem dL_law_28 : decode cL_law 28 = .ok (.iaload, 1) := dk_15 dg_511
theorem dL_law_32 : decode cL_law 32 = .ok (.tableswitch 1252 0 39 #[176, 199, 222, 235, 248, 271, 304, 327, 350, 393, 416, 439, 462, 485, 508, 531, 544, 567, 580, 603, 636, 659, 692, 725, 748, 761, 804, 837, 886, 909, 932, 955, 988, 1031, 1054, 1077, 1120, 1163, 1216, 1229], 176) := by decide +kernel
theorem dg_512 : fd_G cL_law 29 [(29, .bipush 63, 2), (31, .iand, 1), (208, .aload_n 1, 1), (209, .aload_n 0, 1), (210, .iload_n 3, 1), (211, .iconst 1, 1), (212, .iadd, 1), (213, .iaload, 1), (214, .invokevirtual 13, 3), (217, .pop, 1), (218, .aload_n 2, 1), (219, .aload_n 0, 1), (220, .iload_n 3, 1), (221, .iconst 1, 1), (222, .iadd, 1), (223, .iaload, 1)] = true := by decide +kernel
theorem dL_law_29 : decode cL_law 29 = .ok (.bipush 63, 2) := dk_0 dg_512
theorem dL_law_31 : decode cL_law 31 = .ok (.iand, 1) := dk_1 dg_512
theorem dL_law_208 : decode cL_law 208 = .ok (.aload_n 1, 1) := dk_2 dg_512
theorem dL_law_209 : decode cL_law 209 = .ok (.aload_n 0, 1) := dk_3 dg_512
theorem dL_law_210 : decode cL_law 210 = .ok (.iload_n 3, 1) := dk_4 dg_512
theorem dL_law_211 : decode cL_law 211 = .ok (.iconst 1, 1) := dk_5 dg_512
theorem dL_law_212 : decode cL_law 212 = .ok (.iadd, 1) := dk_6 dg_512
theorem dL_law_213 : decode cL_law 213 = .ok (.iaload, 1) := dk_7 dg_512
theorem dL_law_214 : decode cL_law 214 = .ok (.invokevirtual 13, 3) := dk_8 dg_512
theorem dL_law_217 : decode cL_law 217 = .ok (.pop, 1) := dk_9 dg_512
theorem dL_law_218 : decode cL_law 218 = .ok (.aload_n 2, 1) := dk_10 dg_512
theorem dL_law_219 : decode cL_law 219 = .ok (.aload_n 0, 1) := dk_11 dg_512
theorem dL_law_220 : decode cL_law 220 = .ok (.iload_n 3, 1) := dk_12 dg_512
theorem dL_law_221 : decode cL_law 221 = .ok (.iconst 1, 1) := dk_13 dg_512
theorem dL_law_222 : decode cL_law 222 = .ok (.iadd, 1) := dk_14 dg_512
theorem dL_law_223 : decode cL_law 223 = .ok (.iaload, 1) := dk_15 dg_512
theorem dg_513 : fd_G cL_law 224 [(224, .invokevirtual 17, 3), (227, .pop, 1), (228, .goto 1056, 3), (231, .aload_n 1, 1), (232, .aload_n 0, 1), (233, .iload_n 3, 1), (234, .iconst 1, 1), (235, .iadd, 1), (236, .iaload, 1), (237, .invokevirtual 18, 3), (240, .pop, 1), (241, .aload_n 2, 1), (242, .aload_n 0, 1), (243, .iload_n 3, 1), (244, .iconst 1, 1), (245, .iadd, 1)] = true := by decide +kernel
theorem dL_law_224 : decode cL_law 224 = .ok (.invokevirtual 17, 3) := dk_0 dg_513
theorem dL_law_227 : decode cL_law 227 = .ok (.pop, 1) := dk_1 dg_513
theorem dL_law_228 : decode cL_law 228 = .ok (.goto 1056, 3) := dk_2 dg_513
theorem dL_law_231 : decode cL_law 231 = .ok (.aload_n 1, 1) := dk_3 dg_513
theorem dL_law_232 : decode cL_law 232 = .ok (.aload_n 0, 1) := dk_4 dg_513
theorem dL_law_233 : decode cL_law 233 = .ok (.iload_n 3, 1) := dk_5 dg_513
theorem dL_law_234 : decode cL_law 234 = .ok (.iconst 1, 1) := dk_6 dg_513
theorem dL_law_235 : decode cL_law 235 = .ok (.iadd, 1) := dk_7 dg_513
theorem dL_law_236 : decode cL_law 236 = .ok (.iaload, 1) := dk_8 dg_513
theorem dL_law_237 : decode cL_law 237 = .ok (.invokevirtual 18, 3) := dk_9 dg_513
theorem dL_law_240 : decode cL_law 240 = .ok (.pop, 1) := dk_10 dg_513
theorem dL_law_241 : decode cL_law 241 = .ok (.aload_n 2, 1) := dk_11 dg_513
theorem dL_law_242 : decode cL_law 242 = .ok (.aload_n 0, 1) := dk_12 dg_513
theorem dL_law_243 : decode cL_law 243 = .ok (.iload_n 3, 1) := dk_13 dg_513
theorem dL_law_244 : decode cL_law 244 = .ok (.iconst 1, 1) := dk_14 dg_513
theorem dL_law_245 : decode cL_law 245 = .ok (.iadd, 1) := dk_15 dg_513
theorem dg_514 : fd_G cL_law 246 [(246, .iaload, 1), (247, .invokevirtual 21, 3), (250, .pop, 1), (251, .goto 1033, 3), (254, .aload_n 1, 1), (255, .invokevirtual 22, 3), (258, .pop, 1), (259, .aload_n 2, 1), (260, .invokevirtual 26, 3), (263, .pop, 1), (264, .goto 1020, 3), (267, .aload_n 1, 1), (268, .invokevirtual 27, 3), (271, .pop, 1), (272, .aload_n 2, 1), (273, .invokevirtual 30, 3)] = true := by decide +kernel
theorem dL_law_246 : decode cL_law 246 = .ok (.iaload, 1) := dk_0 dg_514
theorem dL_law_247 : decode cL_law 247 = .ok (.invokevirtual 21, 3) := dk_1 dg_514
theorem dL_law_250 : decode cL_law 250 = .ok (.pop, 1) := dk_2 dg_514
theorem dL_law_251 : decode cL_law 251 = .ok (.goto 1033, 3) := dk_3 dg_514
theorem dL_law_254 : decode cL_law 254 = .ok (.aload_n 1, 1) := dk_4 dg_514
theorem dL_law_255 : decode cL_law 255 = .ok (.invokevirtual 22, 3) := dk_5 dg_514
theorem dL_law_258 : decode cL_law 258 = .ok (.pop, 1) := dk_6 dg_514
theorem dL_law_259 : decode cL_law 259 = .ok (.aload_n 2, 1) := dk_7 dg_514
theorem dL_law_260 : decode cL_law 260 = .ok (.invokevirtual 26, 3) := dk_8 dg_514
theorem dL_law_263 : decode cL_law 263 = .ok (.pop, 1) := dk_9 dg_514
theorem dL_law_264 : decode cL_law 264 = .ok (.goto 1020, 3) := dk_10 dg_514
theorem dL_law_267 : decode cL_law 267 = .ok (.aload_n 1, 1) := dk_11 dg_514
theorem dL_law_268 : decode cL_law 268 = .ok (.invokevirtual 27, 3) := dk_12 dg_514
theorem dL_law_271 : decode cL_law 271 = .ok (.pop, 1) := dk_13 dg_514
theorem dL_law_272 : decode cL_law 272 = .ok (.aload_n 2, 1) := dk_14 dg_514
theorem dL_law_273 : decode cL_law 273 = .ok (.invokevirtual 30, 3) := dk_15 dg_514
theorem dg_515 : fd_G cL_law 276 [(276, .pop, 1), (277, .goto 1007, 3), (280, .aload_n 1, 1), (281, .aload_n 0, 1), (282, .iload_n 3, 1), (283, .iconst 1, 1), (284, .iadd, 1), (285, .iaload, 1), (286, .invokevirtual 31, 3), (289, .pop, 1), (290, .aload_n 2, 1), (291, .aload_n 0, 1), (292, .iload_n 3, 1), (293, .iconst 1, 1), (294, .iadd, 1), (295, .iaload, 1)] = true := by decide +kernel
theorem dL_law_276 : decode cL_law 276 = .ok (.pop, 1) := dk_0 dg_515
theorem dL_law_277 : decode cL_law 277 = .ok (.goto 1007, 3) := dk_1 dg_515
theorem dL_law_280 : decode cL_law 280 = .ok (.aload_n 1, 1) := dk_2 dg_515
theorem dL_law_281 : decode cL_law 281 = .ok (.aload_n 0, 1) := dk_3 dg_515
theorem dL_law_282 : decode cL_law 282 = .ok (.iload_n 3, 1) := dk_4 dg_515
theorem dL_law_283 : decode cL_law 283 = .ok (.iconst 1, 1) := dk_5 dg_515
theorem dL_law_284 : decode cL_law 284 = .ok (.iadd, 1) := dk_6 dg_515
theorem dL_law_285 : decode cL_law 285 = .ok (.iaload, 1) := dk_7 dg_515
theorem dL_law_286 : decode cL_law 286 = .ok (.invokevirtual 31, 3) := dk_8 dg_515
theorem dL_law_289 : decode cL_law 289 = .ok (.pop, 1) := dk_9 dg_515
theorem dL_law_290 : decode cL_law 290 = .ok (.aload_n 2, 1) := dk_10 dg_515
theorem dL_law_291 : decode cL_law 291 = .ok (.aload_n 0, 1) := dk_11 dg_515
theorem dL_law_292 : decode cL_law 292 = .ok (.iload_n 3, 1) := dk_12 dg_515
theorem dL_law_293 : decode cL_law 293 = .ok (.iconst 1, 1) := dk_13 dg_515
theorem dL_law_294 : decode cL_law 294 = .ok (.iadd, 1) := dk_14 dg_515
theorem dL_law_295 : decode cL_law 295 = .ok (.iaload, 1) := dk_15 dg_515
theorem dg_516 : fd_G cL_law 296 [(296, .invokevirtual 34, 3), (299, .pop, 1), (300, .goto 984, 3), (303, .aload_n 1, 1), (304, .aload_n 0, 1), (305, .iload_n 3, 1), (306, .iconst 1, 1), (307, .iadd, 1), (308, .iaload, 1), (309, .aload_n 0, 1), (310, .iload_n 3, 1), (311, .iconst 2, 1), (312, .iadd, 1), (313, .iaload, 1), (314, .invokevirtual 35, 3), (317, .pop, 1)] = true := by decide +kernel
theorem dL_law_296 : decode cL_law 296 = .ok (.invokevirtual 34, 3) := dk_0 dg_516
theorem dL_law_299 : decode cL_law 299 = .ok (.pop, 1) := dk_1 dg_516
theorem dL_law_300 : decode cL_law 300 = .ok (.goto 984, 3) := dk_2 dg_516
theorem dL_law_303 : decode cL_law 303 = .ok (.aload_n 1, 1) := dk_3 dg_516
theorem dL_law_304 : decode cL_law 304 = .ok (.aload_n 0, 1) := dk_4 dg_516
theorem dL_law_305 : decode cL_law 305 = .ok (.iload_n 3, 1) := dk_5 dg_516
theorem dL_law_306 : decode cL_law 306 = .ok (.iconst 1, 1) := dk_6 dg_516
theorem dL_law_307 : decode cL_law 307 = .ok (.iadd, 1) := dk_7 dg_516
theorem dL_law_308 : decode cL_law 308 = .ok (.iaload, 1) := dk_8 dg_516
theorem dL_law_309 : decode cL_law 309 = .ok (.aload_n 0, 1) := dk_9 dg_516
theorem dL_law_310 : decode cL_law 310 = .ok (.iload_n 3, 1) := dk_10 dg_516
theorem dL_law_311 : decode cL_law 311 = .ok (.iconst 2, 1) := dk_11 dg_516
theorem dL_law_312 : decode cL_law 312 = .ok (.iadd, 1) := dk_12 dg_516
theorem dL_law_313 : decode cL_law 313 = .ok (.iaload, 1) := dk_13 dg_516
theorem dL_law_314 : decode cL_law 314 = .ok (.invokevirtual 35, 3) := dk_14 dg_516
theorem dL_law_317 : decode cL_law 317 = .ok (.pop, 1) := dk_15 dg_516
theorem dg_517 : fd_G cL_law 318 [(318, .aload_n 2, 1), (319, .aload_n 0, 1), (320, .iload_n 3, 1), (321, .iconst 1, 1), (322, .iadd, 1), (323, .iaload, 1), (324, .aload_n 0, 1), (325, .iload_n 3, 1), (326, .iconst 2, 1), (327, .iadd, 1), (328, .iaload, 1), (329, .invokevirtual 39, 3), (332, .pop, 1), (333, .goto 951, 3), (336, .aload_n 1, 1), (337, .aload_n 0, 1)] = true := by decide +kernel
theorem dL_law_318 : decode cL_law 318 = .ok (.aload_n 2, 1) := dk_0 dg_517
theorem dL_law_319 : decode cL_law 319 = .ok (.aload_n 0, 1) := dk_1 dg_517
theorem dL_law_320 : decode cL_law 320 = .ok (.iload_n 3, 1) := dk_2 dg_517
theorem dL_law_321 : decode cL_law 321 = .ok (.iconst 1, 1) := dk_3 dg_517
theorem dL_law_322 : decode cL_law 322 = .ok (.iadd, 1) := dk_4 dg_517
theorem dL_law_323 : decode cL_law 323 = .ok (.iaload, 1) := dk_5 dg_517
theorem dL_law_324 : decode cL_law 324 = .ok (.aload_n 0, 1) := dk_6 dg_517
theorem dL_law_325 : decode cL_law 325 = .ok (.iload_n 3, 1) := dk_7 dg_517
theorem dL_law_326 : decode cL_law 326 = .ok (.iconst 2, 1) := dk_8 dg_517
theorem dL_law_327 : decode cL_law 327 = .ok (.iadd, 1) := dk_9 dg_517
theorem dL_law_328 : decode cL_law 328 = .ok (.iaload, 1) := dk_10 dg_517
theorem dL_law_329 : decode cL_law 329 = .ok (.invokevirtual 39, 3) := dk_11 dg_517
theorem dL_law_332 : decode cL_law 332 = .ok (.pop, 1) := dk_12 dg_517
theorem dL_law_333 : decode cL_law 333 = .ok (.goto 951, 3) := dk_13 dg_517
theorem dL_law_336 : decode cL_law 336 = .ok (.aload_n 1, 1) := dk_14 dg_517
theorem dL_law_337 : decode cL_law 337 = .ok (.aload_n 0, 1) := dk_15 dg_517
theorem dg_518 : fd_G cL_law 338 [(338, .iload_n 3, 1), (339, .iconst 1, 1), (340, .iadd, 1), (341, .iaload, 1), (342, .invokevirtual 40, 3), (345, .pop, 1), (346, .aload_n 2, 1), (347, .aload_n 0, 1), (348, .iload_n 3, 1), (349, .iconst 1, 1), (350, .iadd, 1), (351, .iaload, 1), (352, .invokevirtual 43, 3), (355, .pop, 1), (356, .goto 928, 3), (359, .aload_n 1, 1)] = true := by decide +kernel
theorem dL_law_338 : decode cL_law 338 = .ok (.iload_n 3, 1) := dk_0 dg_518
theorem dL_law_339 : decode cL_law 339 = .ok (.iconst 1, 1) := dk_1 dg_518
theorem dL_law_340 : decode cL_law 340 = .ok (.iadd, 1) := dk_2 dg_518
theorem dL_law_341 : decode cL_law 341 = .ok (.iaload, 1) := dk_3 dg_518
theorem dL_law_342 : decode cL_law 342 = .ok (.invokevirtual 40, 3) := dk_4 dg_518
theorem dL_law_345 : decode cL_law 345 = .ok (.pop, 1) := dk_5 dg_518
theorem dL_law_346 : decode cL_law 346 = .ok (.aload_n 2, 1) := dk_6 dg_518
theorem dL_law_347 : decode cL_law 347 = .ok (.aload_n 0, 1) := dk_7 dg_518
theorem dL_law_348 : decode cL_law 348 = .ok (.iload_n 3, 1) := dk_8 dg_518
theorem dL_law_349 : decode cL_law 349 = .ok (.iconst 1, 1) := dk_9 dg_518
theorem dL_law_350 : decode cL_law 350 = .ok (.iadd, 1) := dk_10 dg_518
theorem dL_law_351 : decode cL_law 351 = .ok (.iaload, 1) := dk_11 dg_518
theorem dL_law_352 : decode cL_law 352 = .ok (.invokevirtual 43, 3) := dk_12 dg_518
theorem dL_law_355 : decode cL_law 355 = .ok (.pop, 1) := dk_13 dg_518
theorem dL_law_356 : decode cL_law 356 = .ok (.goto 928, 3) := dk_14 dg_518
theorem dL_law_359 : decode cL_law 359 = .ok (.aload_n 1, 1) := dk_15 dg_518
theorem dg_519 : fd_G cL_law 360 [(360, .aload_n 0, 1), (361, .iload_n 3, 1), (362, .iconst 1, 1), (363, .iadd, 1), (364, .iaload, 1), (365, .invokevirtual 44, 3), (368, .pop, 1), (369, .aload_n 2, 1), (370, .aload_n 0, 1), (371, .iload_n 3, 1), (372, .iconst 1, 1), (373, .iadd, 1), (374, .iaload, 1), (375, .invokevirtual 47, 3), (378, .pop, 1), (379, .goto 905, 3)] = true := by decide +kernel
theorem dL_law_360 : decode cL_law 360 = .ok (.aload_n 0, 1) := dk_0 dg_519
theorem dL_law_361 : decode cL_law 361 = .ok (.iload_n 3, 1) := dk_1 dg_519
theorem dL_law_362 : decode cL_law 362 = .ok (.iconst 1, 1) := dk_2 dg_519
theorem dL_law_363 : decode cL_law 363 = .ok (.iadd, 1) := dk_3 dg_519
theorem dL_law_364 : decode cL_law 364 = .ok (.iaload, 1) := dk_4 dg_519
theorem dL_law_365 : decode cL_law 365 = .ok (.invokevirtual 44, 3) := dk_5 dg_519
theorem dL_law_368 : decode cL_law 368 = .ok (.pop, 1) := dk_6 dg_519
theorem dL_law_369 : decode cL_law 369 = .ok (.aload_n 2, 1) := dk_7 dg_519
theorem dL_law_370 : decode cL_law 370 = .ok (.aload_n 0, 1) := dk_8 dg_519
theorem dL_law_371 : decode cL_law 371 = .ok (.iload_n 3, 1) := dk_9 dg_519
theorem dL_law_372 : decode cL_law 372 = .ok (.iconst 1, 1) := dk_10 dg_519
theorem dL_law_373 : decode cL_law 373 = .ok (.iadd, 1) := dk_11 dg_519
theorem dL_law_374 : decode cL_law 374 = .ok (.iaload, 1) := dk_12 dg_519
theorem dL_law_375 : decode cL_law 375 = .ok (.invokevirtual 47, 3) := dk_13 dg_519
theorem dL_law_378 : decode cL_law 378 = .ok (.pop, 1) := dk_14 dg_519
theorem dL_law_379 : decode cL_law 379 = .ok (.goto 905, 3) := dk_15 dg_519
theorem dg_520 : fd_G cL_law 382 [(382, .aload_n 1, 1), (383, .aload_n 0, 1), (384, .iload_n 3, 1), (385, .iconst 1, 1), (386, .iadd, 1), (387, .iaload, 1), (388, .aload_n 0, 1), (389, .iload_n 3, 1), (390, .iconst 2, 1), (391, .iadd, 1), (392, .iaload, 1), (393, .aload_n 0, 1), (394, .iload_n 3, 1), (395, .iconst 3, 1), (396, .iadd, 1), (397, .iaload, 1)] = true := by decide +kernel
theorem dL_law_382 : decode cL_law 382 = .ok (.aload_n 1, 1) := dk_0 dg_520
theorem dL_law_383 : decode cL_law 383 = .ok (.aload_n 0, 1) := dk_1 dg_520
theorem dL_law_384 : decode cL_law 384 = .ok (.iload_n 3, 1) := dk_2 dg_520
theorem dL_law_385 : decode cL_law 385 = .ok (.iconst 1, 1) := dk_3 dg_520
theorem dL_law_386 : decode cL_law 386 = .ok (.iadd, 1) := dk_4 dg_520
theorem dL_law_387 : decode cL_law 387 = .ok (.iaload, 1) := dk_5 dg_520
theorem dL_law_388 : decode cL_law 388 = .ok (.aload_n 0, 1) := dk_6 dg_520
theorem dL_law_389 : decode cL_law 389 = .ok (.iload_n 3, 1) := dk_7 dg_520
theorem dL_law_390 : decode cL_law 390 = .ok (.iconst 2, 1) := dk_8 dg_520
theorem dL_law_391 : decode cL_law 391 = .ok (.iadd, 1) := dk_9 dg_520
theorem dL_law_392 : decode cL_law 392 = .ok (.iaload, 1) := dk_10 dg_520
theorem dL_law_393 : decode cL_law 393 = .ok (.aload_n 0, 1) := dk_11 dg_520
theorem dL_law_394 : decode cL_law 394 = .ok (.iload_n 3, 1) := dk_12 dg_520
theorem dL_law_395 : decode cL_law 395 = .ok (.iconst 3, 1) := dk_13 dg_520
theorem dL_law_396 : decode cL_law 396 = .ok (.iadd, 1) := dk_14 dg_520
theorem dL_law_397 : decode cL_law 397 = .ok (.iaload, 1) := dk_15 dg_520
theorem dg_521 : fd_G cL_law 398 [(398, .invokevirtual 48, 3), (401, .pop, 1), (402, .aload_n 2, 1), (403, .aload_n 0, 1), (404, .iload_n 3, 1), (405, .iconst 1, 1), (406, .iadd, 1), (407, .iaload, 1), (408, .aload_n 0, 1), (409, .iload_n 3, 1), (410, .iconst 2, 1), (411, .iadd, 1), (412, .iaload, 1), (413, .aload_n 0, 1), (414, .iload_n 3, 1), (415, .iconst 3, 1)] = true := by decide +kernel
theorem dL_law_398 : decode cL_law 398 = .ok (.invokevirtual 48, 3) := dk_0 dg_521
theorem dL_law_401 : decode cL_law 401 = .ok (.pop, 1) := dk_1 dg_521
theorem dL_law_402 : decode cL_law 402 = .ok (.aload_n 2, 1) := dk_2 dg_521
theorem dL_law_403 : decode cL_law 403 = .ok (.aload_n 0, 1) := dk_3 dg_521
theorem dL_law_404 : decode cL_law 404 = .ok (.iload_n 3, 1) := dk_4 dg_521
theorem dL_law_405 : decode cL_law 405 = .ok (.iconst 1, 1) := dk_5 dg_521
theorem dL_law_406 : decode cL_law 406 = .ok (.iadd, 1) := dk_6 dg_521
theorem dL_law_407 : decode cL_law 407 = .ok (.iaload, 1) := dk_7 dg_521
theorem dL_law_408 : decode cL_law 408 = .ok (.aload_n 0, 1) := dk_8 dg_521
theorem dL_law_409 : decode cL_law 409 = .ok (.iload_n 3, 1) := dk_9 dg_521
theorem dL_law_410 : decode cL_law 410 = .ok (.iconst 2, 1) := dk_10 dg_521
theorem dL_law_411 : decode cL_law 411 = .ok (.iadd, 1) := dk_11 dg_521
theorem dL_law_412 : decode cL_law 412 = .ok (.iaload, 1) := dk_12 dg_521
theorem dL_law_413 : decode cL_law 413 = .ok (.aload_n 0, 1) := dk_13 dg_521
theorem dL_law_414 : decode cL_law 414 = .ok (.iload_n 3, 1) := dk_14 dg_521
theorem dL_law_415 : decode cL_law 415 = .ok (.iconst 3, 1) := dk_15 dg_521
theorem dg_522 : fd_G cL_law 416 [(416, .iadd, 1), (417, .iaload, 1), (418, .invokevirtual 52, 3), (421, .pop, 1), (422, .goto 862, 3), (425, .aload_n 1, 1), (426, .aload_n 0, 1), (427, .iload_n 3, 1), (428, .iconst 1, 1), (429, .iadd, 1), (430, .iaload, 1), (431, .invokevirtual 53, 3), (434, .pop, 1), (435, .aload_n 2, 1), (436, .aload_n 0, 1), (437, .iload_n 3, 1)] = true := by decide +kernel
theorem dL_law_416 : decode cL_law 416 = .ok (.iadd, 1) := dk_0 dg_522
theorem dL_law_417 : decode cL_law 417 = .ok (.iaload, 1) := dk_1 dg_522
theorem dL_law_418 : decode cL_law 418 = .ok (.invokevirtual 52, 3) := dk_2 dg_522
theorem dL_law_421 : decode cL_law 421 = .ok (.pop, 1) := dk_3 dg_522
theorem dL_law_422 : decode cL_law 422 = .ok (.goto 862, 3) := dk_4 dg_522
theorem dL_law_425 : decode cL_law 425 = .ok (.aload_n 1, 1) := dk_5 dg_522
theorem dL_law_426 : decode cL_law 426 = .ok (.aload_n 0, 1) := dk_6 dg_522
theorem dL_law_427 : decode cL_law 427 = .ok (.iload_n 3, 1) := dk_7 dg_522
theorem dL_law_428 : decode cL_law 428 = .ok (.iconst 1, 1) := dk_8 dg_522
theorem dL_law_429 : decode cL_law 429 = .ok (.iadd, 1) := dk_9 dg_522
theorem dL_law_430 : decode cL_law 430 = .ok (.iaload, 1) := dk_10 dg_522
theorem dL_law_431 : decode cL_law 431 = .ok (.invokevirtual 53, 3) := dk_11 dg_522
theorem dL_law_434 : decode cL_law 434 = .ok (.pop, 1) := dk_12 dg_522
theorem dL_law_435 : decode cL_law 435 = .ok (.aload_n 2, 1) := dk_13 dg_522
theorem dL_law_436 : decode cL_law 436 = .ok (.aload_n 0, 1) := dk_14 dg_522
theorem dL_law_437 : decode cL_law 437 = .ok (.iload_n 3, 1) := dk_15 dg_522
theorem dg_523 : fd_G cL_law 438 [(438, .iconst 1, 1), (439, .iadd, 1), (440, .iaload, 1), (441, .invokevirtual 56, 3), (444, .pop, 1), (445, .goto 839, 3), (448, .aload_n 1, 1), (449, .aload_n 0, 1), (450, .iload_n 3, 1), (451, .iconst 1, 1), (452, .iadd, 1), (453, .iaload, 1), (454, .invokevirtual 57, 3), (457, .pop, 1), (458, .aload_n 2, 1), (459, .aload_n 0, 1)] = true := by decide +kernel
theorem dL_law_438 : decode cL_law 438 = .ok (.iconst 1, 1) := dk_0 dg_523
theorem dL_law_439 : decode cL_law 439 = .ok (.iadd, 1) := dk_1 dg_523
theorem dL_law_440 : decode cL_law 440 = .ok (.iaload, 1) := dk_2 dg_523
theorem dL_law_441 : decode cL_law 441 = .ok (.invokevirtual 56, 3) := dk_3 dg_523
theorem dL_law_444 : decode cL_law 444 = .ok (.pop, 1) := dk_4 dg_523
theorem dL_law_445 : decode cL_law 445 = .ok (.goto 839, 3) := dk_5 dg_523
theorem dL_law_448 : decode cL_law 448 = .ok (.aload_n 1, 1) := dk_6 dg_523
theorem dL_law_449 : decode cL_law 449 = .ok (.aload_n 0, 1) := dk_7 dg_523
theorem dL_law_450 : decode cL_law 450 = .ok (.iload_n 3, 1) := dk_8 dg_523
theorem dL_law_451 : decode cL_law 451 = .ok (.iconst 1, 1) := dk_9 dg_523
theorem dL_law_452 : decode cL_law 452 = .ok (.iadd, 1) := dk_10 dg_523
theorem dL_law_453 : decode cL_law 453 = .ok (.iaload, 1) := dk_11 dg_523
theorem dL_law_454 : decode cL_law 454 = .ok (.invokevirtual 57, 3) := dk_12 dg_523
theorem dL_law_457 : decode cL_law 457 = .ok (.pop, 1) := dk_13 dg_523
theorem dL_law_458 : decode cL_law 458 = .ok (.aload_n 2, 1) := dk_14 dg_523
theorem dL_law_459 : decode cL_law 459 = .ok (.aload_n 0, 1) := dk_15 dg_523
theorem dg_524 : fd_G cL_law 460 [(460, .iload_n 3, 1), (461, .iconst 1, 1), (462, .iadd, 1), (463, .iaload, 1), (464, .invokevirtual 60, 3), (467, .pop, 1), (468, .goto 816, 3), (471, .aload_n 1, 1), (472, .aload_n 0, 1), (473, .iload_n 3, 1), (474, .iconst 1, 1), (475, .iadd, 1), (476, .iaload, 1), (477, .invokevirtual 61, 3), (480, .pop, 1), (481, .aload_n 2, 1)] = true := by decide +kernel
theorem dL_law_460 : decode cL_law 460 = .ok (.iload_n 3, 1) := dk_0 dg_524
theorem dL_law_461 : decode cL_law 461 = .ok (.iconst 1, 1) := dk_1 dg_524
theorem dL_law_462 : decode cL_law 462 = .ok (.iadd, 1) := dk_2 dg_524
theorem dL_law_463 : decode cL_law 463 = .ok (.iaload, 1) := dk_3 dg_524
theorem dL_law_464 : decode cL_law 464 = .ok (.invokevirtual 60, 3) := dk_4 dg_524
theorem dL_law_467 : decode cL_law 467 = .ok (.pop, 1) := dk_5 dg_524
theorem dL_law_468 : decode cL_law 468 = .ok (.goto 816, 3) := dk_6 dg_524
theorem dL_law_471 : decode cL_law 471 = .ok (.aload_n 1, 1) := dk_7 dg_524
theorem dL_law_472 : decode cL_law 472 = .ok (.aload_n 0, 1) := dk_8 dg_524
theorem dL_law_473 : decode cL_law 473 = .ok (.iload_n 3, 1) := dk_9 dg_524
theorem dL_law_474 : decode cL_law 474 = .ok (.iconst 1, 1) := dk_10 dg_524
theorem dL_law_475 : decode cL_law 475 = .ok (.iadd, 1) := dk_11 dg_524
theorem dL_law_476 : decode cL_law 476 = .ok (.iaload, 1) := dk_12 dg_524
theorem dL_law_477 : decode cL_law 477 = .ok (.invokevirtual 61, 3) := dk_13 dg_524
theorem dL_law_480 : decode cL_law 480 = .ok (.pop, 1) := dk_14 dg_524
theorem dL_law_481 : decode cL_law 481 = .ok (.aload_n 2, 1) := dk_15 dg_524
theorem dg_525 : fd_G cL_law 482 [(482, .aload_n 0, 1), (483, .iload_n 3, 1), (484, .iconst 1, 1), (485, .iadd, 1), (486, .iaload, 1), (487, .invokevirtual 64, 3), (490, .pop, 1), (491, .goto 793, 3), (494, .aload_n 1, 1), (495, .aload_n 0, 1), (496, .iload_n 3, 1), (497, .iconst 1, 1), (498, .iadd, 1), (499, .iaload, 1), (500, .invokevirtual 65, 3), (503, .pop, 1)] = true := by decide +kernel
theorem dL_law_482 : decode cL_law 482 = .ok (.aload_n 0, 1) := dk_0 dg_525
theorem dL_law_483 : decode cL_law 483 = .ok (.iload_n 3, 1) := dk_1 dg_525
theorem dL_law_484 : decode cL_law 484 = .ok (.iconst 1, 1) := dk_2 dg_525
theorem dL_law_485 : decode cL_law 485 = .ok (.iadd, 1) := dk_3 dg_525
theorem dL_law_486 : decode cL_law 486 = .ok (.iaload, 1) := dk_4 dg_525
theorem dL_law_487 : decode cL_law 487 = .ok (.invokevirtual 64, 3) := dk_5 dg_525
theorem dL_law_490 : decode cL_law 490 = .ok (.pop, 1) := dk_6 dg_525
theorem dL_law_491 : decode cL_law 491 = .ok (.goto 793, 3) := dk_7 dg_525
theorem dL_law_494 : decode cL_law 494 = .ok (.aload_n 1, 1) := dk_8 dg_525
theorem dL_law_495 : decode cL_law 495 = .ok (.aload_n 0, 1) := dk_9 dg_525
theorem dL_law_496 : decode cL_law 496 = .ok (.iload_n 3, 1) := dk_10 dg_525
theorem dL_law_497 : decode cL_law 497 = .ok (.iconst 1, 1) := dk_11 dg_525
theorem dL_law_498 : decode cL_law 498 = .ok (.iadd, 1) := dk_12 dg_525
theorem dL_law_499 : decode cL_law 499 = .ok (.iaload, 1) := dk_13 dg_525
theorem dL_law_500 : decode cL_law 500 = .ok (.invokevirtual 65, 3) := dk_14 dg_525
theorem dL_law_503 : decode cL_law 503 = .ok (.pop, 1) := dk_15 dg_525
theorem dg_526 : fd_G cL_law 504 [(504, .aload_n 2, 1), (505, .aload_n 0, 1), (506, .iload_n 3, 1), (507, .iconst 1, 1), (508, .iadd, 1), (509, .iaload, 1), (510, .invokevirtual 68, 3), (513, .pop, 1), (514, .goto 770, 3), (517, .aload_n 1, 1), (518, .aload_n 0, 1), (519, .iload_n 3, 1), (520, .iconst 1, 1), (521, .iadd, 1), (522, .iaload, 1), (523, .invokevirtual 69, 3)] = true := by decide +kernel
theorem dL_law_504 : decode cL_law 504 = .ok (.aload_n 2, 1) := dk_0 dg_526
theorem dL_law_505 : decode cL_law 505 = .ok (.aload_n 0, 1) := dk_1 dg_526
theorem dL_law_506 : decode cL_law 506 = .ok (.iload_n 3, 1) := dk_2 dg_526
theorem dL_law_507 : decode cL_law 507 = .ok (.iconst 1, 1) := dk_3 dg_526
theorem dL_law_508 : decode cL_law 508 = .ok (.iadd, 1) := dk_4 dg_526
theorem dL_law_509 : decode cL_law 509 = .ok (.iaload, 1) := dk_5 dg_526
theorem dL_law_510 : decode cL_law 510 = .ok (.invokevirtual 68, 3) := dk_6 dg_526
theorem dL_law_513 : decode cL_law 513 = .ok (.pop, 1) := dk_7 dg_526
theorem dL_law_514 : decode cL_law 514 = .ok (.goto 770, 3) := dk_8 dg_526
theorem dL_law_517 : decode cL_law 517 = .ok (.aload_n 1, 1) := dk_9 dg_526
theorem dL_law_518 : decode cL_law 518 = .ok (.aload_n 0, 1) := dk_10 dg_526
theorem dL_law_519 : decode cL_law 519 = .ok (.iload_n 3, 1) := dk_11 dg_526
theorem dL_law_520 : decode cL_law 520 = .ok (.iconst 1, 1) := dk_12 dg_526
theorem dL_law_521 : decode cL_law 521 = .ok (.iadd, 1) := dk_13 dg_526
theorem dL_law_522 : decode cL_law 522 = .ok (.iaload, 1) := dk_14 dg_526
theorem dL_law_523 : decode cL_law 523 = .ok (.invokevirtual 69, 3) := dk_15 dg_526
theorem dg_527 : fd_G cL_law 526 [(526, .pop, 1), (527, .aload_n 2, 1), (528, .aload_n 0, 1), (529, .iload_n 3, 1), (530, .iconst 1, 1), (531, .iadd, 1), (532, .iaload, 1), (533, .invokevirtual 72, 3), (536, .pop, 1), (537, .goto 747, 3), (540, .aload_n 1, 1), (541, .aload_n 0, 1), (542, .iload_n 3, 1), (543, .iconst 1, 1), (544, .iadd, 1), (545, .iaload, 1)] = true := by decide +kernel
theorem dL_law_526 : decode cL_law 526 = .ok (.pop, 1) := dk_0 dg_527
theorem dL_law_527 : decode cL_law 527 = .ok (.aload_n 2, 1) := dk_1 dg_527
theorem dL_law_528 : decode cL_law 528 = .ok (.aload_n 0, 1) := dk_2 dg_527
theorem dL_law_529 : decode cL_law 529 = .ok (.iload_n 3, 1) := dk_3 dg_527
theorem dL_law_530 : decode cL_law 530 = .ok (.iconst 1, 1) := dk_4 dg_527
theorem dL_law_531 : decode cL_law 531 = .ok (.iadd, 1) := dk_5 dg_527
theorem dL_law_532 : decode cL_law 532 = .ok (.iaload, 1) := dk_6 dg_527
theorem dL_law_533 : decode cL_law 533 = .ok (.invokevirtual 72, 3) := dk_7 dg_527
theorem dL_law_536 : decode cL_law 536 = .ok (.pop, 1) := dk_8 dg_527
theorem dL_law_537 : decode cL_law 537 = .ok (.goto 747, 3) := dk_9 dg_527
theorem dL_law_540 : decode cL_law 540 = .ok (.aload_n 1, 1) := dk_10 dg_527
theorem dL_law_541 : decode cL_law 541 = .ok (.aload_n 0, 1) := dk_11 dg_527
theorem dL_law_542 : decode cL_law 542 = .ok (.iload_n 3, 1) := dk_12 dg_527
theorem dL_law_543 : decode cL_law 543 = .ok (.iconst 1, 1) := dk_13 dg_527
theorem dL_law_544 : decode cL_law 544 = .ok (.iadd, 1) := dk_14 dg_527
theorem dL_law_545 : decode cL_law 545 = .ok (.iaload, 1) := dk_15 dg_527
theorem dg_528 : fd_G cL_law 546 [(546, .invokevirtual 73, 3), (549, .pop, 1), (550, .aload_n 2, 1), (551, .aload_n 0, 1), (552, .iload_n 3, 1), (553, .iconst 1, 1), (554, .iadd, 1), (555, .iaload, 1), (556, .invokevirtual 76, 3), (559, .pop, 1), (560, .goto 724, 3), (563, .aload_n 1, 1), (564, .invokevirtual 77, 3), (567, .pop, 1), (568, .aload_n 2, 1), (569, .invokevirtual 80, 3)] = true := by decide +kernel
theorem dL_law_546 : decode cL_law 546 = .ok (.invokevirtual 73, 3) := dk_0 dg_528
theorem dL_law_549 : decode cL_law 549 = .ok (.pop, 1) := dk_1 dg_528
theorem dL_law_550 : decode cL_law 550 = .ok (.aload_n 2, 1) := dk_2 dg_528
theorem dL_law_551 : decode cL_law 551 = .ok (.aload_n 0, 1) := dk_3 dg_528
theorem dL_law_552 : decode cL_law 552 = .ok (.iload_n 3, 1) := dk_4 dg_528
theorem dL_law_553 : decode cL_law 553 = .ok (.iconst 1, 1) := dk_5 dg_528
theorem dL_law_554 : decode cL_law 554 = .ok (.iadd, 1) := dk_6 dg_528
theorem dL_law_555 : decode cL_law 555 = .ok (.iaload, 1) := dk_7 dg_528
theorem dL_law_556 : decode cL_law 556 = .ok (.invokevirtual 76, 3) := dk_8 dg_528
theorem dL_law_559 : decode cL_law 559 = .ok (.pop, 1) := dk_9 dg_528
theorem dL_law_560 : decode cL_law 560 = .ok (.goto 724, 3) := dk_10 dg_528
theorem dL_law_563 : decode cL_law 563 = .ok (.aload_n 1, 1) := dk_11 dg_528
theorem dL_law_564 : decode cL_law 564 = .ok (.invokevirtual 77, 3) := dk_12 dg_528
theorem dL_law_567 : decode cL_law 567 = .ok (.pop, 1) := dk_13 dg_528
theorem dL_law_568 : decode cL_law 568 = .ok (.aload_n 2, 1) := dk_14 dg_528
theorem dL_law_569 : decode cL_law 569 = .ok (.invokevirtual 80, 3) := dk_15 dg_528
theorem dg_529 : fd_G cL_law 572 [(572, .pop, 1), (573, .goto 711, 3), (576, .aload_n 1, 1), (577, .aload_n 0, 1), (578, .iload_n 3, 1), (579, .iconst 1, 1), (580, .iadd, 1), (581, .iaload, 1), (582, .invokevirtual 81, 3), (585, .pop, 1), (586, .aload_n 2, 1), (587, .aload_n 0, 1), (588, .iload_n 3, 1), (589, .iconst 1, 1), (590, .iadd, 1), (591, .iaload, 1)] = true := by decide +kernel
theorem dL_law_572 : decode cL_law 572 = .ok (.pop, 1) := dk_0 dg_529
theorem dL_law_573 : decode cL_law 573 = .ok (.goto 711, 3) := dk_1 dg_529
theorem dL_law_576 : decode cL_law 576 = .ok (.aload_n 1, 1) := dk_2 dg_529
theorem dL_law_577 : decode cL_law 577 = .ok (.aload_n 0, 1) := dk_3 dg_529
theorem dL_law_578 : decode cL_law 578 = .ok (.iload_n 3, 1) := dk_4 dg_529
theorem dL_law_579 : decode cL_law 579 = .ok (.iconst 1, 1) := dk_5 dg_529
theorem dL_law_580 : decode cL_law 580 = .ok (.iadd, 1) := dk_6 dg_529
theorem dL_law_581 : decode cL_law 581 = .ok (.iaload, 1) := dk_7 dg_529
theorem dL_law_582 : decode cL_law 582 = .ok (.invokevirtual 81, 3) := dk_8 dg_529
theorem dL_law_585 : decode cL_law 585 = .ok (.pop, 1) := dk_9 dg_529
theorem dL_law_586 : decode cL_law 586 = .ok (.aload_n 2, 1) := dk_10 dg_529
theorem dL_law_587 : decode cL_law 587 = .ok (.aload_n 0, 1) := dk_11 dg_529
theorem dL_law_588 : decode cL_law 588 = .ok (.iload_n 3, 1) := dk_12 dg_529
theorem dL_law_589 : decode cL_law 589 = .ok (.iconst 1, 1) := dk_13 dg_529
theorem dL_law_590 : decode cL_law 590 = .ok (.iadd, 1) := dk_14 dg_529
theorem dL_law_591 : decode cL_law 591 = .ok (.iaload, 1) := dk_15 dg_529
theorem dg_530 : fd_G cL_law 592 [(592, .invokevirtual 84, 3), (595, .pop, 1), (596, .goto 688, 3), (599, .aload_n 1, 1), (600, .invokevirtual 85, 3), (603, .pop, 1), (604, .aload_n 2, 1), (605, .invokevirtual 88, 3), (608, .pop, 1), (609, .goto 675, 3), (612, .aload_n 1, 1), (613, .aload_n 0, 1), (614, .iload_n 3, 1), (615, .iconst 1, 1), (616, .iadd, 1), (617, .iaload, 1)] = true := by decide +kernel
theorem dL_law_592 : decode cL_law 592 = .ok (.invokevirtual 84, 3) := dk_0 dg_530
theorem dL_law_595 : decode cL_law 595 = .ok (.pop, 1) := dk_1 dg_530
theorem dL_law_596 : decode cL_law 596 = .ok (.goto 688, 3) := dk_2 dg_530
theorem dL_law_599 : decode cL_law 599 = .ok (.aload_n 1, 1) := dk_3 dg_530
theorem dL_law_600 : decode cL_law 600 = .ok (.invokevirtual 85, 3) := dk_4 dg_530
theorem dL_law_603 : decode cL_law 603 = .ok (.pop, 1) := dk_5 dg_530
theorem dL_law_604 : decode cL_law 604 = .ok (.aload_n 2, 1) := dk_6 dg_530
theorem dL_law_605 : decode cL_law 605 = .ok (.invokevirtual 88, 3) := dk_7 dg_530
theorem dL_law_608 : decode cL_law 608 = .ok (.pop, 1) := dk_8 dg_530
theorem dL_law_609 : decode cL_law 609 = .ok (.goto 675, 3) := dk_9 dg_530
theorem dL_law_612 : decode cL_law 612 = .ok (.aload_n 1, 1) := dk_10 dg_530
theorem dL_law_613 : decode cL_law 613 = .ok (.aload_n 0, 1) := dk_11 dg_530
theorem dL_law_614 : decode cL_law 614 = .ok (.iload_n 3, 1) := dk_12 dg_530
theorem dL_law_615 : decode cL_law 615 = .ok (.iconst 1, 1) := dk_13 dg_530
theorem dL_law_616 : decode cL_law 616 = .ok (.iadd, 1) := dk_14 dg_530
theorem dL_law_617 : decode cL_law 617 = .ok (.iaload, 1) := dk_15 dg_530
theorem dg_531 : fd_G cL_law 618 [(618, .invokevirtual 89, 3), (621, .pop, 1), (622, .aload_n 2, 1), (623, .aload_n 0, 1), (624, .iload_n 3, 1), (625, .iconst 1, 1), (626, .iadd, 1), (627, .iaload, 1), (628, .invokevirtual 92, 3), (631, .pop, 1), (632, .goto 652, 3), (635, .aload_n 1, 1), (636, .aload_n 0, 1), (637, .iload_n 3, 1), (638, .iconst 1, 1), (639, .iadd, 1)] = true := by decide +kernel
theorem dL_law_618 : decode cL_law 618 = .ok (.invokevirtual 89, 3) := dk_0 dg_531
theorem dL_law_621 : decode cL_law 621 = .ok (.pop, 1) := dk_1 dg_531
theorem dL_law_622 : decode cL_law 622 = .ok (.aload_n 2, 1) := dk_2 dg_531
theorem dL_law_623 : decode cL_law 623 = .ok (.aload_n 0, 1) := dk_3 dg_531
theorem dL_law_624 : decode cL_law 624 = .ok (.iload_n 3, 1) := dk_4 dg_531
theorem dL_law_625 : decode cL_law 625 = .ok (.iconst 1, 1) := dk_5 dg_531
theorem dL_law_626 : decode cL_law 626 = .ok (.iadd, 1) := dk_6 dg_531
theorem dL_law_627 : decode cL_law 627 = .ok (.iaload, 1) := dk_7 dg_531
theorem dL_law_628 : decode cL_law 628 = .ok (.invokevirtual 92, 3) := dk_8 dg_531
theorem dL_law_631 : decode cL_law 631 = .ok (.pop, 1) := dk_9 dg_531
theorem dL_law_632 : decode cL_law 632 = .ok (.goto 652, 3) := dk_10 dg_531
theorem dL_law_635 : decode cL_law 635 = .ok (.aload_n 1, 1) := dk_11 dg_531
theorem dL_law_636 : decode cL_law 636 = .ok (.aload_n 0, 1) := dk_12 dg_531
theorem dL_law_637 : decode cL_law 637 = .ok (.iload_n 3, 1) := dk_13 dg_531
theorem dL_law_638 : decode cL_law 638 = .ok (.iconst 1, 1) := dk_14 dg_531
theorem dL_law_639 : decode cL_law 639 = .ok (.iadd, 1) := dk_15 dg_531
theorem dg_532 : fd_G cL_law 640 [(640, .iaload, 1), (641, .aload_n 0, 1), (642, .iload_n 3, 1), (643, .iconst 2, 1), (644, .iadd, 1), (645, .iaload, 1), (646, .invokevirtual 93, 3), (649, .pop, 1), (650, .aload_n 2, 1), (651, .aload_n 0, 1), (652, .iload_n 3, 1), (653, .iconst 1, 1), (654, .iadd, 1), (655, .iaload, 1), (656, .aload_n 0, 1), (657, .iload_n 3, 1)] = true := by decide +kernel
theorem dL_law_640 : decode cL_law 640 = .ok (.iaload, 1) := dk_0 dg_532
theorem dL_law_641 : decode cL_law 641 = .ok (.aload_n 0, 1) := dk_1 dg_532
theorem dL_law_642 : decode cL_law 642 = .ok (.iload_n 3, 1) := dk_2 dg_532
theorem dL_law_643 : decode cL_law 643 = .ok (.iconst 2, 1) := dk_3 dg_532
theorem dL_law_644 : decode cL_law 644 = .ok (.iadd, 1) := dk_4 dg_532
theorem dL_law_645 : decode cL_law 645 = .ok (.iaload, 1) := dk_5 dg_532
theorem dL_law_646 : decode cL_law 646 = .ok (.invokevirtual 93, 3) := dk_6 dg_532
theorem dL_law_649 : decode cL_law 649 = .ok (.pop, 1) := dk_7 dg_532
theorem dL_law_650 : decode cL_law 650 = .ok (.aload_n 2, 1) := dk_8 dg_532
theorem dL_law_651 : decode cL_law 651 = .ok (.aload_n 0, 1) := dk_9 dg_532
theorem dL_law_652 : decode cL_law 652 = .ok (.iload_n 3, 1) := dk_10 dg_532
theorem dL_law_653 : decode cL_law 653 = .ok (.iconst 1, 1) := dk_11 dg_532
theorem dL_law_654 : decode cL_law 654 = .ok (.iadd, 1) := dk_12 dg_532
theorem dL_law_655 : decode cL_law 655 = .ok (.iaload, 1) := dk_13 dg_532
theorem dL_law_656 : decode cL_law 656 = .ok (.aload_n 0, 1) := dk_14 dg_532
theorem dL_law_657 : decode cL_law 657 = .ok (.iload_n 3, 1) := dk_15 dg_532
theorem dg_533 : fd_G cL_law 658 [(658, .iconst 2, 1), (659, .iadd, 1), (660, .iaload, 1), (661, .invokevirtual 96, 3), (664, .pop, 1), (665, .goto 619, 3), (668, .aload_n 1, 1), (669, .aload_n 0, 1), (670, .iload_n 3, 1), (671, .iconst 1, 1), (672, .iadd, 1), (673, .iaload, 1), (674, .invokevirtual 97, 3), (677, .pop, 1), (678, .aload_n 2, 1), (679, .aload_n 0, 1)] = true := by decide +kernel
theorem dL_law_658 : decode cL_law 658 = .ok (.iconst 2, 1) := dk_0 dg_533
theorem dL_law_659 : decode cL_law 659 = .ok (.iadd, 1) := dk_1 dg_533
theorem dL_law_660 : decode cL_law 660 = .ok (.iaload, 1) := dk_2 dg_533
theorem dL_law_661 : decode cL_law 661 = .ok (.invokevirtual 96, 3) := dk_3 dg_533
theorem dL_law_664 : decode cL_law 664 = .ok (.pop, 1) := dk_4 dg_533
theorem dL_law_665 : decode cL_law 665 = .ok (.goto 619, 3) := dk_5 dg_533
theorem dL_law_668 : decode cL_law 668 = .ok (.aload_n 1, 1) := dk_6 dg_533
theorem dL_law_669 : decode cL_law 669 = .ok (.aload_n 0, 1) := dk_7 dg_533
theorem dL_law_670 : decode cL_law 670 = .ok (.iload_n 3, 1) := dk_8 dg_533
theorem dL_law_671 : decode cL_law 671 = .ok (.iconst 1, 1) := dk_9 dg_533
theorem dL_law_672 : decode cL_law 672 = .ok (.iadd, 1) := dk_10 dg_533
theorem dL_law_673 : decode cL_law 673 = .ok (.iaload, 1) := dk_11 dg_533
theorem dL_law_674 : decode cL_law 674 = .ok (.invokevirtual 97, 3) := dk_12 dg_533
theorem dL_law_677 : decode cL_law 677 = .ok (.pop, 1) := dk_13 dg_533
theorem dL_law_678 : decode cL_law 678 = .ok (.aload_n 2, 1) := dk_14 dg_533
theorem dL_law_679 : decode cL_law 679 = .ok (.aload_n 0, 1) := dk_15 dg_533
theorem dg_534 : fd_G cL_law 680 [(680, .iload_n 3, 1), (681, .iconst 1, 1), (682, .iadd, 1), (683, .iaload, 1), (684, .invokevirtual 100, 3), (687, .pop, 1), (688, .goto 596, 3), (691, .aload_n 1, 1), (692, .aload_n 0, 1), (693, .iload_n 3, 1), (694, .iconst 1, 1), (695, .iadd, 1), (696, .iaload, 1), (697, .aload_n 0, 1), (698, .iload_n 3, 1), (699, .iconst 2, 1)] = true := by decide +kernel
theorem dL_law_680 : decode cL_law 680 = .ok (.iload_n 3, 1) := dk_0 dg_534
theorem dL_law_681 : decode cL_law 681 = .ok (.iconst 1, 1) := dk_1 dg_534
theorem dL_law_682 : decode cL_law 682 = .ok (.iadd, 1) := dk_2 dg_534
theorem dL_law_683 : decode cL_law 683 = .ok (.iaload, 1) := dk_3 dg_534
theorem dL_law_684 : decode cL_law 684 = .ok (.invokevirtual 100, 3) := dk_4 dg_534
theorem dL_law_687 : decode cL_law 687 = .ok (.pop, 1) := dk_5 dg_534
theorem dL_law_688 : decode cL_law 688 = .ok (.goto 596, 3) := dk_6 dg_534
theorem dL_law_691 : decode cL_law 691 = .ok (.aload_n 1, 1) := dk_7 dg_534
theorem dL_law_692 : decode cL_law 692 = .ok (.aload_n 0, 1) := dk_8 dg_534
theorem dL_law_693 : decode cL_law 693 = .ok (.iload_n 3, 1) := dk_9 dg_534
theorem dL_law_694 : decode cL_law 694 = .ok (.iconst 1, 1) := dk_10 dg_534
theorem dL_law_695 : decode cL_law 695 = .ok (.iadd, 1) := dk_11 dg_534
theorem dL_law_696 : decode cL_law 696 = .ok (.iaload, 1) := dk_12 dg_534
theorem dL_law_697 : decode cL_law 697 = .ok (.aload_n 0, 1) := dk_13 dg_534
theorem dL_law_698 : decode cL_law 698 = .ok (.iload_n 3, 1) := dk_14 dg_534
theorem dL_law_699 : decode cL_law 699 = .ok (.iconst 2, 1) := dk_15 dg_534
theorem dg_535 : fd_G cL_law 700 [(700, .iadd, 1), (701, .iaload, 1), (702, .invokevirtual 101, 3), (705, .pop, 1), (706, .aload_n 2, 1), (707, .aload_n 0, 1), (708, .iload_n 3, 1), (709, .iconst 1, 1), (710, .iadd, 1), (711, .iaload, 1), (712, .aload_n 0, 1), (713, .iload_n 3, 1), (714, .iconst 2, 1), (715, .iadd, 1), (716, .iaload, 1), (717, .invokevirtual 104, 3)] = true := by decide +kernel
theorem dL_law_700 : decode cL_law 700 = .ok (.iadd, 1) := dk_0 dg_535
theorem dL_law_701 : decode cL_law 701 = .ok (.iaload, 1) := dk_1 dg_535
theorem dL_law_702 : decode cL_law 702 = .ok (.invokevirtual 101, 3) := dk_2 dg_535
theorem dL_law_705 : decode cL_law 705 = .ok (.pop, 1) := dk_3 dg_535
theorem dL_law_706 : decode cL_law 706 = .ok (.aload_n 2, 1) := dk_4 dg_535
theorem dL_law_707 : decode cL_law 707 = .ok (.aload_n 0, 1) := dk_5 dg_535
theorem dL_law_708 : decode cL_law 708 = .ok (.iload_n 3, 1) := dk_6 dg_535
theorem dL_law_709 : decode cL_law 709 = .ok (.iconst 1, 1) := dk_7 dg_535
theorem dL_law_710 : decode cL_law 710 = .ok (.iadd, 1) := dk_8 dg_535
theorem dL_law_711 : decode cL_law 711 = .ok (.iaload, 1) := dk_9 dg_535
theorem dL_law_712 : decode cL_law 712 = .ok (.aload_n 0, 1) := dk_10 dg_535
theorem dL_law_713 : decode cL_law 713 = .ok (.iload_n 3, 1) := dk_11 dg_535
theorem dL_law_714 : decode cL_law 714 = .ok (.iconst 2, 1) := dk_12 dg_535
theorem dL_law_715 : decode cL_law 715 = .ok (.iadd, 1) := dk_13 dg_535
theorem dL_law_716 : decode cL_law 716 = .ok (.iaload, 1) := dk_14 dg_535
theorem dL_law_717 : decode cL_law 717 = .ok (.invokevirtual 104, 3) := dk_15 dg_535
theorem dg_536 : fd_G cL_law 720 [(720, .pop, 1), (721, .goto 563, 3), (724, .aload_n 1, 1), (725, .aload_n 0, 1), (726, .iload_n 3, 1), (727, .iconst 1, 1), (728, .iadd, 1), (729, .iaload, 1), (730, .aload_n 0, 1), (731, .iload_n 3, 1), (732, .iconst 2, 1), (733, .iadd, 1), (734, .iaload, 1), (735, .invokevirtual 105, 3), (738, .pop, 1), (739, .aload_n 2, 1)] = true := by decide +kernel
theorem dL_law_720 : decode cL_law 720 = .ok (.pop, 1) := dk_0 dg_536
theorem dL_law_721 : decode cL_law 721 = .ok (.goto 563, 3) := dk_1 dg_536
theorem dL_law_724 : decode cL_law 724 = .ok (.aload_n 1, 1) := dk_2 dg_536
theorem dL_law_725 : decode cL_law 725 = .ok (.aload_n 0, 1) := dk_3 dg_536
theorem dL_law_726 : decode cL_law 726 = .ok (.iload_n 3, 1) := dk_4 dg_536
theorem dL_law_727 : decode cL_law 727 = .ok (.iconst 1, 1) := dk_5 dg_536
theorem dL_law_728 : decode cL_law 728 = .ok (.iadd, 1) := dk_6 dg_536
theorem dL_law_729 : decode cL_law 729 = .ok (.iaload, 1) := dk_7 dg_536
theorem dL_law_730 : decode cL_law 730 = .ok (.aload_n 0, 1) := dk_8 dg_536
theorem dL_law_731 : decode cL_law 731 = .ok (.iload_n 3, 1) := dk_9 dg_536
theorem dL_law_732 : decode cL_law 732 = .ok (.iconst 2, 1) := dk_10 dg_536
theorem dL_law_733 : decode cL_law 733 = .ok (.iadd, 1) := dk_11 dg_536
theorem dL_law_734 : decode cL_law 734 = .ok (.iaload, 1) := dk_12 dg_536
theorem dL_law_735 : decode cL_law 735 = .ok (.invokevirtual 105, 3) := dk_13 dg_536
theorem dL_law_738 : decode cL_law 738 = .ok (.pop, 1) := dk_14 dg_536
theorem dL_law_739 : decode cL_law 739 = .ok (.aload_n 2, 1) := dk_15 dg_536
theorem dg_537 : fd_G cL_law 740 [(740, .aload_n 0, 1), (741, .iload_n 3, 1), (742, .iconst 1, 1), (743, .iadd, 1), (744, .iaload, 1), (745, .aload_n 0, 1), (746, .iload_n 3, 1), (747, .iconst 2, 1), (748, .iadd, 1), (749, .iaload, 1), (750, .invokevirtual 108, 3), (753, .pop, 1), (754, .goto 530, 3), (757, .aload_n 1, 1), (758, .aload_n 0, 1), (759, .iload_n 3, 1)] = true := by decide +kernel
theorem dL_law_740 : decode cL_law 740 = .ok (.aload_n 0, 1) := dk_0 dg_537
theorem dL_law_741 : decode cL_law 741 = .ok (.iload_n 3, 1) := dk_1 dg_537
theorem dL_law_742 : decode cL_law 742 = .ok (.iconst 1, 1) := dk_2 dg_537
theorem dL_law_743 : decode cL_law 743 = .ok (.iadd, 1) := dk_3 dg_537
theorem dL_law_744 : decode cL_law 744 = .ok (.iaload, 1) := dk_4 dg_537
theorem dL_law_745 : decode cL_law 745 = .ok (.aload_n 0, 1) := dk_5 dg_537
theorem dL_law_746 : decode cL_law 746 = .ok (.iload_n 3, 1) := dk_6 dg_537
theorem dL_law_747 : decode cL_law 747 = .ok (.iconst 2, 1) := dk_7 dg_537
theorem dL_law_748 : decode cL_law 748 = .ok (.iadd, 1) := dk_8 dg_537
theorem dL_law_749 : decode cL_law 749 = .ok (.iaload, 1) := dk_9 dg_537
theorem dL_law_750 : decode cL_law 750 = .ok (.invokevirtual 108, 3) := dk_10 dg_537
theorem dL_law_753 : decode cL_law 753 = .ok (.pop, 1) := dk_11 dg_537
theorem dL_law_754 : decode cL_law 754 = .ok (.goto 530, 3) := dk_12 dg_537
theorem dL_law_757 : decode cL_law 757 = .ok (.aload_n 1, 1) := dk_13 dg_537
theorem dL_law_758 : decode cL_law 758 = .ok (.aload_n 0, 1) := dk_14 dg_537
theorem dL_law_759 : decode cL_law 759 = .ok (.iload_n 3, 1) := dk_15 dg_537
theorem dg_538 : fd_G cL_law 760 [(760, .iconst 1, 1), (761, .iadd, 1), (762, .iaload, 1), (763, .invokevirtual 109, 3), (766, .pop, 1), (767, .aload_n 2, 1), (768, .aload_n 0, 1), (769, .iload_n 3, 1), (770, .iconst 1, 1), (771, .iadd, 1), (772, .iaload, 1), (773, .invokevirtual 112, 3), (776, .pop, 1), (777, .goto 507, 3), (780, .aload_n 1, 1), (781, .invokevirtual 113, 3)] = true := by decide +kernel
theorem dL_law_760 : decode cL_law 760 = .ok (.iconst 1, 1) := dk_0 dg_538
theorem dL_law_761 : decode cL_law 761 = .ok (.iadd, 1) := dk_1 dg_538
theorem dL_law_762 : decode cL_law 762 = .ok (.iaload, 1) := dk_2 dg_538
theorem dL_law_763 : decode cL_law 763 = .ok (.invokevirtual 109, 3) := dk_3 dg_538
theorem dL_law_766 : decode cL_law 766 = .ok (.pop, 1) := dk_4 dg_538
theorem dL_law_767 : decode cL_law 767 = .ok (.aload_n 2, 1) := dk_5 dg_538
theorem dL_law_768 : decode cL_law 768 = .ok (.aload_n 0, 1) := dk_6 dg_538
theorem dL_law_769 : decode cL_law 769 = .ok (.iload_n 3, 1) := dk_7 dg_538
theorem dL_law_770 : decode cL_law 770 = .ok (.iconst 1, 1) := dk_8 dg_538
theorem dL_law_771 : decode cL_law 771 = .ok (.iadd, 1) := dk_9 dg_538
theorem dL_law_772 : decode cL_law 772 = .ok (.iaload, 1) := dk_10 dg_538
theorem dL_law_773 : decode cL_law 773 = .ok (.invokevirtual 112, 3) := dk_11 dg_538
theorem dL_law_776 : decode cL_law 776 = .ok (.pop, 1) := dk_12 dg_538
theorem dL_law_777 : decode cL_law 777 = .ok (.goto 507, 3) := dk_13 dg_538
theorem dL_law_780 : decode cL_law 780 = .ok (.aload_n 1, 1) := dk_14 dg_538
theorem dL_law_781 : decode cL_law 781 = .ok (.invokevirtual 113, 3) := dk_15 dg_538
theorem dg_539 : fd_G cL_law 784 [(784, .pop, 1), (785, .aload_n 2, 1), (786, .invokevirtual 116, 3), (789, .pop, 1), (790, .goto 494, 3), (793, .aload_n 1, 1), (794, .aload_n 0, 1), (795, .iload_n 3, 1), (796, .iconst 1, 1), (797, .iadd, 1), (798, .iaload, 1), (799, .aload_n 0, 1), (800, .iload_n 3, 1), (801, .iconst 2, 1), (802, .iadd, 1), (803, .iaload, 1)] = true := by decide +kernel
theorem dL_law_784 : decode cL_law 784 = .ok (.pop, 1) := dk_0 dg_539
theorem dL_law_785 : decode cL_law 785 = .ok (.aload_n 2, 1) := dk_1 dg_539
theorem dL_law_786 : decode cL_law 786 = .ok (.invokevirtual 116, 3) := dk_2 dg_539
theorem dL_law_789 : decode cL_law 789 = .ok (.pop, 1) := dk_3 dg_539
theorem dL_law_790 : decode cL_law 790 = .ok (.goto 494, 3) := dk_4 dg_539
theorem dL_law_793 : decode cL_law 793 = .ok (.aload_n 1, 1) := dk_5 dg_539
theorem dL_law_794 : decode cL_law 794 = .ok (.aload_n 0, 1) := dk_6 dg_539
theorem dL_law_795 : decode cL_law 795 = .ok (.iload_n 3, 1) := dk_7 dg_539
theorem dL_law_796 : decode cL_law 796 = .ok (.iconst 1, 1) := dk_8 dg_539
theorem dL_law_797 : decode cL_law 797 = .ok (.iadd, 1) := dk_9 dg_539
theorem dL_law_798 : decode cL_law 798 = .ok (.iaload, 1) := dk_10 dg_539
theorem dL_law_799 : decode cL_law 799 = .ok (.aload_n 0, 1) := dk_11 dg_539
theorem dL_law_800 : decode cL_law 800 = .ok (.iload_n 3, 1) := dk_12 dg_539
theorem dL_law_801 : decode cL_law 801 = .ok (.iconst 2, 1) := dk_13 dg_539
theorem dL_law_802 : decode cL_law 802 = .ok (.iadd, 1) := dk_14 dg_539
theorem dL_law_803 : decode cL_law 803 = .ok (.iaload, 1) := dk_15 dg_539
theorem dL_law_812 : decode cL_law 812 = .ok (.pop2, 1) := by decide +kernel
theorem dg_540 : fd_G cL_law 804 [(804, .aload_n 0, 1), (805, .iload_n 3, 1), (806, .iconst 3, 1), (807, .iadd, 1), (808, .iaload, 1), (809, .invokevirtual 117, 3), (813, .aload_n 2, 1), (814, .aload_n 0, 1), (815, .iload_n 3, 1), (816, .iconst 1, 1), (817, .iadd, 1), (818, .iaload, 1), (819, .aload_n 0, 1), (820, .iload_n 3, 1), (821, .iconst 2, 1), (822, .iadd, 1)] = true := by decide +kernel
theorem dL_law_804 : decode cL_law 804 = .ok (.aload_n 0, 1) := dk_0 dg_540
theorem dL_law_805 : decode cL_law 805 = .ok (.iload_n 3, 1) := dk_1 dg_540
theorem dL_law_806 : decode cL_law 806 = .ok (.iconst 3, 1) := dk_2 dg_540
theorem dL_law_807 : decode cL_law 807 = .ok (.iadd, 1) := dk_3 dg_540
theorem dL_law_808 : decode cL_law 808 = .ok (.iaload, 1) := dk_4 dg_540
theorem dL_law_809 : decode cL_law 809 = .ok (.invokevirtual 117, 3) := dk_5 dg_540
theorem dL_law_813 : decode cL_law 813 = .ok (.aload_n 2, 1) := dk_6 dg_540
theorem dL_law_814 : decode cL_law 814 = .ok (.aload_n 0, 1) := dk_7 dg_540
theorem dL_law_815 : decode cL_law 815 = .ok (.iload_n 3, 1) := dk_8 dg_540
theorem dL_law_816 : decode cL_law 816 = .ok (.iconst 1, 1) := dk_9 dg_540
theorem dL_law_817 : decode cL_law 817 = .ok (.iadd, 1) := dk_10 dg_540
theorem dL_law_818 : decode cL_law 818 = .ok (.iaload, 1) := dk_11 dg_540
theorem dL_law_819 : decode cL_law 819 = .ok (.aload_n 0, 1) := dk_12 dg_540
theorem dL_law_820 : decode cL_law 820 = .ok (.iload_n 3, 1) := dk_13 dg_540
theorem dL_law_821 : decode cL_law 821 = .ok (.iconst 2, 1) := dk_14 dg_540
theorem dL_law_822 : decode cL_law 822 = .ok (.iadd, 1) := dk_15 dg_540
theorem dL_law_832 : decode cL_law 832 = .ok (.pop2, 1) := by decide +kernel
theorem dg_541 : fd_G cL_law 823 [(823, .iaload, 1), (824, .aload_n 0, 1), (825, .iload_n 3, 1), (826, .iconst 3, 1), (827, .iadd, 1), (828, .iaload, 1), (829, .invokevirtual 121, 3), (833, .goto 451, 3), (836, .aload_n 1, 1), (837, .aload_n 0, 1), (838, .iload_n 3, 1), (839, .iconst 1, 1), (840, .iadd, 1), (841, .iaload, 1), (842, .aload_n 0, 1), (843, .iload_n 3, 1)] = true := by decide +kernel
theorem dL_law_823 : decode cL_law 823 = .ok (.iaload, 1) := dk_0 dg_541
theorem dL_law_824 : decode cL_law 824 = .ok (.aload_n 0, 1) := dk_1 dg_541
theorem dL_law_825 : decode cL_law 825 = .ok (.iload_n 3, 1) := dk_2 dg_541
theorem dL_law_826 : decode cL_law 826 = .ok (.iconst 3, 1) := dk_3 dg_541
theorem dL_law_827 : decode cL_law 827 = .ok (.iadd, 1) := dk_4 dg_541
theorem dL_law_828 : decode cL_law 828 = .ok (.iaload, 1) := dk_5 dg_541
theorem dL_law_829 : decode cL_law 829 = .ok (.invokevirtual 121, 3) := dk_6 dg_541
theorem dL_law_833 : decode cL_law 833 = .ok (.goto 451, 3) := dk_7 dg_541
theorem dL_law_836 : decode cL_law 836 = .ok (.aload_n 1, 1) := dk_8 dg_541
theorem dL_law_837 : decode cL_law 837 = .ok (.aload_n 0, 1) := dk_9 dg_541
theorem dL_law_838 : decode cL_law 838 = .ok (.iload_n 3, 1) := dk_10 dg_541
theorem dL_law_839 : decode cL_law 839 = .ok (.iconst 1, 1) := dk_11 dg_541
theorem dL_law_840 : decode cL_law 840 = .ok (.iadd, 1) := dk_12 dg_541
theorem dL_law_841 : decode cL_law 841 = .ok (.iaload, 1) := dk_13 dg_541
theorem dL_law_842 : decode cL_law 842 = .ok (.aload_n 0, 1) := dk_14 dg_541
theorem dL_law_843 : decode cL_law 843 = .ok (.iload_n 3, 1) := dk_15 dg_541
theorem dL_law_850 : decode cL_law 850 = .ok (.pop2, 1) := by decide +kernel
theorem dg_542 : fd_G cL_law 844 [(844, .iconst 2, 1), (845, .iadd, 1), (846, .iaload, 1), (847, .invokevirtual 122, 3), (851, .aload_n 2, 1), (852, .aload_n 0, 1), (853, .iload_n 3, 1), (854, .iconst 1, 1), (855, .iadd, 1), (856, .iaload, 1), (857, .aload_n 0, 1), (858, .iload_n 3, 1), (859, .iconst 2, 1), (860, .iadd, 1), (861, .iaload, 1), (862, .invokevirtual 126, 3)] = true := by decide +kernel
theorem dL_law_844 : decode cL_law 844 = .ok (.iconst 2, 1) := dk_0 dg_542
theorem dL_law_845 : decode cL_law 845 = .ok (.iadd, 1) := dk_1 dg_542
theorem dL_law_846 : decode cL_law 846 = .ok (.iaload, 1) := dk_2 dg_542
theorem dL_law_847 : decode cL_law 847 = .ok (.invokevirtual 122, 3) := dk_3 dg_542
theorem dL_law_851 : decode cL_law 851 = .ok (.aload_n 2, 1) := dk_4 dg_542
theorem dL_law_852 : decode cL_law 852 = .ok (.aload_n 0, 1) := dk_5 dg_542
theorem dL_law_853 : decode cL_law 853 = .ok (.iload_n 3, 1) := dk_6 dg_542
theorem dL_law_854 : decode cL_law 854 = .ok (.iconst 1, 1) := dk_7 dg_542
theorem dL_law_855 : decode cL_law 855 = .ok (.iadd, 1) := dk_8 dg_542
theorem dL_law_856 : decode cL_law 856 = .ok (.iaload, 1) := dk_9 dg_542
theorem dL_law_857 : decode cL_law 857 = .ok (.aload_n 0, 1) := dk_10 dg_542
theorem dL_law_858 : decode cL_law 858 = .ok (.iload_n 3, 1) := dk_11 dg_542
theorem dL_law_859 : decode cL_law 859 = .ok (.iconst 2, 1) := dk_12 dg_542
theorem dL_law_860 : decode cL_law 860 = .ok (.iadd, 1) := dk_13 dg_542
theorem dL_law_861 : decode cL_law 861 = .ok (.iaload, 1) := dk_14 dg_542
theorem dL_law_862 : decode cL_law 862 = .ok (.invokevirtual 126, 3) := dk_15 dg_542
theorem dL_law_865 : decode cL_law 865 = .ok (.pop2, 1) := by decide +kernel
theorem dg_543 : fd_G cL_law 866 [(866, .goto 418, 3), (869, .aload_n 1, 1), (870, .aload_n 0, 1), (871, .iload_n 3, 1), (872, .iconst 1, 1), (873, .iadd, 1), (874, .iaload, 1), (875, .aload_n 0, 1), (876, .iload_n 3, 1), (877, .iconst 2, 1), (878, .iadd, 1), (879, .iaload, 1), (880, .ifCond .eq 7, 3), (883, .iconst 1, 1), (884, .goto 4, 3), (887, .iconst 0, 1)] = true := by decide +kernel
theorem dL_law_866 : decode cL_law 866 = .ok (.goto 418, 3) := dk_0 dg_543
theorem dL_law_869 : decode cL_law 869 = .ok (.aload_n 1, 1) := dk_1 dg_543
theorem dL_law_870 : decode cL_law 870 = .ok (.aload_n 0, 1) := dk_2 dg_543
theorem dL_law_871 : decode cL_law 871 = .ok (.iload_n 3, 1) := dk_3 dg_543
theorem dL_law_872 : decode cL_law 872 = .ok (.iconst 1, 1) := dk_4 dg_543
theorem dL_law_873 : decode cL_law 873 = .ok (.iadd, 1) := dk_5 dg_543
theorem dL_law_874 : decode cL_law 874 = .ok (.iaload, 1) := dk_6 dg_543
theorem dL_law_875 : decode cL_law 875 = .ok (.aload_n 0, 1) := dk_7 dg_543
theorem dL_law_876 : decode cL_law 876 = .ok (.iload_n 3, 1) := dk_8 dg_543
theorem dL_law_877 : decode cL_law 877 = .ok (.iconst 2, 1) := dk_9 dg_543
theorem dL_law_878 : decode cL_law 878 = .ok (.iadd, 1) := dk_10 dg_543
theorem dL_law_879 : decode cL_law 879 = .ok (.iaload, 1) := dk_11 dg_543
theorem dL_law_880 : decode cL_law 880 = .ok (.ifCond .eq 7, 3) := dk_12 dg_543
theorem dL_law_883 : decode cL_law 883 = .ok (.iconst 1, 1) := dk_13 dg_543
theorem dL_law_884 : decode cL_law 884 = .ok (.goto 4, 3) := dk_14 dg_543
theorem dL_law_887 : decode cL_law 887 = .ok (.iconst 0, 1) := dk_15 dg_543
theorem dg_544 : fd_G cL_law 888 [(888, .invokevirtual 127, 3), (891, .pop, 1), (892, .aload_n 2, 1), (893, .aload_n 0, 1), (894, .iload_n 3, 1), (895, .iconst 1, 1), (896, .iadd, 1), (897, .iaload, 1), (898, .aload_n 0, 1), (899, .iload_n 3, 1), (900, .iconst 2, 1), (901, .iadd, 1), (902, .iaload, 1), (903, .ifCond .eq 7, 3), (906, .iconst 1, 1), (907, .goto 4, 3)] = true := by decide +kernel
theorem dL_law_888 : decode cL_law 888 = .ok (.invokevirtual 127, 3) := dk_0 dg_544
theorem dL_law_891 : decode cL_law 891 = .ok (.pop, 1) := dk_1 dg_544
theorem dL_law_892 : decode cL_law 892 = .ok (.aload_n 2, 1) := dk_2 dg_544
theorem dL_law_893 : decode cL_law 893 = .ok (.aload_n 0, 1) := dk_3 dg_544
theorem dL_law_894 : decode cL_law 894 = .ok (.iload_n 3, 1) := dk_4 dg_544
theorem dL_law_895 : decode cL_law 895 = .ok (.iconst 1, 1) := dk_5 dg_544
theorem dL_law_896 : decode cL_law 896 = .ok (.iadd, 1) := dk_6 dg_544
theorem dL_law_897 : decode cL_law 897 = .ok (.iaload, 1) := dk_7 dg_544
theorem dL_law_898 : decode cL_law 898 = .ok (.aload_n 0, 1) := dk_8 dg_544
theorem dL_law_899 : decode cL_law 899 = .ok (.iload_n 3, 1) := dk_9 dg_544
theorem dL_law_900 : decode cL_law 900 = .ok (.iconst 2, 1) := dk_10 dg_544
theorem dL_law_901 : decode cL_law 901 = .ok (.iadd, 1) := dk_11 dg_544
theorem dL_law_902 : decode cL_law 902 = .ok (.iaload, 1) := dk_12 dg_544
theorem dL_law_903 : decode cL_law 903 = .ok (.ifCond .eq 7, 3) := dk_13 dg_544
theorem dL_law_906 : decode cL_law 906 = .ok (.iconst 1, 1) := dk_14 dg_544
theorem dL_law_907 : decode cL_law 907 = .ok (.goto 4, 3) := dk_15 dg_544
theorem dg_545 : fd_G cL_law 910 [(910, .iconst 0, 1), (911, .invokevirtual 131, 3), (914, .pop, 1), (915, .goto 369, 3), (918, .aload_n 1, 1), (919, .aload_n 0, 1), (920, .iload_n 3, 1), (921, .iconst 1, 1), (922, .iadd, 1), (923, .iaload, 1), (924, .invokevirtual 132, 3), (927, .pop, 1), (928, .aload_n 2, 1), (929, .aload_n 0, 1), (930, .iload_n 3, 1), (931, .iconst 1, 1)] = true := by decide +kernel
theorem dL_law_910 : decode cL_law 910 = .ok (.iconst 0, 1) := dk_0 dg_545
theorem dL_law_911 : decode cL_law 911 = .ok (.invokevirtual 131, 3) := dk_1 dg_545
theorem dL_law_914 : decode cL_law 914 = .ok (.pop, 1) := dk_2 dg_545
theorem dL_law_915 : decode cL_law 915 = .ok (.goto 369, 3) := dk_3 dg_545
theorem dL_law_918 : decode cL_law 918 = .ok (.aload_n 1, 1) := dk_4 dg_545
theorem dL_law_919 : decode cL_law 919 = .ok (.aload_n 0, 1) := dk_5 dg_545
theorem dL_law_920 : decode cL_law 920 = .ok (.iload_n 3, 1) := dk_6 dg_545
theorem dL_law_921 : decode cL_law 921 = .ok (.iconst 1, 1) := dk_7 dg_545
theorem dL_law_922 : decode cL_law 922 = .ok (.iadd, 1) := dk_8 dg_545
theorem dL_law_923 : decode cL_law 923 = .ok (.iaload, 1) := dk_9 dg_545
theorem dL_law_924 : decode cL_law 924 = .ok (.invokevirtual 132, 3) := dk_10 dg_545
theorem dL_law_927 : decode cL_law 927 = .ok (.pop, 1) := dk_11 dg_545
theorem dL_law_928 : decode cL_law 928 = .ok (.aload_n 2, 1) := dk_12 dg_545
theorem dL_law_929 : decode cL_law 929 = .ok (.aload_n 0, 1) := dk_13 dg_545
theorem dL_law_930 : decode cL_law 930 = .ok (.iload_n 3, 1) := dk_14 dg_545
theorem dL_law_931 : decode cL_law 931 = .ok (.iconst 1, 1) := dk_15 dg_545
theorem dg_546 : fd_G cL_law 932 [(932, .iadd, 1), (933, .iaload, 1), (934, .invokevirtual 135, 3), (937, .pop, 1), (938, .goto 346, 3), (941, .aload_n 1, 1), (942, .aload_n 0, 1), (943, .iload_n 3, 1), (944, .iconst 1, 1), (945, .iadd, 1), (946, .iaload, 1), (947, .invokevirtual 136, 3), (950, .pop, 1), (951, .aload_n 2, 1), (952, .aload_n 0, 1), (953, .iload_n 3, 1)] = true := by decide +kernel
theorem dL_law_932 : decode cL_law 932 = .ok (.iadd, 1) := dk_0 dg_546
theorem dL_law_933 : decode cL_law 933 = .ok (.iaload, 1) := dk_1 dg_546
theorem dL_law_934 : decode cL_law 934 = .ok (.invokevirtual 135, 3) := dk_2 dg_546
theorem dL_law_937 : decode cL_law 937 = .ok (.pop, 1) := dk_3 dg_546
theorem dL_law_938 : decode cL_law 938 = .ok (.goto 346, 3) := dk_4 dg_546
theorem dL_law_941 : decode cL_law 941 = .ok (.aload_n 1, 1) := dk_5 dg_546
theorem dL_law_942 : decode cL_law 942 = .ok (.aload_n 0, 1) := dk_6 dg_546
theorem dL_law_943 : decode cL_law 943 = .ok (.iload_n 3, 1) := dk_7 dg_546
theorem dL_law_944 : decode cL_law 944 = .ok (.iconst 1, 1) := dk_8 dg_546
theorem dL_law_945 : decode cL_law 945 = .ok (.iadd, 1) := dk_9 dg_546
theorem dL_law_946 : decode cL_law 946 = .ok (.iaload, 1) := dk_10 dg_546
theorem dL_law_947 : decode cL_law 947 = .ok (.invokevirtual 136, 3) := dk_11 dg_546
theorem dL_law_950 : decode cL_law 950 = .ok (.pop, 1) := dk_12 dg_546
theorem dL_law_951 : decode cL_law 951 = .ok (.aload_n 2, 1) := dk_13 dg_546
theorem dL_law_952 : decode cL_law 952 = .ok (.aload_n 0, 1) := dk_14 dg_546
theorem dL_law_953 : decode cL_law 953 = .ok (.iload_n 3, 1) := dk_15 dg_546
theorem dg_547 : fd_G cL_law 954 [(954, .iconst 1, 1), (955, .iadd, 1), (956, .iaload, 1), (957, .invokevirtual 139, 3), (960, .pop, 1), (961, .goto 323, 3), (964, .aload_n 1, 1), (965, .aload_n 0, 1), (966, .iload_n 3, 1), (967, .iconst 1, 1), (968, .iadd, 1), (969, .iaload, 1), (970, .invokevirtual 140, 3), (973, .pop, 1), (974, .aload_n 2, 1), (975, .aload_n 0, 1)] = true := by decide +kernel
theorem dL_law_954 : decode cL_law 954 = .ok (.iconst 1, 1) := dk_0 dg_547
theorem dL_law_955 : decode cL_law 955 = .ok (.iadd, 1) := dk_1 dg_547
theorem dL_law_956 : decode cL_law 956 = .ok (.iaload, 1) := dk_2 dg_547
theorem dL_law_957 : decode cL_law 957 = .ok (.invokevirtual 139, 3) := dk_3 dg_547
theorem dL_law_960 : decode cL_law 960 = .ok (.pop, 1) := dk_4 dg_547
theorem dL_law_961 : decode cL_law 961 = .ok (.goto 323, 3) := dk_5 dg_547
theorem dL_law_964 : decode cL_law 964 = .ok (.aload_n 1, 1) := dk_6 dg_547
theorem dL_law_965 : decode cL_law 965 = .ok (.aload_n 0, 1) := dk_7 dg_547
theorem dL_law_966 : decode cL_law 966 = .ok (.iload_n 3, 1) := dk_8 dg_547
theorem dL_law_967 : decode cL_law 967 = .ok (.iconst 1, 1) := dk_9 dg_547
theorem dL_law_968 : decode cL_law 968 = .ok (.iadd, 1) := dk_10 dg_547
theorem dL_law_969 : decode cL_law 969 = .ok (.iaload, 1) := dk_11 dg_547
theorem dL_law_970 : decode cL_law 970 = .ok (.invokevirtual 140, 3) := dk_12 dg_547
theorem dL_law_973 : decode cL_law 973 = .ok (.pop, 1) := dk_13 dg_547
theorem dL_law_974 : decode cL_law 974 = .ok (.aload_n 2, 1) := dk_14 dg_547
theorem dL_law_975 : decode cL_law 975 = .ok (.aload_n 0, 1) := dk_15 dg_547
theorem dg_548 : fd_G cL_law 976 [(976, .iload_n 3, 1), (977, .iconst 1, 1), (978, .iadd, 1), (979, .iaload, 1), (980, .invokevirtual 143, 3), (983, .pop, 1), (984, .goto 300, 3), (987, .aload_n 1, 1), (988, .aload_n 0, 1), (989, .iload_n 3, 1), (990, .iconst 1, 1), (991, .iadd, 1), (992, .iaload, 1), (993, .aload_n 0, 1), (994, .iload_n 3, 1), (995, .iconst 2, 1)] = true := by decide +kernel
theorem dL_law_976 : decode cL_law 976 = .ok (.iload_n 3, 1) := dk_0 dg_548
theorem dL_law_977 : decode cL_law 977 = .ok (.iconst 1, 1) := dk_1 dg_548
theorem dL_law_978 : decode cL_law 978 = .ok (.iadd, 1) := dk_2 dg_548
theorem dL_law_979 : decode cL_law 979 = .ok (.iaload, 1) := dk_3 dg_548
theorem dL_law_980 : decode cL_law 980 = .ok (.invokevirtual 143, 3) := dk_4 dg_548
theorem dL_law_983 : decode cL_law 983 = .ok (.pop, 1) := dk_5 dg_548
theorem dL_law_984 : decode cL_law 984 = .ok (.goto 300, 3) := dk_6 dg_548
theorem dL_law_987 : decode cL_law 987 = .ok (.aload_n 1, 1) := dk_7 dg_548
theorem dL_law_988 : decode cL_law 988 = .ok (.aload_n 0, 1) := dk_8 dg_548
theorem dL_law_989 : decode cL_law 989 = .ok (.iload_n 3, 1) := dk_9 dg_548
theorem dL_law_990 : decode cL_law 990 = .ok (.iconst 1, 1) := dk_10 dg_548
theorem dL_law_991 : decode cL_law 991 = .ok (.iadd, 1) := dk_11 dg_548
theorem dL_law_992 : decode cL_law 992 = .ok (.iaload, 1) := dk_12 dg_548
theorem dL_law_993 : decode cL_law 993 = .ok (.aload_n 0, 1) := dk_13 dg_548
theorem dL_law_994 : decode cL_law 994 = .ok (.iload_n 3, 1) := dk_14 dg_548
theorem dL_law_995 : decode cL_law 995 = .ok (.iconst 2, 1) := dk_15 dg_548
theorem dg_549 : fd_G cL_law 996 [(996, .iadd, 1), (997, .iaload, 1), (998, .invokevirtual 144, 3), (1001, .pop, 1), (1002, .aload_n 2, 1), (1003, .aload_n 0, 1), (1004, .iload_n 3, 1), (1005, .iconst 1, 1), (1006, .iadd, 1), (1007, .iaload, 1), (1008, .aload_n 0, 1), (1009, .iload_n 3, 1), (1010, .iconst 2, 1), (1011, .iadd, 1), (1012, .iaload, 1), (1013, .invokevirtual 147, 3)] = true := by decide +kernel
theorem dL_law_996 : decode cL_law 996 = .ok (.iadd, 1) := dk_0 dg_549
theorem dL_law_997 : decode cL_law 997 = .ok (.iaload, 1) := dk_1 dg_549
theorem dL_law_998 : decode cL_law 998 = .ok (.invokevirtual 144, 3) := dk_2 dg_549
theorem dL_law_1001 : decode cL_law 1001 = .ok (.pop, 1) := dk_3 dg_549
theorem dL_law_1002 : decode cL_law 1002 = .ok (.aload_n 2, 1) := dk_4 dg_549
theorem dL_law_1003 : decode cL_law 1003 = .ok (.aload_n 0, 1) := dk_5 dg_549
theorem dL_law_1004 : decode cL_law 1004 = .ok (.iload_n 3, 1) := dk_6 dg_549
theorem dL_law_1005 : decode cL_law 1005 = .ok (.iconst 1, 1) := dk_7 dg_549
theorem dL_law_1006 : decode cL_law 1006 = .ok (.iadd, 1) := dk_8 dg_549
theorem dL_law_1007 : decode cL_law 1007 = .ok (.iaload, 1) := dk_9 dg_549
theorem dL_law_1008 : decode cL_law 1008 = .ok (.aload_n 0, 1) := dk_10 dg_549
theorem dL_law_1009 : decode cL_law 1009 = .ok (.iload_n 3, 1) := dk_11 dg_549
theorem dL_law_1010 : decode cL_law 1010 = .ok (.iconst 2, 1) := dk_12 dg_549
theorem dL_law_1011 : decode cL_law 1011 = .ok (.iadd, 1) := dk_13 dg_549
theorem dL_law_1012 : decode cL_law 1012 = .ok (.iaload, 1) := dk_14 dg_549
theorem dL_law_1013 : decode cL_law 1013 = .ok (.invokevirtual 147, 3) := dk_15 dg_549
theorem dg_550 : fd_G cL_law 1016 [(1016, .pop, 1), (1017, .goto 267, 3), (1020, .aload_n 1, 1), (1021, .aload_n 0, 1), (1022, .iload_n 3, 1), (1023, .iconst 1, 1), (1024, .iadd, 1), (1025, .iaload, 1), (1026, .aload_n 0, 1), (1027, .iload_n 3, 1), (1028, .iconst 2, 1), (1029, .iadd, 1), (1030, .iaload, 1), (1031, .aload_n 0, 1), (1032, .iload_n 3, 1), (1033, .iconst 3, 1)] = true := by decide +kernel
theorem dL_law_1016 : decode cL_law 1016 = .ok (.pop, 1) := dk_0 dg_550
theorem dL_law_1017 : decode cL_law 1017 = .ok (.goto 267, 3) := dk_1 dg_550
theorem dL_law_1020 : decode cL_law 1020 = .ok (.aload_n 1, 1) := dk_2 dg_550
theorem dL_law_1021 : decode cL_law 1021 = .ok (.aload_n 0, 1) := dk_3 dg_550
theorem dL_law_1022 : decode cL_law 1022 = .ok (.iload_n 3, 1) := dk_4 dg_550
theorem dL_law_1023 : decode cL_law 1023 = .ok (.iconst 1, 1) := dk_5 dg_550
theorem dL_law_1024 : decode cL_law 1024 = .ok (.iadd, 1) := dk_6 dg_550
theorem dL_law_1025 : decode cL_law 1025 = .ok (.iaload, 1) := dk_7 dg_550
theorem dL_law_1026 : decode cL_law 1026 = .ok (.aload_n 0, 1) := dk_8 dg_550
theorem dL_law_1027 : decode cL_law 1027 = .ok (.iload_n 3, 1) := dk_9 dg_550
theorem dL_law_1028 : decode cL_law 1028 = .ok (.iconst 2, 1) := dk_10 dg_550
theorem dL_law_1029 : decode cL_law 1029 = .ok (.iadd, 1) := dk_11 dg_550
theorem dL_law_1030 : decode cL_law 1030 = .ok (.iaload, 1) := dk_12 dg_550
theorem dL_law_1031 : decode cL_law 1031 = .ok (.aload_n 0, 1) := dk_13 dg_550
theorem dL_law_1032 : decode cL_law 1032 = .ok (.iload_n 3, 1) := dk_14 dg_550
theorem dL_law_1033 : decode cL_law 1033 = .ok (.iconst 3, 1) := dk_15 dg_550
theorem dg_551 : fd_G cL_law 1034 [(1034, .iadd, 1), (1035, .iaload, 1), (1036, .invokevirtual 148, 3), (1039, .pop, 1), (1040, .aload_n 2, 1), (1041, .aload_n 0, 1), (1042, .iload_n 3, 1), (1043, .iconst 1, 1), (1044, .iadd, 1), (1045, .iaload, 1), (1046, .aload_n 0, 1), (1047, .iload_n 3, 1), (1048, .iconst 2, 1), (1049, .iadd, 1), (1050, .iaload, 1), (1051, .aload_n 0, 1)] = true := by decide +kernel
theorem dL_law_1034 : decode cL_law 1034 = .ok (.iadd, 1) := dk_0 dg_551
theorem dL_law_1035 : decode cL_law 1035 = .ok (.iaload, 1) := dk_1 dg_551
theorem dL_law_1036 : decode cL_law 1036 = .ok (.invokevirtual 148, 3) := dk_2 dg_551
theorem dL_law_1039 : decode cL_law 1039 = .ok (.pop, 1) := dk_3 dg_551
theorem dL_law_1040 : decode cL_law 1040 = .ok (.aload_n 2, 1) := dk_4 dg_551
theorem dL_law_1041 : decode cL_law 1041 = .ok (.aload_n 0, 1) := dk_5 dg_551
theorem dL_law_1042 : decode cL_law 1042 = .ok (.iload_n 3, 1) := dk_6 dg_551
theorem dL_law_1043 : decode cL_law 1043 = .ok (.iconst 1, 1) := dk_7 dg_551
theorem dL_law_1044 : decode cL_law 1044 = .ok (.iadd, 1) := dk_8 dg_551
theorem dL_law_1045 : decode cL_law 1045 = .ok (.iaload, 1) := dk_9 dg_551
theorem dL_law_1046 : decode cL_law 1046 = .ok (.aload_n 0, 1) := dk_10 dg_551
theorem dL_law_1047 : decode cL_law 1047 = .ok (.iload_n 3, 1) := dk_11 dg_551
theorem dL_law_1048 : decode cL_law 1048 = .ok (.iconst 2, 1) := dk_12 dg_551
theorem dL_law_1049 : decode cL_law 1049 = .ok (.iadd, 1) := dk_13 dg_551
theorem dL_law_1050 : decode cL_law 1050 = .ok (.iaload, 1) := dk_14 dg_551
theorem dL_law_1051 : decode cL_law 1051 = .ok (.aload_n 0, 1) := dk_15 dg_551
theorem dg_552 : fd_G cL_law 1052 [(1052, .iload_n 3, 1), (1053, .iconst 3, 1), (1054, .iadd, 1), (1055, .iaload, 1), (1056, .invokevirtual 151, 3), (1059, .pop, 1), (1060, .goto 224, 3), (1063, .aload_n 1, 1), (1064, .aload_n 0, 1), (1065, .iload_n 3, 1), (1066, .iconst 1, 1), (1067, .iadd, 1), (1068, .iaload, 1), (1069, .invokevirtual 152, 3), (1072, .pop, 1), (1073, .aload_n 2, 1)] = true := by decide +kernel
theorem dL_law_1052 : decode cL_law 1052 = .ok (.iload_n 3, 1) := dk_0 dg_552
theorem dL_law_1053 : decode cL_law 1053 = .ok (.iconst 3, 1) := dk_1 dg_552
theorem dL_law_1054 : decode cL_law 1054 = .ok (.iadd, 1) := dk_2 dg_552
theorem dL_law_1055 : decode cL_law 1055 = .ok (.iaload, 1) := dk_3 dg_552
theorem dL_law_1056 : decode cL_law 1056 = .ok (.invokevirtual 151, 3) := dk_4 dg_552
theorem dL_law_1059 : decode cL_law 1059 = .ok (.pop, 1) := dk_5 dg_552
theorem dL_law_1060 : decode cL_law 1060 = .ok (.goto 224, 3) := dk_6 dg_552
theorem dL_law_1063 : decode cL_law 1063 = .ok (.aload_n 1, 1) := dk_7 dg_552
theorem dL_law_1064 : decode cL_law 1064 = .ok (.aload_n 0, 1) := dk_8 dg_552
theorem dL_law_1065 : decode cL_law 1065 = .ok (.iload_n 3, 1) := dk_9 dg_552
theorem dL_law_1066 : decode cL_law 1066 = .ok (.iconst 1, 1) := dk_10 dg_552
theorem dL_law_1067 : decode cL_law 1067 = .ok (.iadd, 1) := dk_11 dg_552
theorem dL_law_1068 : decode cL_law 1068 = .ok (.iaload, 1) := dk_12 dg_552
theorem dL_law_1069 : decode cL_law 1069 = .ok (.invokevirtual 152, 3) := dk_13 dg_552
theorem dL_law_1072 : decode cL_law 1072 = .ok (.pop, 1) := dk_14 dg_552
theorem dL_law_1073 : decode cL_law 1073 = .ok (.aload_n 2, 1) := dk_15 dg_552
theorem dg_553 : fd_G cL_law 1074 [(1074, .aload_n 0, 1), (1075, .iload_n 3, 1), (1076, .iconst 1, 1), (1077, .iadd, 1), (1078, .iaload, 1), (1079, .invokevirtual 155, 3), (1082, .pop, 1), (1083, .goto 201, 3), (1086, .aload_n 1, 1), (1087, .aload_n 0, 1), (1088, .iload_n 3, 1), (1089, .iconst 1, 1), (1090, .iadd, 1), (1091, .iaload, 1), (1092, .invokevirtual 156, 3), (1095, .pop, 1)] = true := by decide +kernel
theorem dL_law_1074 : decode cL_law 1074 = .ok (.aload_n 0, 1) := dk_0 dg_553
theorem dL_law_1075 : decode cL_law 1075 = .ok (.iload_n 3, 1) := dk_1 dg_553
theorem dL_law_1076 : decode cL_law 1076 = .ok (.iconst 1, 1) := dk_2 dg_553
theorem dL_law_1077 : decode cL_law 1077 = .ok (.iadd, 1) := dk_3 dg_553
theorem dL_law_1078 : decode cL_law 1078 = .ok (.iaload, 1) := dk_4 dg_553
theorem dL_law_1079 : decode cL_law 1079 = .ok (.invokevirtual 155, 3) := dk_5 dg_553
theorem dL_law_1082 : decode cL_law 1082 = .ok (.pop, 1) := dk_6 dg_553
theorem dL_law_1083 : decode cL_law 1083 = .ok (.goto 201, 3) := dk_7 dg_553
theorem dL_law_1086 : decode cL_law 1086 = .ok (.aload_n 1, 1) := dk_8 dg_553
theorem dL_law_1087 : decode cL_law 1087 = .ok (.aload_n 0, 1) := dk_9 dg_553
theorem dL_law_1088 : decode cL_law 1088 = .ok (.iload_n 3, 1) := dk_10 dg_553
theorem dL_law_1089 : decode cL_law 1089 = .ok (.iconst 1, 1) := dk_11 dg_553
theorem dL_law_1090 : decode cL_law 1090 = .ok (.iadd, 1) := dk_12 dg_553
theorem dL_law_1091 : decode cL_law 1091 = .ok (.iaload, 1) := dk_13 dg_553
theorem dL_law_1092 : decode cL_law 1092 = .ok (.invokevirtual 156, 3) := dk_14 dg_553
theorem dL_law_1095 : decode cL_law 1095 = .ok (.pop, 1) := dk_15 dg_553
theorem dg_554 : fd_G cL_law 1096 [(1096, .aload_n 2, 1), (1097, .aload_n 0, 1), (1098, .iload_n 3, 1), (1099, .iconst 1, 1), (1100, .iadd, 1), (1101, .iaload, 1), (1102, .invokevirtual 159, 3), (1105, .pop, 1), (1106, .goto 178, 3), (1109, .aload_n 1, 1), (1110, .aload_n 0, 1), (1111, .iload_n 3, 1), (1112, .iconst 1, 1), (1113, .iadd, 1), (1114, .iaload, 1), (1115, .aload_n 0, 1)] = true := by decide +kernel
theorem dL_law_1096 : decode cL_law 1096 = .ok (.aload_n 2, 1) := dk_0 dg_554
theorem dL_law_1097 : decode cL_law 1097 = .ok (.aload_n 0, 1) := dk_1 dg_554
theorem dL_law_1098 : decode cL_law 1098 = .ok (.iload_n 3, 1) := dk_2 dg_554
theorem dL_law_1099 : decode cL_law 1099 = .ok (.iconst 1, 1) := dk_3 dg_554
theorem dL_law_1100 : decode cL_law 1100 = .ok (.iadd, 1) := dk_4 dg_554
theorem dL_law_1101 : decode cL_law 1101 = .ok (.iaload, 1) := dk_5 dg_554
theorem dL_law_1102 : decode cL_law 1102 = .ok (.invokevirtual 159, 3) := dk_6 dg_554
theorem dL_law_1105 : decode cL_law 1105 = .ok (.pop, 1) := dk_7 dg_554
theorem dL_law_1106 : decode cL_law 1106 = .ok (.goto 178, 3) := dk_8 dg_554
theorem dL_law_1109 : decode cL_law 1109 = .ok (.aload_n 1, 1) := dk_9 dg_554
theorem dL_law_1110 : decode cL_law 1110 = .ok (.aload_n 0, 1) := dk_10 dg_554
theorem dL_law_1111 : decode cL_law 1111 = .ok (.iload_n 3, 1) := dk_11 dg_554
theorem dL_law_1112 : decode cL_law 1112 = .ok (.iconst 1, 1) := dk_12 dg_554
theorem dL_law_1113 : decode cL_law 1113 = .ok (.iadd, 1) := dk_13 dg_554
theorem dL_law_1114 : decode cL_law 1114 = .ok (.iaload, 1) := dk_14 dg_554
theorem dL_law_1115 : decode cL_law 1115 = .ok (.aload_n 0, 1) := dk_15 dg_554
theorem dg_555 : fd_G cL_law 1116 [(1116, .iload_n 3, 1), (1117, .iconst 2, 1), (1118, .iadd, 1), (1119, .iaload, 1), (1120, .aload_n 0, 1), (1121, .iload_n 3, 1), (1122, .iconst 3, 1), (1123, .iadd, 1), (1124, .iaload, 1), (1125, .invokevirtual 160, 3), (1128, .pop, 1), (1129, .aload_n 2, 1), (1130, .aload_n 0, 1), (1131, .iload_n 3, 1), (1132, .iconst 1, 1), (1133, .iadd, 1)] = true := by decide +kernel
theorem dL_law_1116 : decode cL_law 1116 = .ok (.iload_n 3, 1) := dk_0 dg_555
theorem dL_law_1117 : decode cL_law 1117 = .ok (.iconst 2, 1) := dk_1 dg_555
theorem dL_law_1118 : decode cL_law 1118 = .ok (.iadd, 1) := dk_2 dg_555
theorem dL_law_1119 : decode cL_law 1119 = .ok (.iaload, 1) := dk_3 dg_555
theorem dL_law_1120 : decode cL_law 1120 = .ok (.aload_n 0, 1) := dk_4 dg_555
theorem dL_law_1121 : decode cL_law 1121 = .ok (.iload_n 3, 1) := dk_5 dg_555
theorem dL_law_1122 : decode cL_law 1122 = .ok (.iconst 3, 1) := dk_6 dg_555
theorem dL_law_1123 : decode cL_law 1123 = .ok (.iadd, 1) := dk_7 dg_555
theorem dL_law_1124 : decode cL_law 1124 = .ok (.iaload, 1) := dk_8 dg_555
theorem dL_law_1125 : decode cL_law 1125 = .ok (.invokevirtual 160, 3) := dk_9 dg_555
theorem dL_law_1128 : decode cL_law 1128 = .ok (.pop, 1) := dk_10 dg_555
theorem dL_law_1129 : decode cL_law 1129 = .ok (.aload_n 2, 1) := dk_11 dg_555
theorem dL_law_1130 : decode cL_law 1130 = .ok (.aload_n 0, 1) := dk_12 dg_555
theorem dL_law_1131 : decode cL_law 1131 = .ok (.iload_n 3, 1) := dk_13 dg_555
theorem dL_law_1132 : decode cL_law 1132 = .ok (.iconst 1, 1) := dk_14 dg_555
theorem dL_law_1133 : decode cL_law 1133 = .ok (.iadd, 1) := dk_15 dg_555
theorem dg_556 : fd_G cL_law 1134 [(1134, .iaload, 1), (1135, .aload_n 0, 1), (1136, .iload_n 3, 1), (1137, .iconst 2, 1), (1138, .iadd, 1), (1139, .iaload, 1), (1140, .aload_n 0, 1), (1141, .iload_n 3, 1), (1142, .iconst 3, 1), (1143, .iadd, 1), (1144, .iaload, 1), (1145, .invokevirtual 163, 3), (1148, .pop, 1), (1149, .goto 135, 3), (1152, .aload_n 1, 1), (1153, .aload_n 0, 1)] = true := by decide +kernel
theorem dL_law_1134 : decode cL_law 1134 = .ok (.iaload, 1) := dk_0 dg_556
theorem dL_law_1135 : decode cL_law 1135 = .ok (.aload_n 0, 1) := dk_1 dg_556
theorem dL_law_1136 : decode cL_law 1136 = .ok (.iload_n 3, 1) := dk_2 dg_556
theorem dL_law_1137 : decode cL_law 1137 = .ok (.iconst 2, 1) := dk_3 dg_556
theorem dL_law_1138 : decode cL_law 1138 = .ok (.iadd, 1) := dk_4 dg_556
theorem dL_law_1139 : decode cL_law 1139 = .ok (.iaload, 1) := dk_5 dg_556
theorem dL_law_1140 : decode cL_law 1140 = .ok (.aload_n 0, 1) := dk_6 dg_556
theorem dL_law_1141 : decode cL_law 1141 = .ok (.iload_n 3, 1) := dk_7 dg_556
theorem dL_law_1142 : decode cL_law 1142 = .ok (.iconst 3, 1) := dk_8 dg_556
theorem dL_law_1143 : decode cL_law 1143 = .ok (.iadd, 1) := dk_9 dg_556
theorem dL_law_1144 : decode cL_law 1144 = .ok (.iaload, 1) := dk_10 dg_556
theorem dL_law_1145 : decode cL_law 1145 = .ok (.invokevirtual 163, 3) := dk_11 dg_556
theorem dL_law_1148 : decode cL_law 1148 = .ok (.pop, 1) := dk_12 dg_556
theorem dL_law_1149 : decode cL_law 1149 = .ok (.goto 135, 3) := dk_13 dg_556
theorem dL_law_1152 : decode cL_law 1152 = .ok (.aload_n 1, 1) := dk_14 dg_556
theorem dL_law_1153 : decode cL_law 1153 = .ok (.aload_n 0, 1) := dk_15 dg_556
theorem dg_557 : fd_G cL_law 1154 [(1154, .iload_n 3, 1), (1155, .iconst 1, 1), (1156, .iadd, 1), (1157, .iaload, 1), (1158, .aload_n 0, 1), (1159, .iload_n 3, 1), (1160, .iconst 2, 1), (1161, .iadd, 1), (1162, .iaload, 1), (1163, .aload_n 0, 1), (1164, .iload_n 3, 1), (1165, .iconst 3, 1), (1166, .iadd, 1), (1167, .iaload, 1), (1168, .invokevirtual 164, 3), (1171, .pop, 1)] = true := by decide +kernel
theorem dL_law_1154 : decode cL_law 1154 = .ok (.iload_n 3, 1) := dk_0 dg_557
theorem dL_law_1155 : decode cL_law 1155 = .ok (.iconst 1, 1) := dk_1 dg_557
theorem dL_law_1156 : decode cL_law 1156 = .ok (.iadd, 1) := dk_2 dg_557
theorem dL_law_1157 : decode cL_law 1157 = .ok (.iaload, 1) := dk_3 dg_557
theorem dL_law_1158 : decode cL_law 1158 = .ok (.aload_n 0, 1) := dk_4 dg_557
theorem dL_law_1159 : decode cL_law 1159 = .ok (.iload_n 3, 1) := dk_5 dg_557
theorem dL_law_1160 : decode cL_law 1160 = .ok (.iconst 2, 1) := dk_6 dg_557
theorem dL_law_1161 : decode cL_law 1161 = .ok (.iadd, 1) := dk_7 dg_557
theorem dL_law_1162 : decode cL_law 1162 = .ok (.iaload, 1) := dk_8 dg_557
theorem dL_law_1163 : decode cL_law 1163 = .ok (.aload_n 0, 1) := dk_9 dg_557
theorem dL_law_1164 : decode cL_law 1164 = .ok (.iload_n 3, 1) := dk_10 dg_557
theorem dL_law_1165 : decode cL_law 1165 = .ok (.iconst 3, 1) := dk_11 dg_557
theorem dL_law_1166 : decode cL_law 1166 = .ok (.iadd, 1) := dk_12 dg_557
theorem dL_law_1167 : decode cL_law 1167 = .ok (.iaload, 1) := dk_13 dg_557
theorem dL_law_1168 : decode cL_law 1168 = .ok (.invokevirtual 164, 3) := dk_14 dg_557
theorem dL_law_1171 : decode cL_law 1171 = .ok (.pop, 1) := dk_15 dg_557
theorem dg_558 : fd_G cL_law 1172 [(1172, .aload_n 2, 1), (1173, .aload_n 0, 1), (1174, .iload_n 3, 1), (1175, .iconst 1, 1), (1176, .iadd, 1), (1177, .iaload, 1), (1178, .aload_n 0, 1), (1179, .iload_n 3, 1), (1180, .iconst 2, 1), (1181, .iadd, 1), (1182, .iaload, 1), (1183, .aload_n 0, 1), (1184, .iload_n 3, 1), (1185, .iconst 3, 1), (1186, .iadd, 1), (1187, .iaload, 1)] = true := by decide +kernel
theorem dL_law_1172 : decode cL_law 1172 = .ok (.aload_n 2, 1) := dk_0 dg_558
theorem dL_law_1173 : decode cL_law 1173 = .ok (.aload_n 0, 1) := dk_1 dg_558
theorem dL_law_1174 : decode cL_law 1174 = .ok (.iload_n 3, 1) := dk_2 dg_558
theorem dL_law_1175 : decode cL_law 1175 = .ok (.iconst 1, 1) := dk_3 dg_558
theorem dL_law_1176 : decode cL_law 1176 = .ok (.iadd, 1) := dk_4 dg_558
theorem dL_law_1177 : decode cL_law 1177 = .ok (.iaload, 1) := dk_5 dg_558
theorem dL_law_1178 : decode cL_law 1178 = .ok (.aload_n 0, 1) := dk_6 dg_558
theorem dL_law_1179 : decode cL_law 1179 = .ok (.iload_n 3, 1) := dk_7 dg_558
theorem dL_law_1180 : decode cL_law 1180 = .ok (.iconst 2, 1) := dk_8 dg_558
theorem dL_law_1181 : decode cL_law 1181 = .ok (.iadd, 1) := dk_9 dg_558
theorem dL_law_1182 : decode cL_law 1182 = .ok (.iaload, 1) := dk_10 dg_558
theorem dL_law_1183 : decode cL_law 1183 = .ok (.aload_n 0, 1) := dk_11 dg_558
theorem dL_law_1184 : decode cL_law 1184 = .ok (.iload_n 3, 1) := dk_12 dg_558
theorem dL_law_1185 : decode cL_law 1185 = .ok (.iconst 3, 1) := dk_13 dg_558
theorem dL_law_1186 : decode cL_law 1186 = .ok (.iadd, 1) := dk_14 dg_558
theorem dL_law_1187 : decode cL_law 1187 = .ok (.iaload, 1) := dk_15 dg_558
theorem dg_559 : fd_G cL_law 1188 [(1188, .invokevirtual 167, 3), (1191, .pop, 1), (1192, .goto 92, 3), (1195, .aload_n 1, 1), (1196, .aload_n 0, 1), (1197, .iload_n 3, 1), (1198, .iconst 1, 1), (1199, .iadd, 1), (1200, .iaload, 1), (1201, .aload_n 0, 1), (1202, .iload_n 3, 1), (1203, .iconst 2, 1), (1204, .iadd, 1), (1205, .iaload, 1), (1206, .aload_n 0, 1), (1207, .iload_n 3, 1)] = true := by decide +kernel
theorem dL_law_1188 : decode cL_law 1188 = .ok (.invokevirtual 167, 3) := dk_0 dg_559
theorem dL_law_1191 : decode cL_law 1191 = .ok (.pop, 1) := dk_1 dg_559
theorem dL_law_1192 : decode cL_law 1192 = .ok (.goto 92, 3) := dk_2 dg_559
theorem dL_law_1195 : decode cL_law 1195 = .ok (.aload_n 1, 1) := dk_3 dg_559
theorem dL_law_1196 : decode cL_law 1196 = .ok (.aload_n 0, 1) := dk_4 dg_559
theorem dL_law_1197 : decode cL_law 1197 = .ok (.iload_n 3, 1) := dk_5 dg_559
theorem dL_law_1198 : decode cL_law 1198 = .ok (.iconst 1, 1) := dk_6 dg_559
theorem dL_law_1199 : decode cL_law 1199 = .ok (.iadd, 1) := dk_7 dg_559
theorem dL_law_1200 : decode cL_law 1200 = .ok (.iaload, 1) := dk_8 dg_559
theorem dL_law_1201 : decode cL_law 1201 = .ok (.aload_n 0, 1) := dk_9 dg_559
theorem dL_law_1202 : decode cL_law 1202 = .ok (.iload_n 3, 1) := dk_10 dg_559
theorem dL_law_1203 : decode cL_law 1203 = .ok (.iconst 2, 1) := dk_11 dg_559
theorem dL_law_1204 : decode cL_law 1204 = .ok (.iadd, 1) := dk_12 dg_559
theorem dL_law_1205 : decode cL_law 1205 = .ok (.iaload, 1) := dk_13 dg_559
theorem dL_law_1206 : decode cL_law 1206 = .ok (.aload_n 0, 1) := dk_14 dg_559
theorem dL_law_1207 : decode cL_law 1207 = .ok (.iload_n 3, 1) := dk_15 dg_559
theorem dg_560 : fd_G cL_law 1208 [(1208, .iconst 3, 1), (1209, .iadd, 1), (1210, .iaload, 1), (1211, .aload_n 0, 1), (1212, .iload_n 3, 1), (1213, .iconst 4, 1), (1214, .iadd, 1), (1215, .iaload, 1), (1216, .invokevirtual 168, 3), (1219, .pop, 1), (1220, .aload_n 2, 1), (1221, .aload_n 0, 1), (1222, .iload_n 3, 1), (1223, .iconst 1, 1), (1224, .iadd, 1), (1225, .iaload, 1)] = true := by decide +kernel
theorem dL_law_1208 : decode cL_law 1208 = .ok (.iconst 3, 1) := dk_0 dg_560
theorem dL_law_1209 : decode cL_law 1209 = .ok (.iadd, 1) := dk_1 dg_560
theorem dL_law_1210 : decode cL_law 1210 = .ok (.iaload, 1) := dk_2 dg_560
theorem dL_law_1211 : decode cL_law 1211 = .ok (.aload_n 0, 1) := dk_3 dg_560
theorem dL_law_1212 : decode cL_law 1212 = .ok (.iload_n 3, 1) := dk_4 dg_560
theorem dL_law_1213 : decode cL_law 1213 = .ok (.iconst 4, 1) := dk_5 dg_560
theorem dL_law_1214 : decode cL_law 1214 = .ok (.iadd, 1) := dk_6 dg_560
theorem dL_law_1215 : decode cL_law 1215 = .ok (.iaload, 1) := dk_7 dg_560
theorem dL_law_1216 : decode cL_law 1216 = .ok (.invokevirtual 168, 3) := dk_8 dg_560
theorem dL_law_1219 : decode cL_law 1219 = .ok (.pop, 1) := dk_9 dg_560
theorem dL_law_1220 : decode cL_law 1220 = .ok (.aload_n 2, 1) := dk_10 dg_560
theorem dL_law_1221 : decode cL_law 1221 = .ok (.aload_n 0, 1) := dk_11 dg_560
theorem dL_law_1222 : decode cL_law 1222 = .ok (.iload_n 3, 1) := dk_12 dg_560
theorem dL_law_1223 : decode cL_law 1223 = .ok (.iconst 1, 1) := dk_13 dg_560
theorem dL_law_1224 : decode cL_law 1224 = .ok (.iadd, 1) := dk_14 dg_560
theorem dL_law_1225 : decode cL_law 1225 = .ok (.iaload, 1) := dk_15 dg_560
theorem dg_561 : fd_G cL_law 1226 [(1226, .aload_n 0, 1), (1227, .iload_n 3, 1), (1228, .iconst 2, 1), (1229, .iadd, 1), (1230, .iaload, 1), (1231, .aload_n 0, 1), (1232, .iload_n 3, 1), (1233, .iconst 3, 1), (1234, .iadd, 1), (1235, .iaload, 1), (1236, .aload_n 0, 1), (1237, .iload_n 3, 1), (1238, .iconst 4, 1), (1239, .iadd, 1), (1240, .iaload, 1), (1241, .invokevirtual 172, 3)] = true := by decide +kernel
theorem dL_law_1226 : decode cL_law 1226 = .ok (.aload_n 0, 1) := dk_0 dg_561
theorem dL_law_1227 : decode cL_law 1227 = .ok (.iload_n 3, 1) := dk_1 dg_561
theorem dL_law_1228 : decode cL_law 1228 = .ok (.iconst 2, 1) := dk_2 dg_561
theorem dL_law_1229 : decode cL_law 1229 = .ok (.iadd, 1) := dk_3 dg_561
theorem dL_law_1230 : decode cL_law 1230 = .ok (.iaload, 1) := dk_4 dg_561
theorem dL_law_1231 : decode cL_law 1231 = .ok (.aload_n 0, 1) := dk_5 dg_561
theorem dL_law_1232 : decode cL_law 1232 = .ok (.iload_n 3, 1) := dk_6 dg_561
theorem dL_law_1233 : decode cL_law 1233 = .ok (.iconst 3, 1) := dk_7 dg_561
theorem dL_law_1234 : decode cL_law 1234 = .ok (.iadd, 1) := dk_8 dg_561
theorem dL_law_1235 : decode cL_law 1235 = .ok (.iaload, 1) := dk_9 dg_561
theorem dL_law_1236 : decode cL_law 1236 = .ok (.aload_n 0, 1) := dk_10 dg_561
theorem dL_law_1237 : decode cL_law 1237 = .ok (.iload_n 3, 1) := dk_11 dg_561
theorem dL_law_1238 : decode cL_law 1238 = .ok (.iconst 4, 1) := dk_12 dg_561
theorem dL_law_1239 : decode cL_law 1239 = .ok (.iadd, 1) := dk_13 dg_561
theorem dL_law_1240 : decode cL_law 1240 = .ok (.iaload, 1) := dk_14 dg_561
theorem dL_law_1241 : decode cL_law 1241 = .ok (.invokevirtual 172, 3) := dk_15 dg_561
theorem dg_562 : fd_G cL_law 1244 [(1244, .pop, 1), (1245, .goto 39, 3), (1248, .aload_n 1, 1), (1249, .invokevirtual 173, 3), (1252, .pop, 1), (1253, .aload_n 2, 1), (1254, .invokevirtual 176, 3), (1257, .pop, 1), (1258, .goto 26, 3), (1261, .aload_n 1, 1), (1262, .aload_n 0, 1), (1263, .iload_n 3, 1), (1264, .iconst 1, 1), (1265, .iadd, 1), (1266, .iaload, 1), (1267, .invokevirtual 177, 3)] = true := by decide +kernel
theorem dL_law_1244 : decode cL_law 1244 = .ok (.pop, 1) := dk_0 dg_562
theorem dL_law_1245 : decode cL_law 1245 = .ok (.goto 39, 3) := dk_1 dg_562
theorem dL_law_1248 : decode cL_law 1248 = .ok (.aload_n 1, 1) := dk_2 dg_562
theorem dL_law_1249 : decode cL_law 1249 = .ok (.invokevirtual 173, 3) := dk_3 dg_562
theorem dL_law_1252 : decode cL_law 1252 = .ok (.pop, 1) := dk_4 dg_562
theorem dL_law_1253 : decode cL_law 1253 = .ok (.aload_n 2, 1) := dk_5 dg_562
theorem dL_law_1254 : decode cL_law 1254 = .ok (.invokevirtual 176, 3) := dk_6 dg_562
theorem dL_law_1257 : decode cL_law 1257 = .ok (.pop, 1) := dk_7 dg_562
theorem dL_law_1258 : decode cL_law 1258 = .ok (.goto 26, 3) := dk_8 dg_562
theorem dL_law_1261 : decode cL_law 1261 = .ok (.aload_n 1, 1) := dk_9 dg_562
theorem dL_law_1262 : decode cL_law 1262 = .ok (.aload_n 0, 1) := dk_10 dg_562
theorem dL_law_1263 : decode cL_law 1263 = .ok (.iload_n 3, 1) := dk_11 dg_562
theorem dL_law_1264 : decode cL_law 1264 = .ok (.iconst 1, 1) := dk_12 dg_562
theorem dL_law_1265 : decode cL_law 1265 = .ok (.iadd, 1) := dk_13 dg_562
theorem dL_law_1266 : decode cL_law 1266 = .ok (.iaload, 1) := dk_14 dg_562
theorem dL_law_1267 : decode cL_law 1267 = .ok (.invokevirtual 177, 3) := dk_15 dg_562
theorem dg_563 : fd_G cL_law 1270 [(1270, .aload_n 2, 1), (1271, .aload_n 0, 1), (1272, .iload_n 3, 1), (1273, .iconst 1, 1), (1274, .iadd, 1), (1275, .iaload, 1), (1276, .invokevirtual 180, 3), (1279, .if_icmp .eq 5, 3), (1282, .iconst 0, 1), (1283, .ireturn, 1), (1284, .iinc 3 5, 3), (1287, .goto (-1269), 3), (1290, .iconst 1, 1), (1291, .ireturn, 1)] = true := by decide +kernel
theorem dL_law_1270 : decode cL_law 1270 = .ok (.aload_n 2, 1) := dk_0 dg_563
theorem dL_law_1271 : decode cL_law 1271 = .ok (.aload_n 0, 1) := dk_1 dg_563
theorem dL_law_1272 : decode cL_law 1272 = .ok (.iload_n 3, 1) := dk_2 dg_563
theorem dL_law_1273 : decode cL_law 1273 = .ok (.iconst 1, 1) := dk_3 dg_563
theorem dL_law_1274 : decode cL_law 1274 = .ok (.iadd, 1) := dk_4 dg_563
theorem dL_law_1275 : decode cL_law 1275 = .ok (.iaload, 1) := dk_5 dg_563
theorem dL_law_1276 : decode cL_law 1276 = .ok (.invokevirtual 180, 3) := dk_6 dg_563
theorem dL_law_1279 : decode cL_law 1279 = .ok (.if_icmp .eq 5, 3) := dk_7 dg_563
theorem dL_law_1282 : decode cL_law 1282 = .ok (.iconst 0, 1) := dk_8 dg_563
theorem dL_law_1283 : decode cL_law 1283 = .ok (.ireturn, 1) := dk_9 dg_563
theorem dL_law_1284 : decode cL_law 1284 = .ok (.iinc 3 5, 3) := dk_10 dg_563
theorem dL_law_1287 : decode cL_law 1287 = .ok (.goto (-1269), 3) := dk_11 dg_563
theorem dL_law_1290 : decode cL_law 1290 = .ok (.iconst 1, 1) := dk_12 dg_563
theorem dL_law_1291 : decode cL_law 1291 = .ok (.ireturn, 1) := dk_13 dg_563
