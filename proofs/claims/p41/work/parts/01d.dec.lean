theorem dX7_init_8 : decode cX7_init 8 = .ok (.newarray .int, 2) := by decide +kernel
theorem dX7_init_15 : decode cX7_init 15 = .ok (.newarray .int, 2) := by decide +kernel
theorem dd_274 : fd_G cX7_init 0 [(0, .aload_n 0, 1), (1, .invokespecial 1, 3), (4, .aload_n 0, 1), (5, .sipush 168, 3), (10, .putfield 7, 3), (13, .aload_n 0, 1), (14, .iconst 4, 1), (17, .dup, 1), (18, .iconst 0, 1), (19, .bipush 10, 2), (21, .iastore, 1), (22, .dup, 1), (23, .iconst 1, 1), (24, .iconst 5, 1), (25, .iastore, 1), (26, .dup, 1)] = true := by decide +kernel
theorem dX7_init_0 : decode cX7_init 0 = .ok (.aload_n 0, 1) := dk_0 dd_274
theorem dX7_init_1 : decode cX7_init 1 = .ok (.invokespecial 1, 3) := dk_1 dd_274
theorem dX7_init_4 : decode cX7_init 4 = .ok (.aload_n 0, 1) := dk_2 dd_274
theorem dX7_init_5 : decode cX7_init 5 = .ok (.sipush 168, 3) := dk_3 dd_274
theorem dX7_init_10 : decode cX7_init 10 = .ok (.putfield 7, 3) := dk_4 dd_274
theorem dX7_init_13 : decode cX7_init 13 = .ok (.aload_n 0, 1) := dk_5 dd_274
theorem dX7_init_14 : decode cX7_init 14 = .ok (.iconst 4, 1) := dk_6 dd_274
theorem dX7_init_17 : decode cX7_init 17 = .ok (.dup, 1) := dk_7 dd_274
theorem dX7_init_18 : decode cX7_init 18 = .ok (.iconst 0, 1) := dk_8 dd_274
theorem dX7_init_19 : decode cX7_init 19 = .ok (.bipush 10, 2) := dk_9 dd_274
theorem dX7_init_21 : decode cX7_init 21 = .ok (.iastore, 1) := dk_10 dd_274
theorem dX7_init_22 : decode cX7_init 22 = .ok (.dup, 1) := dk_11 dd_274
theorem dX7_init_23 : decode cX7_init 23 = .ok (.iconst 1, 1) := dk_12 dd_274
theorem dX7_init_24 : decode cX7_init 24 = .ok (.iconst 5, 1) := dk_13 dd_274
theorem dX7_init_25 : decode cX7_init 25 = .ok (.iastore, 1) := dk_14 dd_274
theorem dX7_init_26 : decode cX7_init 26 = .ok (.dup, 1) := dk_15 dd_274
theorem dX7_init_41 : decode cX7_init 41 = .ok (.newarray .int, 2) := by decide +kernel
theorem dX7_init_50 : decode cX7_init 50 = .ok (.newarray .int, 2) := by decide +kernel
theorem dd_275 : fd_G cX7_init 27 [(27, .iconst 2, 1), (28, .iconst 4, 1), (29, .iastore, 1), (30, .dup, 1), (31, .iconst 3, 1), (32, .bipush 20, 2), (34, .iastore, 1), (35, .putfield 13, 3), (38, .aload_n 0, 1), (39, .bipush 28, 2), (43, .putfield 16, 3), (46, .aload_n 0, 1), (47, .sipush 160, 3), (52, .putfield 19, 3), (55, .aload_n 0, 1), (56, .bipush 8, 2)] = true := by decide +kernel
theorem dX7_init_27 : decode cX7_init 27 = .ok (.iconst 2, 1) := dk_0 dd_275
theorem dX7_init_28 : decode cX7_init 28 = .ok (.iconst 4, 1) := dk_1 dd_275
theorem dX7_init_29 : decode cX7_init 29 = .ok (.iastore, 1) := dk_2 dd_275
theorem dX7_init_30 : decode cX7_init 30 = .ok (.dup, 1) := dk_3 dd_275
theorem dX7_init_31 : decode cX7_init 31 = .ok (.iconst 3, 1) := dk_4 dd_275
theorem dX7_init_32 : decode cX7_init 32 = .ok (.bipush 20, 2) := dk_5 dd_275
theorem dX7_init_34 : decode cX7_init 34 = .ok (.iastore, 1) := dk_6 dd_275
theorem dX7_init_35 : decode cX7_init 35 = .ok (.putfield 13, 3) := dk_7 dd_275
theorem dX7_init_38 : decode cX7_init 38 = .ok (.aload_n 0, 1) := dk_8 dd_275
theorem dX7_init_39 : decode cX7_init 39 = .ok (.bipush 28, 2) := dk_9 dd_275
theorem dX7_init_43 : decode cX7_init 43 = .ok (.putfield 16, 3) := dk_10 dd_275
theorem dX7_init_46 : decode cX7_init 46 = .ok (.aload_n 0, 1) := dk_11 dd_275
theorem dX7_init_47 : decode cX7_init 47 = .ok (.sipush 160, 3) := dk_12 dd_275
theorem dX7_init_52 : decode cX7_init 52 = .ok (.putfield 19, 3) := dk_13 dd_275
theorem dX7_init_55 : decode cX7_init 55 = .ok (.aload_n 0, 1) := dk_14 dd_275
theorem dX7_init_56 : decode cX7_init 56 = .ok (.bipush 8, 2) := dk_15 dd_275
theorem dX7_init_58 : decode cX7_init 58 = .ok (.newarray .int, 2) := by decide +kernel
theorem dd_276 : fd_G cX7_init 60 [(60, .dup, 1), (61, .iconst 0, 1), (62, .iconst 0, 1), (63, .iastore, 1), (64, .dup, 1), (65, .iconst 1, 1), (66, .iconst 5, 1), (67, .iastore, 1), (68, .dup, 1), (69, .iconst 2, 1), (70, .bipush 9, 2), (72, .iastore, 1), (73, .dup, 1), (74, .iconst 3, 1), (75, .bipush 13, 2), (77, .iastore, 1)] = true := by decide +kernel
theorem dX7_init_60 : decode cX7_init 60 = .ok (.dup, 1) := dk_0 dd_276
theorem dX7_init_61 : decode cX7_init 61 = .ok (.iconst 0, 1) := dk_1 dd_276
theorem dX7_init_62 : decode cX7_init 62 = .ok (.iconst 0, 1) := dk_2 dd_276
theorem dX7_init_63 : decode cX7_init 63 = .ok (.iastore, 1) := dk_3 dd_276
theorem dX7_init_64 : decode cX7_init 64 = .ok (.dup, 1) := dk_4 dd_276
theorem dX7_init_65 : decode cX7_init 65 = .ok (.iconst 1, 1) := dk_5 dd_276
theorem dX7_init_66 : decode cX7_init 66 = .ok (.iconst 5, 1) := dk_6 dd_276
theorem dX7_init_67 : decode cX7_init 67 = .ok (.iastore, 1) := dk_7 dd_276
theorem dX7_init_68 : decode cX7_init 68 = .ok (.dup, 1) := dk_8 dd_276
theorem dX7_init_69 : decode cX7_init 69 = .ok (.iconst 2, 1) := dk_9 dd_276
theorem dX7_init_70 : decode cX7_init 70 = .ok (.bipush 9, 2) := dk_10 dd_276
theorem dX7_init_72 : decode cX7_init 72 = .ok (.iastore, 1) := dk_11 dd_276
theorem dX7_init_73 : decode cX7_init 73 = .ok (.dup, 1) := dk_12 dd_276
theorem dX7_init_74 : decode cX7_init 74 = .ok (.iconst 3, 1) := dk_13 dd_276
theorem dX7_init_75 : decode cX7_init 75 = .ok (.bipush 13, 2) := dk_14 dd_276
theorem dX7_init_77 : decode cX7_init 77 = .ok (.iastore, 1) := dk_15 dd_276
theorem dd_277 : fd_G cX7_init 78 [(78, .dup, 1), (79, .iconst 4, 1), (80, .bipush 16, 2), (82, .iastore, 1), (83, .dup, 1), (84, .iconst 5, 1), (85, .bipush 20, 2), (87, .iastore, 1), (88, .dup, 1), (89, .bipush 6, 2), (91, .bipush 25, 2), (93, .iastore, 1), (94, .dup, 1), (95, .bipush 7, 2), (97, .bipush 29, 2), (99, .iastore, 1)] = true := by decide +kernel
theorem dX7_init_78 : decode cX7_init 78 = .ok (.dup, 1) := dk_0 dd_277
theorem dX7_init_79 : decode cX7_init 79 = .ok (.iconst 4, 1) := dk_1 dd_277
theorem dX7_init_80 : decode cX7_init 80 = .ok (.bipush 16, 2) := dk_2 dd_277
theorem dX7_init_82 : decode cX7_init 82 = .ok (.iastore, 1) := dk_3 dd_277
theorem dX7_init_83 : decode cX7_init 83 = .ok (.dup, 1) := dk_4 dd_277
theorem dX7_init_84 : decode cX7_init 84 = .ok (.iconst 5, 1) := dk_5 dd_277
theorem dX7_init_85 : decode cX7_init 85 = .ok (.bipush 20, 2) := dk_6 dd_277
theorem dX7_init_87 : decode cX7_init 87 = .ok (.iastore, 1) := dk_7 dd_277
theorem dX7_init_88 : decode cX7_init 88 = .ok (.dup, 1) := dk_8 dd_277
theorem dX7_init_89 : decode cX7_init 89 = .ok (.bipush 6, 2) := dk_9 dd_277
theorem dX7_init_91 : decode cX7_init 91 = .ok (.bipush 25, 2) := dk_10 dd_277
theorem dX7_init_93 : decode cX7_init 93 = .ok (.iastore, 1) := dk_11 dd_277
theorem dX7_init_94 : decode cX7_init 94 = .ok (.dup, 1) := dk_12 dd_277
theorem dX7_init_95 : decode cX7_init 95 = .ok (.bipush 7, 2) := dk_13 dd_277
theorem dX7_init_97 : decode cX7_init 97 = .ok (.bipush 29, 2) := dk_14 dd_277
theorem dX7_init_99 : decode cX7_init 99 = .ok (.iastore, 1) := dk_15 dd_277
theorem dX7_init_106 : decode cX7_init 106 = .ok (.newarray .int, 2) := by decide +kernel
theorem dd_278 : fd_G cX7_init 100 [(100, .putfield 22, 3), (103, .aload_n 0, 1), (104, .bipush 29, 2), (108, .dup, 1), (109, .iconst 0, 1), (110, .bipush 112, 2), (112, .iastore, 1), (113, .dup, 1), (114, .iconst 1, 1), (115, .bipush 108, 2), (117, .iastore, 1), (118, .dup, 1), (119, .iconst 2, 1), (120, .bipush 97, 2), (122, .iastore, 1), (123, .dup, 1)] = true := by decide +kernel
theorem dX7_init_100 : decode cX7_init 100 = .ok (.putfield 22, 3) := dk_0 dd_278
theorem dX7_init_103 : decode cX7_init 103 = .ok (.aload_n 0, 1) := dk_1 dd_278
theorem dX7_init_104 : decode cX7_init 104 = .ok (.bipush 29, 2) := dk_2 dd_278
theorem dX7_init_108 : decode cX7_init 108 = .ok (.dup, 1) := dk_3 dd_278
theorem dX7_init_109 : decode cX7_init 109 = .ok (.iconst 0, 1) := dk_4 dd_278
theorem dX7_init_110 : decode cX7_init 110 = .ok (.bipush 112, 2) := dk_5 dd_278
theorem dX7_init_112 : decode cX7_init 112 = .ok (.iastore, 1) := dk_6 dd_278
theorem dX7_init_113 : decode cX7_init 113 = .ok (.dup, 1) := dk_7 dd_278
theorem dX7_init_114 : decode cX7_init 114 = .ok (.iconst 1, 1) := dk_8 dd_278
theorem dX7_init_115 : decode cX7_init 115 = .ok (.bipush 108, 2) := dk_9 dd_278
theorem dX7_init_117 : decode cX7_init 117 = .ok (.iastore, 1) := dk_10 dd_278
theorem dX7_init_118 : decode cX7_init 118 = .ok (.dup, 1) := dk_11 dd_278
theorem dX7_init_119 : decode cX7_init 119 = .ok (.iconst 2, 1) := dk_12 dd_278
theorem dX7_init_120 : decode cX7_init 120 = .ok (.bipush 97, 2) := dk_13 dd_278
theorem dX7_init_122 : decode cX7_init 122 = .ok (.iastore, 1) := dk_14 dd_278
theorem dX7_init_123 : decode cX7_init 123 = .ok (.dup, 1) := dk_15 dd_278
theorem dd_279 : fd_G cX7_init 124 [(124, .iconst 3, 1), (125, .bipush 105, 2), (127, .iastore, 1), (128, .dup, 1), (129, .iconst 4, 1), (130, .bipush 110, 2), (132, .iastore, 1), (133, .dup, 1), (134, .iconst 5, 1), (135, .bipush 115, 2), (137, .iastore, 1), (138, .dup, 1), (139, .bipush 6, 2), (141, .bipush 111, 2), (143, .iastore, 1), (144, .dup, 1)] = true := by decide +kernel
theorem dX7_init_124 : decode cX7_init 124 = .ok (.iconst 3, 1) := dk_0 dd_279
theorem dX7_init_125 : decode cX7_init 125 = .ok (.bipush 105, 2) := dk_1 dd_279
theorem dX7_init_127 : decode cX7_init 127 = .ok (.iastore, 1) := dk_2 dd_279
theorem dX7_init_128 : decode cX7_init 128 = .ok (.dup, 1) := dk_3 dd_279
theorem dX7_init_129 : decode cX7_init 129 = .ok (.iconst 4, 1) := dk_4 dd_279
theorem dX7_init_130 : decode cX7_init 130 = .ok (.bipush 110, 2) := dk_5 dd_279
theorem dX7_init_132 : decode cX7_init 132 = .ok (.iastore, 1) := dk_6 dd_279
theorem dX7_init_133 : decode cX7_init 133 = .ok (.dup, 1) := dk_7 dd_279
theorem dX7_init_134 : decode cX7_init 134 = .ok (.iconst 5, 1) := dk_8 dd_279
theorem dX7_init_135 : decode cX7_init 135 = .ok (.bipush 115, 2) := dk_9 dd_279
theorem dX7_init_137 : decode cX7_init 137 = .ok (.iastore, 1) := dk_10 dd_279
theorem dX7_init_138 : decode cX7_init 138 = .ok (.dup, 1) := dk_11 dd_279
theorem dX7_init_139 : decode cX7_init 139 = .ok (.bipush 6, 2) := dk_12 dd_279
theorem dX7_init_141 : decode cX7_init 141 = .ok (.bipush 111, 2) := dk_13 dd_279
theorem dX7_init_143 : decode cX7_init 143 = .ok (.iastore, 1) := dk_14 dd_279
theorem dX7_init_144 : decode cX7_init 144 = .ok (.dup, 1) := dk_15 dd_279
theorem dd_280 : fd_G cX7_init 145 [(145, .bipush 7, 2), (147, .bipush 102, 2), (149, .iastore, 1), (150, .dup, 1), (151, .bipush 8, 2), (153, .bipush 116, 2), (155, .iastore, 1), (156, .dup, 1), (157, .bipush 9, 2), (159, .bipush 115, 2), (161, .iastore, 1), (162, .dup, 1), (163, .bipush 10, 2), (165, .bipush 104, 2), (167, .iastore, 1), (168, .dup, 1)] = true := by decide +kernel
theorem dX7_init_145 : decode cX7_init 145 = .ok (.bipush 7, 2) := dk_0 dd_280
theorem dX7_init_147 : decode cX7_init 147 = .ok (.bipush 102, 2) := dk_1 dd_280
theorem dX7_init_149 : decode cX7_init 149 = .ok (.iastore, 1) := dk_2 dd_280
theorem dX7_init_150 : decode cX7_init 150 = .ok (.dup, 1) := dk_3 dd_280
theorem dX7_init_151 : decode cX7_init 151 = .ok (.bipush 8, 2) := dk_4 dd_280
theorem dX7_init_153 : decode cX7_init 153 = .ok (.bipush 116, 2) := dk_5 dd_280
theorem dX7_init_155 : decode cX7_init 155 = .ok (.iastore, 1) := dk_6 dd_280
theorem dX7_init_156 : decode cX7_init 156 = .ok (.dup, 1) := dk_7 dd_280
theorem dX7_init_157 : decode cX7_init 157 = .ok (.bipush 9, 2) := dk_8 dd_280
theorem dX7_init_159 : decode cX7_init 159 = .ok (.bipush 115, 2) := dk_9 dd_280
theorem dX7_init_161 : decode cX7_init 161 = .ok (.iastore, 1) := dk_10 dd_280
theorem dX7_init_162 : decode cX7_init 162 = .ok (.dup, 1) := dk_11 dd_280
theorem dX7_init_163 : decode cX7_init 163 = .ok (.bipush 10, 2) := dk_12 dd_280
theorem dX7_init_165 : decode cX7_init 165 = .ok (.bipush 104, 2) := dk_13 dd_280
theorem dX7_init_167 : decode cX7_init 167 = .ok (.iastore, 1) := dk_14 dd_280
theorem dX7_init_168 : decode cX7_init 168 = .ok (.dup, 1) := dk_15 dd_280
theorem dd_281 : fd_G cX7_init 169 [(169, .bipush 11, 2), (171, .bipush 97, 2), (173, .iastore, 1), (174, .dup, 1), (175, .bipush 12, 2), (177, .bipush 109, 2), (179, .iastore, 1), (180, .dup, 1), (181, .bipush 13, 2), (183, .bipush 100, 2), (185, .iastore, 1), (186, .dup, 1), (187, .bipush 14, 2), (189, .bipush 114, 2), (191, .iastore, 1), (192, .dup, 1)] = true := by decide +kernel
theorem dX7_init_169 : decode cX7_init 169 = .ok (.bipush 11, 2) := dk_0 dd_281
theorem dX7_init_171 : decode cX7_init 171 = .ok (.bipush 97, 2) := dk_1 dd_281
theorem dX7_init_173 : decode cX7_init 173 = .ok (.iastore, 1) := dk_2 dd_281
theorem dX7_init_174 : decode cX7_init 174 = .ok (.dup, 1) := dk_3 dd_281
theorem dX7_init_175 : decode cX7_init 175 = .ok (.bipush 12, 2) := dk_4 dd_281
theorem dX7_init_177 : decode cX7_init 177 = .ok (.bipush 109, 2) := dk_5 dd_281
theorem dX7_init_179 : decode cX7_init 179 = .ok (.iastore, 1) := dk_6 dd_281
theorem dX7_init_180 : decode cX7_init 180 = .ok (.dup, 1) := dk_7 dd_281
theorem dX7_init_181 : decode cX7_init 181 = .ok (.bipush 13, 2) := dk_8 dd_281
theorem dX7_init_183 : decode cX7_init 183 = .ok (.bipush 100, 2) := dk_9 dd_281
theorem dX7_init_185 : decode cX7_init 185 = .ok (.iastore, 1) := dk_10 dd_281
theorem dX7_init_186 : decode cX7_init 186 = .ok (.dup, 1) := dk_11 dd_281
theorem dX7_init_187 : decode cX7_init 187 = .ok (.bipush 14, 2) := dk_12 dd_281
theorem dX7_init_189 : decode cX7_init 189 = .ok (.bipush 114, 2) := dk_13 dd_281
theorem dX7_init_191 : decode cX7_init 191 = .ok (.iastore, 1) := dk_14 dd_281
theorem dX7_init_192 : decode cX7_init 192 = .ok (.dup, 1) := dk_15 dd_281
theorem dd_282 : fd_G cX7_init 193 [(193, .bipush 15, 2), (195, .bipush 121, 2), (197, .iastore, 1), (198, .dup, 1), (199, .bipush 16, 2), (201, .bipush 114, 2), (203, .iastore, 1), (204, .dup, 1), (205, .bipush 17, 2), (207, .bipush 111, 2), (209, .iastore, 1), (210, .dup, 1), (211, .bipush 18, 2), (213, .bipush 111, 2), (215, .iastore, 1), (216, .dup, 1)] = true := by decide +kernel
theorem dX7_init_193 : decode cX7_init 193 = .ok (.bipush 15, 2) := dk_0 dd_282
theorem dX7_init_195 : decode cX7_init 195 = .ok (.bipush 121, 2) := dk_1 dd_282
theorem dX7_init_197 : decode cX7_init 197 = .ok (.iastore, 1) := dk_2 dd_282
theorem dX7_init_198 : decode cX7_init 198 = .ok (.dup, 1) := dk_3 dd_282
theorem dX7_init_199 : decode cX7_init 199 = .ok (.bipush 16, 2) := dk_4 dd_282
theorem dX7_init_201 : decode cX7_init 201 = .ok (.bipush 114, 2) := dk_5 dd_282
theorem dX7_init_203 : decode cX7_init 203 = .ok (.iastore, 1) := dk_6 dd_282
theorem dX7_init_204 : decode cX7_init 204 = .ok (.dup, 1) := dk_7 dd_282
theorem dX7_init_205 : decode cX7_init 205 = .ok (.bipush 17, 2) := dk_8 dd_282
theorem dX7_init_207 : decode cX7_init 207 = .ok (.bipush 111, 2) := dk_9 dd_282
theorem dX7_init_209 : decode cX7_init 209 = .ok (.iastore, 1) := dk_10 dd_282
theorem dX7_init_210 : decode cX7_init 210 = .ok (.dup, 1) := dk_11 dd_282
theorem dX7_init_211 : decode cX7_init 211 = .ok (.bipush 18, 2) := dk_12 dd_282
theorem dX7_init_213 : decode cX7_init 213 = .ok (.bipush 111, 2) := dk_13 dd_282
theorem dX7_init_215 : decode cX7_init 215 = .ok (.iastore, 1) := dk_14 dd_282
theorem dX7_init_216 : decode cX7_init 216 = .ok (.dup, 1) := dk_15 dd_282
theorem dd_283 : fd_G cX7_init 217 [(217, .bipush 19, 2), (219, .bipush 109, 2), (221, .iastore, 1), (222, .dup, 1), (223, .bipush 20, 2), (225, .bipush 116, 2), (227, .iastore, 1), (228, .dup, 1), (229, .bipush 21, 2), (231, .bipush 104, 2), (233, .iastore, 1), (234, .dup, 1), (235, .bipush 22, 2), (237, .bipush 105, 2), (239, .iastore, 1), (240, .dup, 1)] = true := by decide +kernel
theorem dX7_init_217 : decode cX7_init 217 = .ok (.bipush 19, 2) := dk_0 dd_283
theorem dX7_init_219 : decode cX7_init 219 = .ok (.bipush 109, 2) := dk_1 dd_283
theorem dX7_init_221 : decode cX7_init 221 = .ok (.iastore, 1) := dk_2 dd_283
theorem dX7_init_222 : decode cX7_init 222 = .ok (.dup, 1) := dk_3 dd_283
theorem dX7_init_223 : decode cX7_init 223 = .ok (.bipush 20, 2) := dk_4 dd_283
theorem dX7_init_225 : decode cX7_init 225 = .ok (.bipush 116, 2) := dk_5 dd_283
theorem dX7_init_227 : decode cX7_init 227 = .ok (.iastore, 1) := dk_6 dd_283
theorem dX7_init_228 : decode cX7_init 228 = .ok (.dup, 1) := dk_7 dd_283
theorem dX7_init_229 : decode cX7_init 229 = .ok (.bipush 21, 2) := dk_8 dd_283
theorem dX7_init_231 : decode cX7_init 231 = .ok (.bipush 104, 2) := dk_9 dd_283
theorem dX7_init_233 : decode cX7_init 233 = .ok (.iastore, 1) := dk_10 dd_283
theorem dX7_init_234 : decode cX7_init 234 = .ok (.dup, 1) := dk_11 dd_283
theorem dX7_init_235 : decode cX7_init 235 = .ok (.bipush 22, 2) := dk_12 dd_283
theorem dX7_init_237 : decode cX7_init 237 = .ok (.bipush 105, 2) := dk_13 dd_283
theorem dX7_init_239 : decode cX7_init 239 = .ok (.iastore, 1) := dk_14 dd_283
theorem dX7_init_240 : decode cX7_init 240 = .ok (.dup, 1) := dk_15 dd_283
theorem dd_284 : fd_G cX7_init 241 [(241, .bipush 23, 2), (243, .bipush 110, 2), (245, .iastore, 1), (246, .dup, 1), (247, .bipush 24, 2), (249, .bipush 107, 2), (251, .iastore, 1), (252, .dup, 1), (253, .bipush 25, 2), (255, .bipush 112, 2), (257, .iastore, 1), (258, .dup, 1), (259, .bipush 26, 2), (261, .bipush 108, 2), (263, .iastore, 1), (264, .dup, 1)] = true := by decide +kernel
theorem dX7_init_241 : decode cX7_init 241 = .ok (.bipush 23, 2) := dk_0 dd_284
theorem dX7_init_243 : decode cX7_init 243 = .ok (.bipush 110, 2) := dk_1 dd_284
theorem dX7_init_245 : decode cX7_init 245 = .ok (.iastore, 1) := dk_2 dd_284
theorem dX7_init_246 : decode cX7_init 246 = .ok (.dup, 1) := dk_3 dd_284
theorem dX7_init_247 : decode cX7_init 247 = .ok (.bipush 24, 2) := dk_4 dd_284
theorem dX7_init_249 : decode cX7_init 249 = .ok (.bipush 107, 2) := dk_5 dd_284
theorem dX7_init_251 : decode cX7_init 251 = .ok (.iastore, 1) := dk_6 dd_284
theorem dX7_init_252 : decode cX7_init 252 = .ok (.dup, 1) := dk_7 dd_284
theorem dX7_init_253 : decode cX7_init 253 = .ok (.bipush 25, 2) := dk_8 dd_284
theorem dX7_init_255 : decode cX7_init 255 = .ok (.bipush 112, 2) := dk_9 dd_284
theorem dX7_init_257 : decode cX7_init 257 = .ok (.iastore, 1) := dk_10 dd_284
theorem dX7_init_258 : decode cX7_init 258 = .ok (.dup, 1) := dk_11 dd_284
theorem dX7_init_259 : decode cX7_init 259 = .ok (.bipush 26, 2) := dk_12 dd_284
theorem dX7_init_261 : decode cX7_init 261 = .ok (.bipush 108, 2) := dk_13 dd_284
theorem dX7_init_263 : decode cX7_init 263 = .ok (.iastore, 1) := dk_14 dd_284
theorem dX7_init_264 : decode cX7_init 264 = .ok (.dup, 1) := dk_15 dd_284
theorem dX7_init_282 : decode cX7_init 282 = .ok (.newarray .int, 2) := by decide +kernel
theorem dX7_init_290 : decode cX7_init 290 = .ok (.newarray .int, 2) := by decide +kernel
theorem dd_285 : fd_G cX7_init 265 [(265, .bipush 27, 2), (267, .bipush 97, 2), (269, .iastore, 1), (270, .dup, 1), (271, .bipush 28, 2), (273, .bipush 110, 2), (275, .iastore, 1), (276, .putfield 25, 3), (279, .aload_n 0, 1), (280, .bipush 12, 2), (284, .putfield 28, 3), (287, .aload_n 0, 1), (288, .bipush 21, 2), (292, .putfield 31, 3), (295, .aload_n 0, 1), (296, .iconst 2, 1)] = true := by decide +kernel
theorem dX7_init_265 : decode cX7_init 265 = .ok (.bipush 27, 2) := dk_0 dd_285
theorem dX7_init_267 : decode cX7_init 267 = .ok (.bipush 97, 2) := dk_1 dd_285
theorem dX7_init_269 : decode cX7_init 269 = .ok (.iastore, 1) := dk_2 dd_285
theorem dX7_init_270 : decode cX7_init 270 = .ok (.dup, 1) := dk_3 dd_285
theorem dX7_init_271 : decode cX7_init 271 = .ok (.bipush 28, 2) := dk_4 dd_285
theorem dX7_init_273 : decode cX7_init 273 = .ok (.bipush 110, 2) := dk_5 dd_285
theorem dX7_init_275 : decode cX7_init 275 = .ok (.iastore, 1) := dk_6 dd_285
theorem dX7_init_276 : decode cX7_init 276 = .ok (.putfield 25, 3) := dk_7 dd_285
theorem dX7_init_279 : decode cX7_init 279 = .ok (.aload_n 0, 1) := dk_8 dd_285
theorem dX7_init_280 : decode cX7_init 280 = .ok (.bipush 12, 2) := dk_9 dd_285
theorem dX7_init_284 : decode cX7_init 284 = .ok (.putfield 28, 3) := dk_10 dd_285
theorem dX7_init_287 : decode cX7_init 287 = .ok (.aload_n 0, 1) := dk_11 dd_285
theorem dX7_init_288 : decode cX7_init 288 = .ok (.bipush 21, 2) := dk_12 dd_285
theorem dX7_init_292 : decode cX7_init 292 = .ok (.putfield 31, 3) := dk_13 dd_285
theorem dX7_init_295 : decode cX7_init 295 = .ok (.aload_n 0, 1) := dk_14 dd_285
theorem dX7_init_296 : decode cX7_init 296 = .ok (.iconst 2, 1) := dk_15 dd_285
theorem dX7_init_297 : decode cX7_init 297 = .ok (.newarray .boolean, 2) := by decide +kernel
theorem dX7_init_304 : decode cX7_init 304 = .ok (.newarray .int, 2) := by decide +kernel
theorem dd_286 : fd_G cX7_init 299 [(299, .putfield 34, 3), (302, .aload_n 0, 1), (303, .iconst 4, 1), (306, .dup, 1), (307, .iconst 0, 1), (308, .bipush (-4), 2), (310, .iastore, 1), (311, .dup, 1), (312, .iconst 1, 1), (313, .bipush (-4), 2), (315, .iastore, 1), (316, .dup, 1), (317, .iconst 2, 1), (318, .bipush (-4), 2), (320, .iastore, 1), (321, .dup, 1)] = true := by decide +kernel
theorem dX7_init_299 : decode cX7_init 299 = .ok (.putfield 34, 3) := dk_0 dd_286
theorem dX7_init_302 : decode cX7_init 302 = .ok (.aload_n 0, 1) := dk_1 dd_286
theorem dX7_init_303 : decode cX7_init 303 = .ok (.iconst 4, 1) := dk_2 dd_286
theorem dX7_init_306 : decode cX7_init 306 = .ok (.dup, 1) := dk_3 dd_286
theorem dX7_init_307 : decode cX7_init 307 = .ok (.iconst 0, 1) := dk_4 dd_286
theorem dX7_init_308 : decode cX7_init 308 = .ok (.bipush (-4), 2) := dk_5 dd_286
theorem dX7_init_310 : decode cX7_init 310 = .ok (.iastore, 1) := dk_6 dd_286
theorem dX7_init_311 : decode cX7_init 311 = .ok (.dup, 1) := dk_7 dd_286
theorem dX7_init_312 : decode cX7_init 312 = .ok (.iconst 1, 1) := dk_8 dd_286
theorem dX7_init_313 : decode cX7_init 313 = .ok (.bipush (-4), 2) := dk_9 dd_286
theorem dX7_init_315 : decode cX7_init 315 = .ok (.iastore, 1) := dk_10 dd_286
theorem dX7_init_316 : decode cX7_init 316 = .ok (.dup, 1) := dk_11 dd_286
theorem dX7_init_317 : decode cX7_init 317 = .ok (.iconst 2, 1) := dk_12 dd_286
theorem dX7_init_318 : decode cX7_init 318 = .ok (.bipush (-4), 2) := dk_13 dd_286
theorem dX7_init_320 : decode cX7_init 320 = .ok (.iastore, 1) := dk_14 dd_286
theorem dX7_init_321 : decode cX7_init 321 = .ok (.dup, 1) := dk_15 dd_286
theorem dX7_init_331 : decode cX7_init 331 = .ok (.newarray .int, 2) := by decide +kernel
theorem dX7_init_340 : decode cX7_init 340 = .ok (.newarray .int, 2) := by decide +kernel
theorem dd_287 : fd_G cX7_init 322 [(322, .iconst 3, 1), (323, .bipush (-4), 2), (325, .iastore, 1), (326, .putfield 38, 3), (329, .aload_n 0, 1), (330, .iconst 4, 1), (333, .putfield 41, 3), (336, .aload_n 0, 1), (337, .sipush 160, 3), (342, .putfield 44, 3), (345, .return_, 1)] = true := by decide +kernel
theorem dX7_init_322 : decode cX7_init 322 = .ok (.iconst 3, 1) := dk_0 dd_287
theorem dX7_init_323 : decode cX7_init 323 = .ok (.bipush (-4), 2) := dk_1 dd_287
theorem dX7_init_325 : decode cX7_init 325 = .ok (.iastore, 1) := dk_2 dd_287
theorem dX7_init_326 : decode cX7_init 326 = .ok (.putfield 38, 3) := dk_3 dd_287
theorem dX7_init_329 : decode cX7_init 329 = .ok (.aload_n 0, 1) := dk_4 dd_287
theorem dX7_init_330 : decode cX7_init 330 = .ok (.iconst 4, 1) := dk_5 dd_287
theorem dX7_init_333 : decode cX7_init 333 = .ok (.putfield 41, 3) := dk_6 dd_287
theorem dX7_init_336 : decode cX7_init 336 = .ok (.aload_n 0, 1) := dk_7 dd_287
theorem dX7_init_337 : decode cX7_init 337 = .ok (.sipush 160, 3) := dk_8 dd_287
theorem dX7_init_342 : decode cX7_init 342 = .ok (.putfield 44, 3) := dk_9 dd_287
theorem dX7_init_345 : decode cX7_init 345 = .ok (.return_, 1) := dk_10 dd_287
theorem dX7_in_0 : decode cX7_in 0 = .ok (.lload_n 0, 1) := by decide +kernel
theorem dX7_in_2 : decode cX7_in 2 = .ok (.lcmp, 1) := by decide +kernel
theorem dX7_in_6 : decode cX7_in 6 = .ok (.lload_n 0, 1) := by decide +kernel
theorem dX7_in_9 : decode cX7_in 9 = .ok (.lcmp, 1) := by decide +kernel
theorem dX7_in_10 : decode cX7_in 10 = .ok (.ifCond .gt 7, 3) := by decide +kernel
theorem dd_288 : fd_G cX7_in 1 [(1, .lload_n 2, 1), (3, .ifCond .lt 14, 3), (7, .lload 4, 2), (13, .iconst 1, 1), (14, .goto 4, 3), (17, .iconst 0, 1), (18, .ireturn, 1)] = true := by decide +kernel
theorem dX7_in_1 : decode cX7_in 1 = .ok (.lload_n 2, 1) := dk_0 dd_288
theorem dX7_in_3 : decode cX7_in 3 = .ok (.ifCond .lt 14, 3) := dk_1 dd_288
theorem dX7_in_7 : decode cX7_in 7 = .ok (.lload 4, 2) := dk_2 dd_288
theorem dX7_in_13 : decode cX7_in 13 = .ok (.iconst 1, 1) := dk_3 dd_288
theorem dX7_in_14 : decode cX7_in 14 = .ok (.goto 4, 3) := dk_4 dd_288
theorem dX7_in_17 : decode cX7_in 17 = .ok (.iconst 0, 1) := dk_5 dd_288
theorem dX7_in_18 : decode cX7_in 18 = .ok (.ireturn, 1) := dk_6 dd_288
theorem dd_289 : fd_G cX7_feed 0 [(0, .iload_n 1, 1), (1, .i2l, 1), (2, .lconst 0, 1), (3, .ldc2_w 47, 3), (6, .invokestatic 49, 3), (9, .ifCond .ne 5, 3), (12, .iconst (-1), 1), (13, .ireturn, 1), (14, .aload_n 0, 1), (15, .getfield 53, 3), (18, .sipush 160, 3), (21, .if_icmp .ne 6, 3), (24, .bipush (-3), 2), (26, .ireturn, 1), (27, .aload_n 0, 1), (28, .getfield 19, 3)] = true := by decide +kernel
theorem dX7_feed_0 : decode cX7_feed 0 = .ok (.iload_n 1, 1) := dk_0 dd_289
theorem dX7_feed_1 : decode cX7_feed 1 = .ok (.i2l, 1) := dk_1 dd_289
theorem dX7_feed_2 : decode cX7_feed 2 = .ok (.lconst 0, 1) := dk_2 dd_289
theorem dX7_feed_3 : decode cX7_feed 3 = .ok (.ldc2_w 47, 3) := dk_3 dd_289
theorem dX7_feed_6 : decode cX7_feed 6 = .ok (.invokestatic 49, 3) := dk_4 dd_289
theorem dX7_feed_9 : decode cX7_feed 9 = .ok (.ifCond .ne 5, 3) := dk_5 dd_289
theorem dX7_feed_12 : decode cX7_feed 12 = .ok (.iconst (-1), 1) := dk_6 dd_289
theorem dX7_feed_13 : decode cX7_feed 13 = .ok (.ireturn, 1) := dk_7 dd_289
theorem dX7_feed_14 : decode cX7_feed 14 = .ok (.aload_n 0, 1) := dk_8 dd_289
theorem dX7_feed_15 : decode cX7_feed 15 = .ok (.getfield 53, 3) := dk_9 dd_289
theorem dX7_feed_18 : decode cX7_feed 18 = .ok (.sipush 160, 3) := dk_10 dd_289
theorem dX7_feed_21 : decode cX7_feed 21 = .ok (.if_icmp .ne 6, 3) := dk_11 dd_289
theorem dX7_feed_24 : decode cX7_feed 24 = .ok (.bipush (-3), 2) := dk_12 dd_289
theorem dX7_feed_26 : decode cX7_feed 26 = .ok (.ireturn, 1) := dk_13 dd_289
theorem dX7_feed_27 : decode cX7_feed 27 = .ok (.aload_n 0, 1) := dk_14 dd_289
theorem dX7_feed_28 : decode cX7_feed 28 = .ok (.getfield 19, 3) := dk_15 dd_289
theorem dd_290 : fd_G cX7_feed 31 [(31, .aload_n 0, 1), (32, .getfield 53, 3), (35, .iload_n 1, 1), (36, .iastore, 1), (37, .aload_n 0, 1), (38, .dup, 1), (39, .getfield 53, 3), (42, .iconst 1, 1), (43, .iadd, 1), (44, .putfield 53, 3), (47, .aload_n 0, 1), (48, .getfield 53, 3), (51, .ireturn, 1)] = true := by decide +kernel
theorem dX7_feed_31 : decode cX7_feed 31 = .ok (.aload_n 0, 1) := dk_0 dd_290
theorem dX7_feed_32 : decode cX7_feed 32 = .ok (.getfield 53, 3) := dk_1 dd_290
theorem dX7_feed_35 : decode cX7_feed 35 = .ok (.iload_n 1, 1) := dk_2 dd_290
theorem dX7_feed_36 : decode cX7_feed 36 = .ok (.iastore, 1) := dk_3 dd_290
theorem dX7_feed_37 : decode cX7_feed 37 = .ok (.aload_n 0, 1) := dk_4 dd_290
theorem dX7_feed_38 : decode cX7_feed 38 = .ok (.dup, 1) := dk_5 dd_290
theorem dX7_feed_39 : decode cX7_feed 39 = .ok (.getfield 53, 3) := dk_6 dd_290
theorem dX7_feed_42 : decode cX7_feed 42 = .ok (.iconst 1, 1) := dk_7 dd_290
theorem dX7_feed_43 : decode cX7_feed 43 = .ok (.iadd, 1) := dk_8 dd_290
theorem dX7_feed_44 : decode cX7_feed 44 = .ok (.putfield 53, 3) := dk_9 dd_290
theorem dX7_feed_47 : decode cX7_feed 47 = .ok (.aload_n 0, 1) := dk_10 dd_290
theorem dX7_feed_48 : decode cX7_feed 48 = .ok (.getfield 53, 3) := dk_11 dd_290
theorem dX7_feed_51 : decode cX7_feed 51 = .ok (.ireturn, 1) := dk_12 dd_290
theorem dd_291 : fd_G cX7_end 0 [(0, .iload_n 1, 1), (1, .i2l, 1), (2, .lconst 0, 1), (3, .aload_n 0, 1), (4, .getfield 53, 3), (7, .i2l, 1), (8, .invokestatic 49, 3), (11, .ifCond .ne 5, 3), (14, .iconst (-1), 1), (15, .ireturn, 1), (16, .aload_n 0, 1), (17, .getfield 53, 3), (20, .istore_n 2, 1), (21, .aload_n 0, 1), (22, .iload_n 1, 1), (23, .putfield 53, 3)] = true := by decide +kernel
theorem dX7_end_0 : decode cX7_end 0 = .ok (.iload_n 1, 1) := dk_0 dd_291
theorem dX7_end_1 : decode cX7_end 1 = .ok (.i2l, 1) := dk_1 dd_291
theorem dX7_end_2 : decode cX7_end 2 = .ok (.lconst 0, 1) := dk_2 dd_291
theorem dX7_end_3 : decode cX7_end 3 = .ok (.aload_n 0, 1) := dk_3 dd_291
theorem dX7_end_4 : decode cX7_end 4 = .ok (.getfield 53, 3) := dk_4 dd_291
theorem dX7_end_7 : decode cX7_end 7 = .ok (.i2l, 1) := dk_5 dd_291
theorem dX7_end_8 : decode cX7_end 8 = .ok (.invokestatic 49, 3) := dk_6 dd_291
theorem dX7_end_11 : decode cX7_end 11 = .ok (.ifCond .ne 5, 3) := dk_7 dd_291
theorem dX7_end_14 : decode cX7_end 14 = .ok (.iconst (-1), 1) := dk_8 dd_291
theorem dX7_end_15 : decode cX7_end 15 = .ok (.ireturn, 1) := dk_9 dd_291
theorem dX7_end_16 : decode cX7_end 16 = .ok (.aload_n 0, 1) := dk_10 dd_291
theorem dX7_end_17 : decode cX7_end 17 = .ok (.getfield 53, 3) := dk_11 dd_291
theorem dX7_end_20 : decode cX7_end 20 = .ok (.istore_n 2, 1) := dk_12 dd_291
theorem dX7_end_21 : decode cX7_end 21 = .ok (.aload_n 0, 1) := dk_13 dd_291
theorem dX7_end_22 : decode cX7_end 22 = .ok (.iload_n 1, 1) := dk_14 dd_291
theorem dX7_end_23 : decode cX7_end 23 = .ok (.putfield 53, 3) := dk_15 dd_291
theorem dd_292 : fd_G cX7_end 26 [(26, .iload_n 2, 1), (27, .ireturn, 1)] = true := by decide +kernel
theorem dX7_end_26 : decode cX7_end 26 = .ok (.iload_n 2, 1) := dk_0 dd_292
theorem dX7_end_27 : decode cX7_end 27 = .ok (.ireturn, 1) := dk_1 dd_292
theorem dd_293 : fd_G cX7_byteAt 0 [(0, .iload_n 1, 1), (1, .aload_n 0, 1), (2, .getfield 53, 3), (5, .if_icmp .ge 12, 3), (8, .aload_n 0, 1), (9, .getfield 19, 3), (12, .iload_n 1, 1), (13, .iaload, 1), (14, .goto 5, 3), (17, .bipush (-4), 2), (19, .ireturn, 1)] = true := by decide +kernel
theorem dX7_byteAt_0 : decode cX7_byteAt 0 = .ok (.iload_n 1, 1) := dk_0 dd_293
theorem dX7_byteAt_1 : decode cX7_byteAt 1 = .ok (.aload_n 0, 1) := dk_1 dd_293
theorem dX7_byteAt_2 : decode cX7_byteAt 2 = .ok (.getfield 53, 3) := dk_2 dd_293
theorem dX7_byteAt_5 : decode cX7_byteAt 5 = .ok (.if_icmp .ge 12, 3) := dk_3 dd_293
theorem dX7_byteAt_8 : decode cX7_byteAt 8 = .ok (.aload_n 0, 1) := dk_4 dd_293
theorem dX7_byteAt_9 : decode cX7_byteAt 9 = .ok (.getfield 19, 3) := dk_5 dd_293
theorem dX7_byteAt_12 : decode cX7_byteAt 12 = .ok (.iload_n 1, 1) := dk_6 dd_293
theorem dX7_byteAt_13 : decode cX7_byteAt 13 = .ok (.iaload, 1) := dk_7 dd_293
theorem dX7_byteAt_14 : decode cX7_byteAt 14 = .ok (.goto 5, 3) := dk_8 dd_293
theorem dX7_byteAt_17 : decode cX7_byteAt 17 = .ok (.bipush (-4), 2) := dk_9 dd_293
theorem dX7_byteAt_19 : decode cX7_byteAt 19 = .ok (.ireturn, 1) := dk_10 dd_293
theorem dd_294 : fd_G cX7_fails 0 [(0, .aload_n 0, 1), (1, .getfield 57, 3), (4, .ifCond .ne 16, 3), (7, .aload_n 0, 1), (8, .iload_n 1, 1), (9, .putfield 57, 3), (12, .aload_n 0, 1), (13, .aload_n 0, 1), (14, .getfield 60, 3), (17, .putfield 63, 3), (20, .return_, 1)] = true := by decide +kernel
theorem dX7_fails_0 : decode cX7_fails 0 = .ok (.aload_n 0, 1) := dk_0 dd_294
theorem dX7_fails_1 : decode cX7_fails 1 = .ok (.getfield 57, 3) := dk_1 dd_294
theorem dX7_fails_4 : decode cX7_fails 4 = .ok (.ifCond .ne 16, 3) := dk_2 dd_294
theorem dX7_fails_7 : decode cX7_fails 7 = .ok (.aload_n 0, 1) := dk_3 dd_294
theorem dX7_fails_8 : decode cX7_fails 8 = .ok (.iload_n 1, 1) := dk_4 dd_294
theorem dX7_fails_9 : decode cX7_fails 9 = .ok (.putfield 57, 3) := dk_5 dd_294
theorem dX7_fails_12 : decode cX7_fails 12 = .ok (.aload_n 0, 1) := dk_6 dd_294
theorem dX7_fails_13 : decode cX7_fails 13 = .ok (.aload_n 0, 1) := dk_7 dd_294
theorem dX7_fails_14 : decode cX7_fails 14 = .ok (.getfield 60, 3) := dk_8 dd_294
theorem dX7_fails_17 : decode cX7_fails 17 = .ok (.putfield 63, 3) := dk_9 dd_294
theorem dX7_fails_20 : decode cX7_fails 20 = .ok (.return_, 1) := dk_10 dd_294
theorem dd_295 : fd_G cX7_nameHere 0 [(0, .iconst 0, 1), (1, .istore_n 1, 1), (2, .iload_n 1, 1), (3, .bipush 7, 2), (5, .if_icmp .ge 113, 3), (8, .aload_n 0, 1), (9, .getfield 66, 3), (12, .iconst 1, 1), (13, .if_icmp .ne 105, 3), (16, .aload_n 0, 1), (17, .getfield 69, 3), (20, .aload_n 0, 1), (21, .getfield 60, 3), (24, .isub, 1), (25, .aload_n 0, 1), (26, .getfield 22, 3)] = true := by decide +kernel
theorem dX7_nameHere_0 : decode cX7_nameHere 0 = .ok (.iconst 0, 1) := dk_0 dd_295
theorem dX7_nameHere_1 : decode cX7_nameHere 1 = .ok (.istore_n 1, 1) := dk_1 dd_295
theorem dX7_nameHere_2 : decode cX7_nameHere 2 = .ok (.iload_n 1, 1) := dk_2 dd_295
theorem dX7_nameHere_3 : decode cX7_nameHere 3 = .ok (.bipush 7, 2) := dk_3 dd_295
theorem dX7_nameHere_5 : decode cX7_nameHere 5 = .ok (.if_icmp .ge 113, 3) := dk_4 dd_295
theorem dX7_nameHere_8 : decode cX7_nameHere 8 = .ok (.aload_n 0, 1) := dk_5 dd_295
theorem dX7_nameHere_9 : decode cX7_nameHere 9 = .ok (.getfield 66, 3) := dk_6 dd_295
theorem dX7_nameHere_12 : decode cX7_nameHere 12 = .ok (.iconst 1, 1) := dk_7 dd_295
theorem dX7_nameHere_13 : decode cX7_nameHere 13 = .ok (.if_icmp .ne 105, 3) := dk_8 dd_295
theorem dX7_nameHere_16 : decode cX7_nameHere 16 = .ok (.aload_n 0, 1) := dk_9 dd_295
theorem dX7_nameHere_17 : decode cX7_nameHere 17 = .ok (.getfield 69, 3) := dk_10 dd_295
theorem dX7_nameHere_20 : decode cX7_nameHere 20 = .ok (.aload_n 0, 1) := dk_11 dd_295
theorem dX7_nameHere_21 : decode cX7_nameHere 21 = .ok (.getfield 60, 3) := dk_12 dd_295
theorem dX7_nameHere_24 : decode cX7_nameHere 24 = .ok (.isub, 1) := dk_13 dd_295
theorem dX7_nameHere_25 : decode cX7_nameHere 25 = .ok (.aload_n 0, 1) := dk_14 dd_295
theorem dX7_nameHere_26 : decode cX7_nameHere 26 = .ok (.getfield 22, 3) := dk_15 dd_295
theorem dd_296 : fd_G cX7_nameHere 29 [(29, .iload_n 1, 1), (30, .iconst 1, 1), (31, .iadd, 1), (32, .iaload, 1), (33, .aload_n 0, 1), (34, .getfield 22, 3), (37, .iload_n 1, 1), (38, .iaload, 1), (39, .isub, 1), (40, .if_icmp .ne 7, 3), (43, .iconst 1, 1), (44, .goto 4, 3), (47, .iconst 0, 1), (48, .istore_n 2, 1), (49, .iconst 0, 1), (50, .istore_n 3, 1)] = true := by decide +kernel
theorem dX7_nameHere_29 : decode cX7_nameHere 29 = .ok (.iload_n 1, 1) := dk_0 dd_296
theorem dX7_nameHere_30 : decode cX7_nameHere 30 = .ok (.iconst 1, 1) := dk_1 dd_296
theorem dX7_nameHere_31 : decode cX7_nameHere 31 = .ok (.iadd, 1) := dk_2 dd_296
theorem dX7_nameHere_32 : decode cX7_nameHere 32 = .ok (.iaload, 1) := dk_3 dd_296
theorem dX7_nameHere_33 : decode cX7_nameHere 33 = .ok (.aload_n 0, 1) := dk_4 dd_296
theorem dX7_nameHere_34 : decode cX7_nameHere 34 = .ok (.getfield 22, 3) := dk_5 dd_296
theorem dX7_nameHere_37 : decode cX7_nameHere 37 = .ok (.iload_n 1, 1) := dk_6 dd_296
theorem dX7_nameHere_38 : decode cX7_nameHere 38 = .ok (.iaload, 1) := dk_7 dd_296
theorem dX7_nameHere_39 : decode cX7_nameHere 39 = .ok (.isub, 1) := dk_8 dd_296
theorem dX7_nameHere_40 : decode cX7_nameHere 40 = .ok (.if_icmp .ne 7, 3) := dk_9 dd_296
theorem dX7_nameHere_43 : decode cX7_nameHere 43 = .ok (.iconst 1, 1) := dk_10 dd_296
theorem dX7_nameHere_44 : decode cX7_nameHere 44 = .ok (.goto 4, 3) := dk_11 dd_296
theorem dX7_nameHere_47 : decode cX7_nameHere 47 = .ok (.iconst 0, 1) := dk_12 dd_296
theorem dX7_nameHere_48 : decode cX7_nameHere 48 = .ok (.istore_n 2, 1) := dk_13 dd_296
theorem dX7_nameHere_49 : decode cX7_nameHere 49 = .ok (.iconst 0, 1) := dk_14 dd_296
theorem dX7_nameHere_50 : decode cX7_nameHere 50 = .ok (.istore_n 3, 1) := dk_15 dd_296
theorem dd_297 : fd_G cX7_nameHere 51 [(51, .iload_n 2, 1), (52, .ifCond .eq 54, 3), (55, .iload_n 3, 1), (56, .aload_n 0, 1), (57, .getfield 69, 3), (60, .aload_n 0, 1), (61, .getfield 60, 3), (64, .isub, 1), (65, .if_icmp .ge 41, 3), (68, .aload_n 0, 1), (69, .aload_n 0, 1), (70, .getfield 60, 3), (73, .iload_n 3, 1), (74, .iadd, 1), (75, .invokevirtual 72, 3), (78, .aload_n 0, 1)] = true := by decide +kernel
theorem dX7_nameHere_51 : decode cX7_nameHere 51 = .ok (.iload_n 2, 1) := dk_0 dd_297
theorem dX7_nameHere_52 : decode cX7_nameHere 52 = .ok (.ifCond .eq 54, 3) := dk_1 dd_297
theorem dX7_nameHere_55 : decode cX7_nameHere 55 = .ok (.iload_n 3, 1) := dk_2 dd_297
theorem dX7_nameHere_56 : decode cX7_nameHere 56 = .ok (.aload_n 0, 1) := dk_3 dd_297
theorem dX7_nameHere_57 : decode cX7_nameHere 57 = .ok (.getfield 69, 3) := dk_4 dd_297
theorem dX7_nameHere_60 : decode cX7_nameHere 60 = .ok (.aload_n 0, 1) := dk_5 dd_297
theorem dX7_nameHere_61 : decode cX7_nameHere 61 = .ok (.getfield 60, 3) := dk_6 dd_297
theorem dX7_nameHere_64 : decode cX7_nameHere 64 = .ok (.isub, 1) := dk_7 dd_297
theorem dX7_nameHere_65 : decode cX7_nameHere 65 = .ok (.if_icmp .ge 41, 3) := dk_8 dd_297
theorem dX7_nameHere_68 : decode cX7_nameHere 68 = .ok (.aload_n 0, 1) := dk_9 dd_297
theorem dX7_nameHere_69 : decode cX7_nameHere 69 = .ok (.aload_n 0, 1) := dk_10 dd_297
theorem dX7_nameHere_70 : decode cX7_nameHere 70 = .ok (.getfield 60, 3) := dk_11 dd_297
theorem dX7_nameHere_73 : decode cX7_nameHere 73 = .ok (.iload_n 3, 1) := dk_12 dd_297
theorem dX7_nameHere_74 : decode cX7_nameHere 74 = .ok (.iadd, 1) := dk_13 dd_297
theorem dX7_nameHere_75 : decode cX7_nameHere 75 = .ok (.invokevirtual 72, 3) := dk_14 dd_297
theorem dX7_nameHere_78 : decode cX7_nameHere 78 = .ok (.aload_n 0, 1) := dk_15 dd_297
theorem dd_298 : fd_G cX7_nameHere 79 [(79, .getfield 25, 3), (82, .aload_n 0, 1), (83, .getfield 22, 3), (86, .iload_n 1, 1), (87, .iaload, 1), (88, .iload_n 3, 1), (89, .iadd, 1), (90, .iaload, 1), (91, .if_icmp .ne 7, 3), (94, .iconst 1, 1), (95, .goto 4, 3), (98, .iconst 0, 1), (99, .istore_n 2, 1), (100, .iinc 3 1, 3), (103, .goto (-52), 3), (106, .iload_n 2, 1)] = true := by decide +kernel
theorem dX7_nameHere_79 : decode cX7_nameHere 79 = .ok (.getfield 25, 3) := dk_0 dd_298
theorem dX7_nameHere_82 : decode cX7_nameHere 82 = .ok (.aload_n 0, 1) := dk_1 dd_298
theorem dX7_nameHere_83 : decode cX7_nameHere 83 = .ok (.getfield 22, 3) := dk_2 dd_298
theorem dX7_nameHere_86 : decode cX7_nameHere 86 = .ok (.iload_n 1, 1) := dk_3 dd_298
theorem dX7_nameHere_87 : decode cX7_nameHere 87 = .ok (.iaload, 1) := dk_4 dd_298
theorem dX7_nameHere_88 : decode cX7_nameHere 88 = .ok (.iload_n 3, 1) := dk_5 dd_298
theorem dX7_nameHere_89 : decode cX7_nameHere 89 = .ok (.iadd, 1) := dk_6 dd_298
theorem dX7_nameHere_90 : decode cX7_nameHere 90 = .ok (.iaload, 1) := dk_7 dd_298
theorem dX7_nameHere_91 : decode cX7_nameHere 91 = .ok (.if_icmp .ne 7, 3) := dk_8 dd_298
theorem dX7_nameHere_94 : decode cX7_nameHere 94 = .ok (.iconst 1, 1) := dk_9 dd_298
theorem dX7_nameHere_95 : decode cX7_nameHere 95 = .ok (.goto 4, 3) := dk_10 dd_298
theorem dX7_nameHere_98 : decode cX7_nameHere 98 = .ok (.iconst 0, 1) := dk_11 dd_298
theorem dX7_nameHere_99 : decode cX7_nameHere 99 = .ok (.istore_n 2, 1) := dk_12 dd_298
theorem dX7_nameHere_100 : decode cX7_nameHere 100 = .ok (.iinc 3 1, 3) := dk_13 dd_298
theorem dX7_nameHere_103 : decode cX7_nameHere 103 = .ok (.goto (-52), 3) := dk_14 dd_298
theorem dX7_nameHere_106 : decode cX7_nameHere 106 = .ok (.iload_n 2, 1) := dk_15 dd_298
theorem dd_299 : fd_G cX7_nameHere 107 [(107, .ifCond .eq 5, 3), (110, .iload_n 1, 1), (111, .ireturn, 1), (112, .iinc 1 1, 3), (115, .goto (-113), 3), (118, .bipush (-4), 2), (120, .ireturn, 1)] = true := by decide +kernel
theorem dX7_nameHere_107 : decode cX7_nameHere 107 = .ok (.ifCond .eq 5, 3) := dk_0 dd_299
theorem dX7_nameHere_110 : decode cX7_nameHere 110 = .ok (.iload_n 1, 1) := dk_1 dd_299
theorem dX7_nameHere_111 : decode cX7_nameHere 111 = .ok (.ireturn, 1) := dk_2 dd_299
theorem dX7_nameHere_112 : decode cX7_nameHere 112 = .ok (.iinc 1 1, 3) := dk_3 dd_299
theorem dX7_nameHere_115 : decode cX7_nameHere 115 = .ok (.goto (-113), 3) := dk_4 dd_299
theorem dX7_nameHere_118 : decode cX7_nameHere 118 = .ok (.bipush (-4), 2) := dk_5 dd_299
theorem dX7_nameHere_120 : decode cX7_nameHere 120 = .ok (.ireturn, 1) := dk_6 dd_299
theorem dX7_step_4 : decode cX7_step 4 = .ok (.ifCond .le 4, 3) := by decide +kernel
theorem dd_300 : fd_G cX7_step 0 [(0, .aload_n 0, 1), (1, .getfield 57, 3), (7, .return_, 1), (8, .aload_n 0, 1), (9, .aload_n 0, 1), (10, .getfield 69, 3), (13, .invokevirtual 72, 3), (16, .bipush 32, 2), (18, .if_icmp .ne 16, 3), (21, .aload_n 0, 1), (22, .dup, 1), (23, .getfield 69, 3), (26, .iconst 1, 1), (27, .iadd, 1), (28, .putfield 69, 3), (31, .goto (-23), 3)] = true := by decide +kernel
theorem dX7_step_0 : decode cX7_step 0 = .ok (.aload_n 0, 1) := dk_0 dd_300
theorem dX7_step_1 : decode cX7_step 1 = .ok (.getfield 57, 3) := dk_1 dd_300
theorem dX7_step_7 : decode cX7_step 7 = .ok (.return_, 1) := dk_2 dd_300
theorem dX7_step_8 : decode cX7_step 8 = .ok (.aload_n 0, 1) := dk_3 dd_300
theorem dX7_step_9 : decode cX7_step 9 = .ok (.aload_n 0, 1) := dk_4 dd_300
theorem dX7_step_10 : decode cX7_step 10 = .ok (.getfield 69, 3) := dk_5 dd_300
theorem dX7_step_13 : decode cX7_step 13 = .ok (.invokevirtual 72, 3) := dk_6 dd_300
theorem dX7_step_16 : decode cX7_step 16 = .ok (.bipush 32, 2) := dk_7 dd_300
theorem dX7_step_18 : decode cX7_step 18 = .ok (.if_icmp .ne 16, 3) := dk_8 dd_300
theorem dX7_step_21 : decode cX7_step 21 = .ok (.aload_n 0, 1) := dk_9 dd_300
theorem dX7_step_22 : decode cX7_step 22 = .ok (.dup, 1) := dk_10 dd_300
theorem dX7_step_23 : decode cX7_step 23 = .ok (.getfield 69, 3) := dk_11 dd_300
theorem dX7_step_26 : decode cX7_step 26 = .ok (.iconst 1, 1) := dk_12 dd_300
theorem dX7_step_27 : decode cX7_step 27 = .ok (.iadd, 1) := dk_13 dd_300
theorem dX7_step_28 : decode cX7_step 28 = .ok (.putfield 69, 3) := dk_14 dd_300
theorem dX7_step_31 : decode cX7_step 31 = .ok (.goto (-23), 3) := dk_15 dd_300
theorem dd_301 : fd_G cX7_step 34 [(34, .aload_n 0, 1), (35, .aload_n 0, 1), (36, .getfield 69, 3), (39, .putfield 60, 3), (42, .aload_n 0, 1), (43, .aload_n 0, 1), (44, .getfield 69, 3), (47, .invokevirtual 72, 3), (50, .istore_n 1, 1), (51, .aload_n 0, 1), (52, .iconst 0, 1), (53, .putfield 76, 3), (56, .iload_n 1, 1), (57, .bipush (-4), 2), (59, .if_icmp .ne 11, 3), (62, .aload_n 0, 1)] = true := by decide +kernel
theorem dX7_step_34 : decode cX7_step 34 = .ok (.aload_n 0, 1) := dk_0 dd_301
theorem dX7_step_35 : decode cX7_step 35 = .ok (.aload_n 0, 1) := dk_1 dd_301
theorem dX7_step_36 : decode cX7_step 36 = .ok (.getfield 69, 3) := dk_2 dd_301
theorem dX7_step_39 : decode cX7_step 39 = .ok (.putfield 60, 3) := dk_3 dd_301
theorem dX7_step_42 : decode cX7_step 42 = .ok (.aload_n 0, 1) := dk_4 dd_301
theorem dX7_step_43 : decode cX7_step 43 = .ok (.aload_n 0, 1) := dk_5 dd_301
theorem dX7_step_44 : decode cX7_step 44 = .ok (.getfield 69, 3) := dk_6 dd_301
theorem dX7_step_47 : decode cX7_step 47 = .ok (.invokevirtual 72, 3) := dk_7 dd_301
theorem dX7_step_50 : decode cX7_step 50 = .ok (.istore_n 1, 1) := dk_8 dd_301
theorem dX7_step_51 : decode cX7_step 51 = .ok (.aload_n 0, 1) := dk_9 dd_301
theorem dX7_step_52 : decode cX7_step 52 = .ok (.iconst 0, 1) := dk_10 dd_301
theorem dX7_step_53 : decode cX7_step 53 = .ok (.putfield 76, 3) := dk_11 dd_301
theorem dX7_step_56 : decode cX7_step 56 = .ok (.iload_n 1, 1) := dk_12 dd_301
theorem dX7_step_57 : decode cX7_step 57 = .ok (.bipush (-4), 2) := dk_13 dd_301
theorem dX7_step_59 : decode cX7_step 59 = .ok (.if_icmp .ne 11, 3) := dk_14 dd_301
theorem dX7_step_62 : decode cX7_step 62 = .ok (.aload_n 0, 1) := dk_15 dd_301
theorem dd_302 : fd_G cX7_step 63 [(63, .iconst 0, 1), (64, .putfield 66, 3), (67, .goto 202, 3), (70, .iload_n 1, 1), (71, .i2l, 1), (72, .ldc2_w 79, 3), (75, .ldc2_w 81, 3), (78, .invokestatic 49, 3), (81, .ifCond .eq 45, 3), (84, .aload_n 0, 1), (85, .aload_n 0, 1), (86, .getfield 69, 3), (89, .invokevirtual 72, 3), (92, .i2l, 1), (93, .ldc2_w 79, 3), (96, .ldc2_w 81, 3)] = true := by decide +kernel
theorem dX7_step_63 : decode cX7_step 63 = .ok (.iconst 0, 1) := dk_0 dd_302
theorem dX7_step_64 : decode cX7_step 64 = .ok (.putfield 66, 3) := dk_1 dd_302
theorem dX7_step_67 : decode cX7_step 67 = .ok (.goto 202, 3) := dk_2 dd_302
theorem dX7_step_70 : decode cX7_step 70 = .ok (.iload_n 1, 1) := dk_3 dd_302
theorem dX7_step_71 : decode cX7_step 71 = .ok (.i2l, 1) := dk_4 dd_302
theorem dX7_step_72 : decode cX7_step 72 = .ok (.ldc2_w 79, 3) := dk_5 dd_302
theorem dX7_step_75 : decode cX7_step 75 = .ok (.ldc2_w 81, 3) := dk_6 dd_302
theorem dX7_step_78 : decode cX7_step 78 = .ok (.invokestatic 49, 3) := dk_7 dd_302
theorem dX7_step_81 : decode cX7_step 81 = .ok (.ifCond .eq 45, 3) := dk_8 dd_302
theorem dX7_step_84 : decode cX7_step 84 = .ok (.aload_n 0, 1) := dk_9 dd_302
theorem dX7_step_85 : decode cX7_step 85 = .ok (.aload_n 0, 1) := dk_10 dd_302
theorem dX7_step_86 : decode cX7_step 86 = .ok (.getfield 69, 3) := dk_11 dd_302
theorem dX7_step_89 : decode cX7_step 89 = .ok (.invokevirtual 72, 3) := dk_12 dd_302
theorem dX7_step_92 : decode cX7_step 92 = .ok (.i2l, 1) := dk_13 dd_302
theorem dX7_step_93 : decode cX7_step 93 = .ok (.ldc2_w 79, 3) := dk_14 dd_302
theorem dX7_step_96 : decode cX7_step 96 = .ok (.ldc2_w 81, 3) := dk_15 dd_302
theorem dd_303 : fd_G cX7_step 99 [(99, .invokestatic 49, 3), (102, .ifCond .eq 16, 3), (105, .aload_n 0, 1), (106, .dup, 1), (107, .getfield 69, 3), (110, .iconst 1, 1), (111, .iadd, 1), (112, .putfield 69, 3), (115, .goto (-31), 3), (118, .aload_n 0, 1), (119, .iconst 1, 1), (120, .putfield 66, 3), (123, .goto 146, 3), (126, .iload_n 1, 1), (127, .i2l, 1), (128, .ldc2_w 83, 3)] = true := by decide +kernel
theorem dX7_step_99 : decode cX7_step 99 = .ok (.invokestatic 49, 3) := dk_0 dd_303
theorem dX7_step_102 : decode cX7_step 102 = .ok (.ifCond .eq 16, 3) := dk_1 dd_303
theorem dX7_step_105 : decode cX7_step 105 = .ok (.aload_n 0, 1) := dk_2 dd_303
theorem dX7_step_106 : decode cX7_step 106 = .ok (.dup, 1) := dk_3 dd_303
theorem dX7_step_107 : decode cX7_step 107 = .ok (.getfield 69, 3) := dk_4 dd_303
theorem dX7_step_110 : decode cX7_step 110 = .ok (.iconst 1, 1) := dk_5 dd_303
theorem dX7_step_111 : decode cX7_step 111 = .ok (.iadd, 1) := dk_6 dd_303
theorem dX7_step_112 : decode cX7_step 112 = .ok (.putfield 69, 3) := dk_7 dd_303
theorem dX7_step_115 : decode cX7_step 115 = .ok (.goto (-31), 3) := dk_8 dd_303
theorem dX7_step_118 : decode cX7_step 118 = .ok (.aload_n 0, 1) := dk_9 dd_303
theorem dX7_step_119 : decode cX7_step 119 = .ok (.iconst 1, 1) := dk_10 dd_303
theorem dX7_step_120 : decode cX7_step 120 = .ok (.putfield 66, 3) := dk_11 dd_303
theorem dX7_step_123 : decode cX7_step 123 = .ok (.goto 146, 3) := dk_12 dd_303
theorem dX7_step_126 : decode cX7_step 126 = .ok (.iload_n 1, 1) := dk_13 dd_303
theorem dX7_step_127 : decode cX7_step 127 = .ok (.i2l, 1) := dk_14 dd_303
theorem dX7_step_128 : decode cX7_step 128 = .ok (.ldc2_w 83, 3) := dk_15 dd_303
theorem dd_304 : fd_G cX7_step 131 [(131, .ldc2_w 85, 3), (134, .invokestatic 49, 3), (137, .ifCond .eq 106, 3), (140, .aload_n 0, 1), (141, .aload_n 0, 1), (142, .getfield 69, 3), (145, .invokevirtual 72, 3), (148, .i2l, 1), (149, .ldc2_w 83, 3), (152, .ldc2_w 85, 3), (155, .invokestatic 49, 3), (158, .ifCond .eq 59, 3), (161, .aload_n 0, 1), (162, .aload_n 0, 1), (163, .getfield 69, 3), (166, .aload_n 0, 1)] = true := by decide +kernel
theorem dX7_step_131 : decode cX7_step 131 = .ok (.ldc2_w 85, 3) := dk_0 dd_304
theorem dX7_step_134 : decode cX7_step 134 = .ok (.invokestatic 49, 3) := dk_1 dd_304
theorem dX7_step_137 : decode cX7_step 137 = .ok (.ifCond .eq 106, 3) := dk_2 dd_304
theorem dX7_step_140 : decode cX7_step 140 = .ok (.aload_n 0, 1) := dk_3 dd_304
theorem dX7_step_141 : decode cX7_step 141 = .ok (.aload_n 0, 1) := dk_4 dd_304
theorem dX7_step_142 : decode cX7_step 142 = .ok (.getfield 69, 3) := dk_5 dd_304
theorem dX7_step_145 : decode cX7_step 145 = .ok (.invokevirtual 72, 3) := dk_6 dd_304
theorem dX7_step_148 : decode cX7_step 148 = .ok (.i2l, 1) := dk_7 dd_304
theorem dX7_step_149 : decode cX7_step 149 = .ok (.ldc2_w 83, 3) := dk_8 dd_304
theorem dX7_step_152 : decode cX7_step 152 = .ok (.ldc2_w 85, 3) := dk_9 dd_304
theorem dX7_step_155 : decode cX7_step 155 = .ok (.invokestatic 49, 3) := dk_10 dd_304
theorem dX7_step_158 : decode cX7_step 158 = .ok (.ifCond .eq 59, 3) := dk_11 dd_304
theorem dX7_step_161 : decode cX7_step 161 = .ok (.aload_n 0, 1) := dk_12 dd_304
theorem dX7_step_162 : decode cX7_step 162 = .ok (.aload_n 0, 1) := dk_13 dd_304
theorem dX7_step_163 : decode cX7_step 163 = .ok (.getfield 69, 3) := dk_14 dd_304
theorem dX7_step_166 : decode cX7_step 166 = .ok (.aload_n 0, 1) := dk_15 dd_304
theorem dd_305 : fd_G cX7_step 167 [(167, .getfield 60, 3), (170, .isub, 1), (171, .iconst 2, 1), (172, .if_icmp .ge 25, 3), (175, .bipush 10, 2), (177, .aload_n 0, 1), (178, .getfield 76, 3), (181, .imul, 1), (182, .aload_n 0, 1), (183, .aload_n 0, 1), (184, .getfield 69, 3), (187, .invokevirtual 72, 3), (190, .iadd, 1), (191, .bipush 48, 2), (193, .isub, 1), (194, .goto 7, 3)] = true := by decide +kernel
theorem dX7_step_167 : decode cX7_step 167 = .ok (.getfield 60, 3) := dk_0 dd_305
theorem dX7_step_170 : decode cX7_step 170 = .ok (.isub, 1) := dk_1 dd_305
theorem dX7_step_171 : decode cX7_step 171 = .ok (.iconst 2, 1) := dk_2 dd_305
theorem dX7_step_172 : decode cX7_step 172 = .ok (.if_icmp .ge 25, 3) := dk_3 dd_305
theorem dX7_step_175 : decode cX7_step 175 = .ok (.bipush 10, 2) := dk_4 dd_305
theorem dX7_step_177 : decode cX7_step 177 = .ok (.aload_n 0, 1) := dk_5 dd_305
theorem dX7_step_178 : decode cX7_step 178 = .ok (.getfield 76, 3) := dk_6 dd_305
theorem dX7_step_181 : decode cX7_step 181 = .ok (.imul, 1) := dk_7 dd_305
theorem dX7_step_182 : decode cX7_step 182 = .ok (.aload_n 0, 1) := dk_8 dd_305
theorem dX7_step_183 : decode cX7_step 183 = .ok (.aload_n 0, 1) := dk_9 dd_305
theorem dX7_step_184 : decode cX7_step 184 = .ok (.getfield 69, 3) := dk_10 dd_305
theorem dX7_step_187 : decode cX7_step 187 = .ok (.invokevirtual 72, 3) := dk_11 dd_305
theorem dX7_step_190 : decode cX7_step 190 = .ok (.iadd, 1) := dk_12 dd_305
theorem dX7_step_191 : decode cX7_step 191 = .ok (.bipush 48, 2) := dk_13 dd_305
theorem dX7_step_193 : decode cX7_step 193 = .ok (.isub, 1) := dk_14 dd_305
theorem dX7_step_194 : decode cX7_step 194 = .ok (.goto 7, 3) := dk_15 dd_305
theorem dd_306 : fd_G cX7_step 197 [(197, .aload_n 0, 1), (198, .getfield 76, 3), (201, .putfield 76, 3), (204, .aload_n 0, 1), (205, .dup, 1), (206, .getfield 69, 3), (209, .iconst 1, 1), (210, .iadd, 1), (211, .putfield 69, 3), (214, .goto (-74), 3), (217, .aload_n 0, 1), (218, .iconst 2, 1), (219, .putfield 66, 3), (222, .aload_n 0, 1), (223, .getfield 69, 3), (226, .aload_n 0, 1)] = true := by decide +kernel
theorem dX7_step_197 : decode cX7_step 197 = .ok (.aload_n 0, 1) := dk_0 dd_306
theorem dX7_step_198 : decode cX7_step 198 = .ok (.getfield 76, 3) := dk_1 dd_306
theorem dX7_step_201 : decode cX7_step 201 = .ok (.putfield 76, 3) := dk_2 dd_306
theorem dX7_step_204 : decode cX7_step 204 = .ok (.aload_n 0, 1) := dk_3 dd_306
theorem dX7_step_205 : decode cX7_step 205 = .ok (.dup, 1) := dk_4 dd_306
theorem dX7_step_206 : decode cX7_step 206 = .ok (.getfield 69, 3) := dk_5 dd_306
theorem dX7_step_209 : decode cX7_step 209 = .ok (.iconst 1, 1) := dk_6 dd_306
theorem dX7_step_210 : decode cX7_step 210 = .ok (.iadd, 1) := dk_7 dd_306
theorem dX7_step_211 : decode cX7_step 211 = .ok (.putfield 69, 3) := dk_8 dd_306
theorem dX7_step_214 : decode cX7_step 214 = .ok (.goto (-74), 3) := dk_9 dd_306
theorem dX7_step_217 : decode cX7_step 217 = .ok (.aload_n 0, 1) := dk_10 dd_306
theorem dX7_step_218 : decode cX7_step 218 = .ok (.iconst 2, 1) := dk_11 dd_306
theorem dX7_step_219 : decode cX7_step 219 = .ok (.putfield 66, 3) := dk_12 dd_306
theorem dX7_step_222 : decode cX7_step 222 = .ok (.aload_n 0, 1) := dk_13 dd_306
theorem dX7_step_223 : decode cX7_step 223 = .ok (.getfield 69, 3) := dk_14 dd_306
theorem dX7_step_226 : decode cX7_step 226 = .ok (.aload_n 0, 1) := dk_15 dd_306
theorem dd_307 : fd_G cX7_step 227 [(227, .getfield 60, 3), (230, .isub, 1), (231, .iconst 2, 1), (232, .if_icmp .le 37, 3), (235, .aload_n 0, 1), (236, .iconst 1, 1), (237, .invokevirtual 87, 3), (240, .goto 29, 3), (243, .aload_n 0, 1), (244, .iconst 3, 1), (245, .putfield 66, 3), (248, .aload_n 0, 1), (249, .dup, 1), (250, .getfield 69, 3), (253, .iconst 1, 1), (254, .iadd, 1)] = true := by decide +kernel
theorem dX7_step_227 : decode cX7_step 227 = .ok (.getfield 60, 3) := dk_0 dd_307
theorem dX7_step_230 : decode cX7_step 230 = .ok (.isub, 1) := dk_1 dd_307
theorem dX7_step_231 : decode cX7_step 231 = .ok (.iconst 2, 1) := dk_2 dd_307
theorem dX7_step_232 : decode cX7_step 232 = .ok (.if_icmp .le 37, 3) := dk_3 dd_307
theorem dX7_step_235 : decode cX7_step 235 = .ok (.aload_n 0, 1) := dk_4 dd_307
theorem dX7_step_236 : decode cX7_step 236 = .ok (.iconst 1, 1) := dk_5 dd_307
theorem dX7_step_237 : decode cX7_step 237 = .ok (.invokevirtual 87, 3) := dk_6 dd_307
theorem dX7_step_240 : decode cX7_step 240 = .ok (.goto 29, 3) := dk_7 dd_307
theorem dX7_step_243 : decode cX7_step 243 = .ok (.aload_n 0, 1) := dk_8 dd_307
theorem dX7_step_244 : decode cX7_step 244 = .ok (.iconst 3, 1) := dk_9 dd_307
theorem dX7_step_245 : decode cX7_step 245 = .ok (.putfield 66, 3) := dk_10 dd_307
theorem dX7_step_248 : decode cX7_step 248 = .ok (.aload_n 0, 1) := dk_11 dd_307
theorem dX7_step_249 : decode cX7_step 249 = .ok (.dup, 1) := dk_12 dd_307
theorem dX7_step_250 : decode cX7_step 250 = .ok (.getfield 69, 3) := dk_13 dd_307
theorem dX7_step_253 : decode cX7_step 253 = .ok (.iconst 1, 1) := dk_14 dd_307
theorem dX7_step_254 : decode cX7_step 254 = .ok (.iadd, 1) := dk_15 dd_307
theorem dd_308 : fd_G cX7_step 255 [(255, .putfield 69, 3), (258, .iload_n 1, 1), (259, .bipush 59, 2), (261, .if_icmp .eq 8, 3), (264, .aload_n 0, 1), (265, .iconst 1, 1), (266, .invokevirtual 87, 3), (269, .return_, 1)] = true := by decide +kernel
theorem dX7_step_255 : decode cX7_step 255 = .ok (.putfield 69, 3) := dk_0 dd_308
theorem dX7_step_258 : decode cX7_step 258 = .ok (.iload_n 1, 1) := dk_1 dd_308
theorem dX7_step_259 : decode cX7_step 259 = .ok (.bipush 59, 2) := dk_2 dd_308
theorem dX7_step_261 : decode cX7_step 261 = .ok (.if_icmp .eq 8, 3) := dk_3 dd_308
theorem dX7_step_264 : decode cX7_step 264 = .ok (.aload_n 0, 1) := dk_4 dd_308
theorem dX7_step_265 : decode cX7_step 265 = .ok (.iconst 1, 1) := dk_5 dd_308
theorem dX7_step_266 : decode cX7_step 266 = .ok (.invokevirtual 87, 3) := dk_6 dd_308
theorem dX7_step_269 : decode cX7_step 269 = .ok (.return_, 1) := dk_7 dd_308
theorem dd_309 : fd_G cX7_number 0 [(0, .aload_n 0, 1), (1, .getfield 57, 3), (4, .ifCond .ne 16, 3), (7, .aload_n 0, 1), (8, .getfield 66, 3), (11, .iconst 2, 1), (12, .if_icmp .eq 8, 3), (15, .aload_n 0, 1), (16, .iconst 2, 1), (17, .invokevirtual 87, 3), (20, .aload_n 0, 1), (21, .getfield 57, 3), (24, .ifCond .ne 23, 3), (27, .aload_n 0, 1), (28, .getfield 76, 3), (31, .i2l, 1)] = true := by decide +kernel
theorem dX7_number_0 : decode cX7_number 0 = .ok (.aload_n 0, 1) := dk_0 dd_309
theorem dX7_number_1 : decode cX7_number 1 = .ok (.getfield 57, 3) := dk_1 dd_309
theorem dX7_number_4 : decode cX7_number 4 = .ok (.ifCond .ne 16, 3) := dk_2 dd_309
theorem dX7_number_7 : decode cX7_number 7 = .ok (.aload_n 0, 1) := dk_3 dd_309
theorem dX7_number_8 : decode cX7_number 8 = .ok (.getfield 66, 3) := dk_4 dd_309
theorem dX7_number_11 : decode cX7_number 11 = .ok (.iconst 2, 1) := dk_5 dd_309
theorem dX7_number_12 : decode cX7_number 12 = .ok (.if_icmp .eq 8, 3) := dk_6 dd_309
theorem dX7_number_15 : decode cX7_number 15 = .ok (.aload_n 0, 1) := dk_7 dd_309
theorem dX7_number_16 : decode cX7_number 16 = .ok (.iconst 2, 1) := dk_8 dd_309
theorem dX7_number_17 : decode cX7_number 17 = .ok (.invokevirtual 87, 3) := dk_9 dd_309
theorem dX7_number_20 : decode cX7_number 20 = .ok (.aload_n 0, 1) := dk_10 dd_309
theorem dX7_number_21 : decode cX7_number 21 = .ok (.getfield 57, 3) := dk_11 dd_309
theorem dX7_number_24 : decode cX7_number 24 = .ok (.ifCond .ne 23, 3) := dk_12 dd_309
theorem dX7_number_27 : decode cX7_number 27 = .ok (.aload_n 0, 1) := dk_13 dd_309
theorem dX7_number_28 : decode cX7_number 28 = .ok (.getfield 76, 3) := dk_14 dd_309
theorem dX7_number_31 : decode cX7_number 31 = .ok (.i2l, 1) := dk_15 dd_309
theorem dd_310 : fd_G cX7_number 32 [(32, .iload_n 1, 1), (33, .i2l, 1), (34, .iload_n 2, 1), (35, .i2l, 1), (36, .invokestatic 49, 3), (39, .ifCond .ne 8, 3), (42, .aload_n 0, 1), (43, .iconst 3, 1), (44, .invokevirtual 87, 3), (47, .aload_n 0, 1), (48, .getfield 57, 3), (51, .ifCond .ne 10, 3), (54, .aload_n 0, 1), (55, .getfield 76, 3), (58, .goto 4, 3), (61, .iload_n 1, 1)] = true := by decide +kernel
theorem dX7_number_32 : decode cX7_number 32 = .ok (.iload_n 1, 1) := dk_0 dd_310
theorem dX7_number_33 : decode cX7_number 33 = .ok (.i2l, 1) := dk_1 dd_310
theorem dX7_number_34 : decode cX7_number 34 = .ok (.iload_n 2, 1) := dk_2 dd_310
theorem dX7_number_35 : decode cX7_number 35 = .ok (.i2l, 1) := dk_3 dd_310
theorem dX7_number_36 : decode cX7_number 36 = .ok (.invokestatic 49, 3) := dk_4 dd_310
theorem dX7_number_39 : decode cX7_number 39 = .ok (.ifCond .ne 8, 3) := dk_5 dd_310
theorem dX7_number_42 : decode cX7_number 42 = .ok (.aload_n 0, 1) := dk_6 dd_310
theorem dX7_number_43 : decode cX7_number 43 = .ok (.iconst 3, 1) := dk_7 dd_310
theorem dX7_number_44 : decode cX7_number 44 = .ok (.invokevirtual 87, 3) := dk_8 dd_310
theorem dX7_number_47 : decode cX7_number 47 = .ok (.aload_n 0, 1) := dk_9 dd_310
theorem dX7_number_48 : decode cX7_number 48 = .ok (.getfield 57, 3) := dk_10 dd_310
theorem dX7_number_51 : decode cX7_number 51 = .ok (.ifCond .ne 10, 3) := dk_11 dd_310
theorem dX7_number_54 : decode cX7_number 54 = .ok (.aload_n 0, 1) := dk_12 dd_310
theorem dX7_number_55 : decode cX7_number 55 = .ok (.getfield 76, 3) := dk_13 dd_310
theorem dX7_number_58 : decode cX7_number 58 = .ok (.goto 4, 3) := dk_14 dd_310
theorem dX7_number_61 : decode cX7_number 61 = .ok (.iload_n 1, 1) := dk_15 dd_310
theorem dd_311 : fd_G cX7_number 62 [(62, .istore_n 3, 1), (63, .aload_n 0, 1), (64, .invokevirtual 91, 3), (67, .iload_n 3, 1), (68, .ireturn, 1)] = true := by decide +kernel
theorem dX7_number_62 : decode cX7_number 62 = .ok (.istore_n 3, 1) := dk_0 dd_311
theorem dX7_number_63 : decode cX7_number 63 = .ok (.aload_n 0, 1) := dk_1 dd_311
theorem dX7_number_64 : decode cX7_number 64 = .ok (.invokevirtual 91, 3) := dk_2 dd_311
theorem dX7_number_67 : decode cX7_number 67 = .ok (.iload_n 3, 1) := dk_3 dd_311
theorem dX7_number_68 : decode cX7_number 68 = .ok (.ireturn, 1) := dk_4 dd_311
theorem dd_312 : fd_G cX7_readPlan 0 [(0, .aload_n 0, 1), (1, .getfield 57, 3), (4, .ifCond .ne 94, 3), (7, .aload_n 0, 1), (8, .getfield 66, 3), (11, .iconst 2, 1), (12, .if_icmp .ne 86, 3), (15, .aload_n 0, 1), (16, .getfield 16, 3), (19, .bipush 27, 2), (21, .iaload, 1), (22, .bipush 8, 2), (24, .if_icmp .ne 11, 3), (27, .aload_n 0, 1), (28, .iconst 5, 1), (29, .invokevirtual 87, 3)] = true := by decide +kernel
theorem dX7_readPlan_0 : decode cX7_readPlan 0 = .ok (.aload_n 0, 1) := dk_0 dd_312
theorem dX7_readPlan_1 : decode cX7_readPlan 1 = .ok (.getfield 57, 3) := dk_1 dd_312
theorem dX7_readPlan_4 : decode cX7_readPlan 4 = .ok (.ifCond .ne 94, 3) := dk_2 dd_312
theorem dX7_readPlan_7 : decode cX7_readPlan 7 = .ok (.aload_n 0, 1) := dk_3 dd_312
theorem dX7_readPlan_8 : decode cX7_readPlan 8 = .ok (.getfield 66, 3) := dk_4 dd_312
theorem dX7_readPlan_11 : decode cX7_readPlan 11 = .ok (.iconst 2, 1) := dk_5 dd_312
theorem dX7_readPlan_12 : decode cX7_readPlan 12 = .ok (.if_icmp .ne 86, 3) := dk_6 dd_312
theorem dX7_readPlan_15 : decode cX7_readPlan 15 = .ok (.aload_n 0, 1) := dk_7 dd_312
theorem dX7_readPlan_16 : decode cX7_readPlan 16 = .ok (.getfield 16, 3) := dk_8 dd_312
theorem dX7_readPlan_19 : decode cX7_readPlan 19 = .ok (.bipush 27, 2) := dk_9 dd_312
theorem dX7_readPlan_21 : decode cX7_readPlan 21 = .ok (.iaload, 1) := dk_10 dd_312
theorem dX7_readPlan_22 : decode cX7_readPlan 22 = .ok (.bipush 8, 2) := dk_11 dd_312
theorem dX7_readPlan_24 : decode cX7_readPlan 24 = .ok (.if_icmp .ne 11, 3) := dk_12 dd_312
theorem dX7_readPlan_27 : decode cX7_readPlan 27 = .ok (.aload_n 0, 1) := dk_13 dd_312
theorem dX7_readPlan_28 : decode cX7_readPlan 28 = .ok (.iconst 5, 1) := dk_14 dd_312
theorem dX7_readPlan_29 : decode cX7_readPlan 29 = .ok (.invokevirtual 87, 3) := dk_15 dd_312
theorem dd_313 : fd_G cX7_readPlan 32 [(32, .goto (-32), 3), (35, .aload_n 0, 1), (36, .iconst 0, 1), (37, .bipush 6, 2), (39, .invokevirtual 94, 3), (42, .istore_n 1, 1), (43, .aload_n 0, 1), (44, .iload_n 1, 1), (45, .iconst 5, 1), (46, .if_icmp .ge 15, 3), (49, .iload_n 1, 1), (50, .aload_n 0, 1), (51, .getfield 98, 3), (54, .if_icmp .le 7, 3), (57, .iload_n 1, 1), (58, .goto 7, 3)] = true := by decide +kernel
theorem dX7_readPlan_32 : decode cX7_readPlan 32 = .ok (.goto (-32), 3) := dk_0 dd_313
theorem dX7_readPlan_35 : decode cX7_readPlan 35 = .ok (.aload_n 0, 1) := dk_1 dd_313
theorem dX7_readPlan_36 : decode cX7_readPlan 36 = .ok (.iconst 0, 1) := dk_2 dd_313
theorem dX7_readPlan_37 : decode cX7_readPlan 37 = .ok (.bipush 6, 2) := dk_3 dd_313
theorem dX7_readPlan_39 : decode cX7_readPlan 39 = .ok (.invokevirtual 94, 3) := dk_4 dd_313
theorem dX7_readPlan_42 : decode cX7_readPlan 42 = .ok (.istore_n 1, 1) := dk_5 dd_313
theorem dX7_readPlan_43 : decode cX7_readPlan 43 = .ok (.aload_n 0, 1) := dk_6 dd_313
theorem dX7_readPlan_44 : decode cX7_readPlan 44 = .ok (.iload_n 1, 1) := dk_7 dd_313
theorem dX7_readPlan_45 : decode cX7_readPlan 45 = .ok (.iconst 5, 1) := dk_8 dd_313
theorem dX7_readPlan_46 : decode cX7_readPlan 46 = .ok (.if_icmp .ge 15, 3) := dk_9 dd_313
theorem dX7_readPlan_49 : decode cX7_readPlan 49 = .ok (.iload_n 1, 1) := dk_10 dd_313
theorem dX7_readPlan_50 : decode cX7_readPlan 50 = .ok (.aload_n 0, 1) := dk_11 dd_313
theorem dX7_readPlan_51 : decode cX7_readPlan 51 = .ok (.getfield 98, 3) := dk_12 dd_313
theorem dX7_readPlan_54 : decode cX7_readPlan 54 = .ok (.if_icmp .le 7, 3) := dk_13 dd_313
theorem dX7_readPlan_57 : decode cX7_readPlan 57 = .ok (.iload_n 1, 1) := dk_14 dd_313
theorem dX7_readPlan_58 : decode cX7_readPlan 58 = .ok (.goto 7, 3) := dk_15 dd_313
theorem dd_314 : fd_G cX7_readPlan 61 [(61, .aload_n 0, 1), (62, .getfield 98, 3), (65, .putfield 98, 3), (68, .aload_n 0, 1), (69, .getfield 16, 3), (72, .bipush 19, 2), (74, .aload_n 0, 1), (75, .getfield 16, 3), (78, .bipush 27, 2), (80, .iaload, 1), (81, .iadd, 1), (82, .iload_n 1, 1), (83, .iastore, 1), (84, .aload_n 0, 1), (85, .getfield 16, 3), (88, .bipush 27, 2)] = true := by decide +kernel
theorem dX7_readPlan_61 : decode cX7_readPlan 61 = .ok (.aload_n 0, 1) := dk_0 dd_314
theorem dX7_readPlan_62 : decode cX7_readPlan 62 = .ok (.getfield 98, 3) := dk_1 dd_314
theorem dX7_readPlan_65 : decode cX7_readPlan 65 = .ok (.putfield 98, 3) := dk_2 dd_314
theorem dX7_readPlan_68 : decode cX7_readPlan 68 = .ok (.aload_n 0, 1) := dk_3 dd_314
theorem dX7_readPlan_69 : decode cX7_readPlan 69 = .ok (.getfield 16, 3) := dk_4 dd_314
theorem dX7_readPlan_72 : decode cX7_readPlan 72 = .ok (.bipush 19, 2) := dk_5 dd_314
theorem dX7_readPlan_74 : decode cX7_readPlan 74 = .ok (.aload_n 0, 1) := dk_6 dd_314
theorem dX7_readPlan_75 : decode cX7_readPlan 75 = .ok (.getfield 16, 3) := dk_7 dd_314
theorem dX7_readPlan_78 : decode cX7_readPlan 78 = .ok (.bipush 27, 2) := dk_8 dd_314
theorem dX7_readPlan_80 : decode cX7_readPlan 80 = .ok (.iaload, 1) := dk_9 dd_314
theorem dX7_readPlan_81 : decode cX7_readPlan 81 = .ok (.iadd, 1) := dk_10 dd_314
theorem dX7_readPlan_82 : decode cX7_readPlan 82 = .ok (.iload_n 1, 1) := dk_11 dd_314
theorem dX7_readPlan_83 : decode cX7_readPlan 83 = .ok (.iastore, 1) := dk_12 dd_314
theorem dX7_readPlan_84 : decode cX7_readPlan 84 = .ok (.aload_n 0, 1) := dk_13 dd_314
theorem dX7_readPlan_85 : decode cX7_readPlan 85 = .ok (.getfield 16, 3) := dk_14 dd_314
theorem dX7_readPlan_88 : decode cX7_readPlan 88 = .ok (.bipush 27, 2) := dk_15 dd_314
theorem dX7_readPlan_90 : decode cX7_readPlan 90 = .ok (.dup2, 1) := by decide +kernel
theorem dd_315 : fd_G cX7_readPlan 91 [(91, .iaload, 1), (92, .iconst 1, 1), (93, .iadd, 1), (94, .iastore, 1), (95, .goto (-95), 3), (98, .return_, 1)] = true := by decide +kernel
theorem dX7_readPlan_91 : decode cX7_readPlan 91 = .ok (.iaload, 1) := dk_0 dd_315
theorem dX7_readPlan_92 : decode cX7_readPlan 92 = .ok (.iconst 1, 1) := dk_1 dd_315
theorem dX7_readPlan_93 : decode cX7_readPlan 93 = .ok (.iadd, 1) := dk_2 dd_315
theorem dX7_readPlan_94 : decode cX7_readPlan 94 = .ok (.iastore, 1) := dk_3 dd_315
theorem dX7_readPlan_95 : decode cX7_readPlan 95 = .ok (.goto (-95), 3) := dk_4 dd_315
theorem dX7_readPlan_98 : decode cX7_readPlan 98 = .ok (.return_, 1) := dk_5 dd_315
theorem dd_316 : fd_G cX7_readMore 0 [(0, .iload_n 1, 1), (1, .iconst 3, 1), (2, .if_icmp .gt 52, 3), (5, .aload_n 0, 1), (6, .getfield 16, 3), (9, .aload_n 0, 1), (10, .getfield 101, 3), (13, .iload_n 1, 1), (14, .iastore, 1), (15, .aload_n 0, 1), (16, .getfield 66, 3), (19, .iconst 2, 1), (20, .if_icmp .ne 21, 3), (23, .aload_n 0, 1), (24, .getfield 16, 3), (27, .iconst 5, 1)] = true := by decide +kernel
theorem dX7_readMore_0 : decode cX7_readMore 0 = .ok (.iload_n 1, 1) := dk_0 dd_316
theorem dX7_readMore_1 : decode cX7_readMore 1 = .ok (.iconst 3, 1) := dk_1 dd_316
theorem dX7_readMore_2 : decode cX7_readMore 2 = .ok (.if_icmp .gt 52, 3) := dk_2 dd_316
theorem dX7_readMore_5 : decode cX7_readMore 5 = .ok (.aload_n 0, 1) := dk_3 dd_316
theorem dX7_readMore_6 : decode cX7_readMore 6 = .ok (.getfield 16, 3) := dk_4 dd_316
theorem dX7_readMore_9 : decode cX7_readMore 9 = .ok (.aload_n 0, 1) := dk_5 dd_316
theorem dX7_readMore_10 : decode cX7_readMore 10 = .ok (.getfield 101, 3) := dk_6 dd_316
theorem dX7_readMore_13 : decode cX7_readMore 13 = .ok (.iload_n 1, 1) := dk_7 dd_316
theorem dX7_readMore_14 : decode cX7_readMore 14 = .ok (.iastore, 1) := dk_8 dd_316
theorem dX7_readMore_15 : decode cX7_readMore 15 = .ok (.aload_n 0, 1) := dk_9 dd_316
theorem dX7_readMore_16 : decode cX7_readMore 16 = .ok (.getfield 66, 3) := dk_10 dd_316
theorem dX7_readMore_19 : decode cX7_readMore 19 = .ok (.iconst 2, 1) := dk_11 dd_316
theorem dX7_readMore_20 : decode cX7_readMore 20 = .ok (.if_icmp .ne 21, 3) := dk_12 dd_316
theorem dX7_readMore_23 : decode cX7_readMore 23 = .ok (.aload_n 0, 1) := dk_13 dd_316
theorem dX7_readMore_24 : decode cX7_readMore 24 = .ok (.getfield 16, 3) := dk_14 dd_316
theorem dX7_readMore_27 : decode cX7_readMore 27 = .ok (.iconst 5, 1) := dk_15 dd_316
theorem dd_317 : fd_G cX7_readMore 28 [(28, .aload_n 0, 1), (29, .getfield 101, 3), (32, .iadd, 1), (33, .aload_n 0, 1), (34, .iconst 0, 1), (35, .bipush 40, 2), (37, .invokevirtual 94, 3), (40, .iastore, 1), (41, .aload_n 0, 1), (42, .dup, 1), (43, .getfield 101, 3), (46, .iconst 1, 1), (47, .iadd, 1), (48, .putfield 101, 3), (51, .goto 54, 3), (54, .iload_n 1, 1)] = true := by decide +kernel
theorem dX7_readMore_28 : decode cX7_readMore 28 = .ok (.aload_n 0, 1) := dk_0 dd_317
theorem dX7_readMore_29 : decode cX7_readMore 29 = .ok (.getfield 101, 3) := dk_1 dd_317
theorem dX7_readMore_32 : decode cX7_readMore 32 = .ok (.iadd, 1) := dk_2 dd_317
theorem dX7_readMore_33 : decode cX7_readMore 33 = .ok (.aload_n 0, 1) := dk_3 dd_317
theorem dX7_readMore_34 : decode cX7_readMore 34 = .ok (.iconst 0, 1) := dk_4 dd_317
theorem dX7_readMore_35 : decode cX7_readMore 35 = .ok (.bipush 40, 2) := dk_5 dd_317
theorem dX7_readMore_37 : decode cX7_readMore 37 = .ok (.invokevirtual 94, 3) := dk_6 dd_317
theorem dX7_readMore_40 : decode cX7_readMore 40 = .ok (.iastore, 1) := dk_7 dd_317
theorem dX7_readMore_41 : decode cX7_readMore 41 = .ok (.aload_n 0, 1) := dk_8 dd_317
theorem dX7_readMore_42 : decode cX7_readMore 42 = .ok (.dup, 1) := dk_9 dd_317
theorem dX7_readMore_43 : decode cX7_readMore 43 = .ok (.getfield 101, 3) := dk_10 dd_317
theorem dX7_readMore_46 : decode cX7_readMore 46 = .ok (.iconst 1, 1) := dk_11 dd_317
theorem dX7_readMore_47 : decode cX7_readMore 47 = .ok (.iadd, 1) := dk_12 dd_317
theorem dX7_readMore_48 : decode cX7_readMore 48 = .ok (.putfield 101, 3) := dk_13 dd_317
theorem dX7_readMore_51 : decode cX7_readMore 51 = .ok (.goto 54, 3) := dk_14 dd_317
theorem dX7_readMore_54 : decode cX7_readMore 54 = .ok (.iload_n 1, 1) := dk_15 dd_317
theorem dd_318 : fd_G cX7_readMore 55 [(55, .iconst 4, 1), (56, .if_icmp .ne 21, 3), (59, .aload_n 0, 1), (60, .getfield 16, 3), (63, .bipush 17, 2), (65, .aload_n 0, 1), (66, .iconst 1, 1), (67, .iconst 5, 1), (68, .invokevirtual 94, 3), (71, .iconst 2, 1), (72, .isub, 1), (73, .iastore, 1), (74, .goto 31, 3), (77, .iload_n 1, 1), (78, .iconst 5, 1), (79, .if_icmp .ne 22, 3)] = true := by decide +kernel
theorem dX7_readMore_55 : decode cX7_readMore 55 = .ok (.iconst 4, 1) := dk_0 dd_318
theorem dX7_readMore_56 : decode cX7_readMore 56 = .ok (.if_icmp .ne 21, 3) := dk_1 dd_318
theorem dX7_readMore_59 : decode cX7_readMore 59 = .ok (.aload_n 0, 1) := dk_2 dd_318
theorem dX7_readMore_60 : decode cX7_readMore 60 = .ok (.getfield 16, 3) := dk_3 dd_318
theorem dX7_readMore_63 : decode cX7_readMore 63 = .ok (.bipush 17, 2) := dk_4 dd_318
theorem dX7_readMore_65 : decode cX7_readMore 65 = .ok (.aload_n 0, 1) := dk_5 dd_318
theorem dX7_readMore_66 : decode cX7_readMore 66 = .ok (.iconst 1, 1) := dk_6 dd_318
theorem dX7_readMore_67 : decode cX7_readMore 67 = .ok (.iconst 5, 1) := dk_7 dd_318
theorem dX7_readMore_68 : decode cX7_readMore 68 = .ok (.invokevirtual 94, 3) := dk_8 dd_318
theorem dX7_readMore_71 : decode cX7_readMore 71 = .ok (.iconst 2, 1) := dk_9 dd_318
theorem dX7_readMore_72 : decode cX7_readMore 72 = .ok (.isub, 1) := dk_10 dd_318
theorem dX7_readMore_73 : decode cX7_readMore 73 = .ok (.iastore, 1) := dk_11 dd_318
theorem dX7_readMore_74 : decode cX7_readMore 74 = .ok (.goto 31, 3) := dk_12 dd_318
theorem dX7_readMore_77 : decode cX7_readMore 77 = .ok (.iload_n 1, 1) := dk_13 dd_318
theorem dX7_readMore_78 : decode cX7_readMore 78 = .ok (.iconst 5, 1) := dk_14 dd_318
theorem dX7_readMore_79 : decode cX7_readMore 79 = .ok (.if_icmp .ne 22, 3) := dk_15 dd_318
theorem dd_319 : fd_G cX7_readMore 82 [(82, .aload_n 0, 1), (83, .getfield 16, 3), (86, .bipush 18, 2), (88, .aload_n 0, 1), (89, .iconst 1, 1), (90, .bipush 9, 2), (92, .invokevirtual 94, 3), (95, .iconst 4, 1), (96, .isub, 1), (97, .iastore, 1), (98, .goto 7, 3), (101, .aload_n 0, 1), (102, .invokevirtual 104, 3), (105, .return_, 1)] = true := by decide +kernel
theorem dX7_readMore_82 : decode cX7_readMore 82 = .ok (.aload_n 0, 1) := dk_0 dd_319
theorem dX7_readMore_83 : decode cX7_readMore 83 = .ok (.getfield 16, 3) := dk_1 dd_319
theorem dX7_readMore_86 : decode cX7_readMore 86 = .ok (.bipush 18, 2) := dk_2 dd_319
theorem dX7_readMore_88 : decode cX7_readMore 88 = .ok (.aload_n 0, 1) := dk_3 dd_319
theorem dX7_readMore_89 : decode cX7_readMore 89 = .ok (.iconst 1, 1) := dk_4 dd_319
theorem dX7_readMore_90 : decode cX7_readMore 90 = .ok (.bipush 9, 2) := dk_5 dd_319
theorem dX7_readMore_92 : decode cX7_readMore 92 = .ok (.invokevirtual 94, 3) := dk_6 dd_319
theorem dX7_readMore_95 : decode cX7_readMore 95 = .ok (.iconst 4, 1) := dk_7 dd_319
theorem dX7_readMore_96 : decode cX7_readMore 96 = .ok (.isub, 1) := dk_8 dd_319
theorem dX7_readMore_97 : decode cX7_readMore 97 = .ok (.iastore, 1) := dk_9 dd_319
theorem dX7_readMore_98 : decode cX7_readMore 98 = .ok (.goto 7, 3) := dk_10 dd_319
theorem dX7_readMore_101 : decode cX7_readMore 101 = .ok (.aload_n 0, 1) := dk_11 dd_319
theorem dX7_readMore_102 : decode cX7_readMore 102 = .ok (.invokevirtual 104, 3) := dk_12 dd_319
theorem dX7_readMore_105 : decode cX7_readMore 105 = .ok (.return_, 1) := dk_13 dd_319
theorem dd_320 : fd_G cX7_readLine 0 [(0, .aload_n 0, 1), (1, .invokevirtual 107, 3), (4, .istore_n 1, 1), (5, .iload_n 1, 1), (6, .i2l, 1), (7, .lconst 0, 1), (8, .ldc2_w 111, 3), (11, .invokestatic 49, 3), (14, .ifCond .ne 9, 3), (17, .aload_n 0, 1), (18, .iconst 2, 1), (19, .invokevirtual 87, 3), (22, .return_, 1), (23, .iload_n 1, 1), (24, .iconst 3, 1), (25, .if_icmp .gt 16, 3)] = true := by decide +kernel
theorem dX7_readLine_0 : decode cX7_readLine 0 = .ok (.aload_n 0, 1) := dk_0 dd_320
theorem dX7_readLine_1 : decode cX7_readLine 1 = .ok (.invokevirtual 107, 3) := dk_1 dd_320
theorem dX7_readLine_4 : decode cX7_readLine 4 = .ok (.istore_n 1, 1) := dk_2 dd_320
theorem dX7_readLine_5 : decode cX7_readLine 5 = .ok (.iload_n 1, 1) := dk_3 dd_320
theorem dX7_readLine_6 : decode cX7_readLine 6 = .ok (.i2l, 1) := dk_4 dd_320
theorem dX7_readLine_7 : decode cX7_readLine 7 = .ok (.lconst 0, 1) := dk_5 dd_320
theorem dX7_readLine_8 : decode cX7_readLine 8 = .ok (.ldc2_w 111, 3) := dk_6 dd_320
theorem dX7_readLine_11 : decode cX7_readLine 11 = .ok (.invokestatic 49, 3) := dk_7 dd_320
theorem dX7_readLine_14 : decode cX7_readLine 14 = .ok (.ifCond .ne 9, 3) := dk_8 dd_320
theorem dX7_readLine_17 : decode cX7_readLine 17 = .ok (.aload_n 0, 1) := dk_9 dd_320
theorem dX7_readLine_18 : decode cX7_readLine 18 = .ok (.iconst 2, 1) := dk_10 dd_320
theorem dX7_readLine_19 : decode cX7_readLine 19 = .ok (.invokevirtual 87, 3) := dk_11 dd_320
theorem dX7_readLine_22 : decode cX7_readLine 22 = .ok (.return_, 1) := dk_12 dd_320
theorem dX7_readLine_23 : decode cX7_readLine 23 = .ok (.iload_n 1, 1) := dk_13 dd_320
theorem dX7_readLine_24 : decode cX7_readLine 24 = .ok (.iconst 3, 1) := dk_14 dd_320
theorem dX7_readLine_25 : decode cX7_readLine 25 = .ok (.if_icmp .gt 16, 3) := dk_15 dd_320
theorem dd_321 : fd_G cX7_readLine 28 [(28, .aload_n 0, 1), (29, .getfield 101, 3), (32, .iconst 5, 1), (33, .if_icmp .ne 8, 3), (36, .aload_n 0, 1), (37, .iconst 5, 1), (38, .invokevirtual 87, 3), (41, .iload_n 1, 1), (42, .iconst 4, 1), (43, .if_icmp .lt 20, 3), (46, .aload_n 0, 1), (47, .getfield 113, 3), (50, .iload_n 1, 1), (51, .ishr, 1), (52, .iconst 1, 1), (53, .iand, 1)] = true := by decide +kernel
theorem dX7_readLine_28 : decode cX7_readLine 28 = .ok (.aload_n 0, 1) := dk_0 dd_321
theorem dX7_readLine_29 : decode cX7_readLine 29 = .ok (.getfield 101, 3) := dk_1 dd_321
theorem dX7_readLine_32 : decode cX7_readLine 32 = .ok (.iconst 5, 1) := dk_2 dd_321
theorem dX7_readLine_33 : decode cX7_readLine 33 = .ok (.if_icmp .ne 8, 3) := dk_3 dd_321
theorem dX7_readLine_36 : decode cX7_readLine 36 = .ok (.aload_n 0, 1) := dk_4 dd_321
theorem dX7_readLine_37 : decode cX7_readLine 37 = .ok (.iconst 5, 1) := dk_5 dd_321
theorem dX7_readLine_38 : decode cX7_readLine 38 = .ok (.invokevirtual 87, 3) := dk_6 dd_321
theorem dX7_readLine_41 : decode cX7_readLine 41 = .ok (.iload_n 1, 1) := dk_7 dd_321
theorem dX7_readLine_42 : decode cX7_readLine 42 = .ok (.iconst 4, 1) := dk_8 dd_321
theorem dX7_readLine_43 : decode cX7_readLine 43 = .ok (.if_icmp .lt 20, 3) := dk_9 dd_321
theorem dX7_readLine_46 : decode cX7_readLine 46 = .ok (.aload_n 0, 1) := dk_10 dd_321
theorem dX7_readLine_47 : decode cX7_readLine 47 = .ok (.getfield 113, 3) := dk_11 dd_321
theorem dX7_readLine_50 : decode cX7_readLine 50 = .ok (.iload_n 1, 1) := dk_12 dd_321
theorem dX7_readLine_51 : decode cX7_readLine 51 = .ok (.ishr, 1) := dk_13 dd_321
theorem dX7_readLine_52 : decode cX7_readLine 52 = .ok (.iconst 1, 1) := dk_14 dd_321
theorem dX7_readLine_53 : decode cX7_readLine 53 = .ok (.iand, 1) := dk_15 dd_321
theorem dd_322 : fd_G cX7_readLine 54 [(54, .iconst 1, 1), (55, .if_icmp .ne 8, 3), (58, .aload_n 0, 1), (59, .iconst 4, 1), (60, .invokevirtual 87, 3), (63, .aload_n 0, 1), (64, .dup, 1), (65, .getfield 113, 3), (68, .iconst 1, 1), (69, .iload_n 1, 1), (70, .ishl, 1), (71, .ior, 1), (72, .putfield 113, 3), (75, .aload_n 0, 1), (76, .invokevirtual 91, 3), (79, .aload_n 0, 1)] = true := by decide +kernel
theorem dX7_readLine_54 : decode cX7_readLine 54 = .ok (.iconst 1, 1) := dk_0 dd_322
theorem dX7_readLine_55 : decode cX7_readLine 55 = .ok (.if_icmp .ne 8, 3) := dk_1 dd_322
theorem dX7_readLine_58 : decode cX7_readLine 58 = .ok (.aload_n 0, 1) := dk_2 dd_322
theorem dX7_readLine_59 : decode cX7_readLine 59 = .ok (.iconst 4, 1) := dk_3 dd_322
theorem dX7_readLine_60 : decode cX7_readLine 60 = .ok (.invokevirtual 87, 3) := dk_4 dd_322
theorem dX7_readLine_63 : decode cX7_readLine 63 = .ok (.aload_n 0, 1) := dk_5 dd_322
theorem dX7_readLine_64 : decode cX7_readLine 64 = .ok (.dup, 1) := dk_6 dd_322
theorem dX7_readLine_65 : decode cX7_readLine 65 = .ok (.getfield 113, 3) := dk_7 dd_322
theorem dX7_readLine_68 : decode cX7_readLine 68 = .ok (.iconst 1, 1) := dk_8 dd_322
theorem dX7_readLine_69 : decode cX7_readLine 69 = .ok (.iload_n 1, 1) := dk_9 dd_322
theorem dX7_readLine_70 : decode cX7_readLine 70 = .ok (.ishl, 1) := dk_10 dd_322
theorem dX7_readLine_71 : decode cX7_readLine 71 = .ok (.ior, 1) := dk_11 dd_322
theorem dX7_readLine_72 : decode cX7_readLine 72 = .ok (.putfield 113, 3) := dk_12 dd_322
theorem dX7_readLine_75 : decode cX7_readLine 75 = .ok (.aload_n 0, 1) := dk_13 dd_322
theorem dX7_readLine_76 : decode cX7_readLine 76 = .ok (.invokevirtual 91, 3) := dk_14 dd_322
theorem dX7_readLine_79 : decode cX7_readLine 79 = .ok (.aload_n 0, 1) := dk_15 dd_322
theorem dX7_readLine_83 : decode cX7_readLine 83 = .ok (.ifCond .le 4, 3) := by decide +kernel
theorem dd_323 : fd_G cX7_readLine 80 [(80, .getfield 57, 3), (86, .return_, 1), (87, .aload_n 0, 1), (88, .iload_n 1, 1), (89, .invokevirtual 116, 3), (92, .aload_n 0, 1), (93, .getfield 57, 3), (96, .ifCond .ne 16, 3), (99, .aload_n 0, 1), (100, .getfield 66, 3), (103, .iconst 3, 1), (104, .if_icmp .eq 8, 3), (107, .aload_n 0, 1), (108, .iconst 2, 1), (109, .invokevirtual 87, 3), (112, .aload_n 0, 1)] = true := by decide +kernel
theorem dX7_readLine_80 : decode cX7_readLine 80 = .ok (.getfield 57, 3) := dk_0 dd_323
theorem dX7_readLine_86 : decode cX7_readLine 86 = .ok (.return_, 1) := dk_1 dd_323
theorem dX7_readLine_87 : decode cX7_readLine 87 = .ok (.aload_n 0, 1) := dk_2 dd_323
theorem dX7_readLine_88 : decode cX7_readLine 88 = .ok (.iload_n 1, 1) := dk_3 dd_323
theorem dX7_readLine_89 : decode cX7_readLine 89 = .ok (.invokevirtual 116, 3) := dk_4 dd_323
theorem dX7_readLine_92 : decode cX7_readLine 92 = .ok (.aload_n 0, 1) := dk_5 dd_323
theorem dX7_readLine_93 : decode cX7_readLine 93 = .ok (.getfield 57, 3) := dk_6 dd_323
theorem dX7_readLine_96 : decode cX7_readLine 96 = .ok (.ifCond .ne 16, 3) := dk_7 dd_323
theorem dX7_readLine_99 : decode cX7_readLine 99 = .ok (.aload_n 0, 1) := dk_8 dd_323
theorem dX7_readLine_100 : decode cX7_readLine 100 = .ok (.getfield 66, 3) := dk_9 dd_323
theorem dX7_readLine_103 : decode cX7_readLine 103 = .ok (.iconst 3, 1) := dk_10 dd_323
theorem dX7_readLine_104 : decode cX7_readLine 104 = .ok (.if_icmp .eq 8, 3) := dk_11 dd_323
theorem dX7_readLine_107 : decode cX7_readLine 107 = .ok (.aload_n 0, 1) := dk_12 dd_323
theorem dX7_readLine_108 : decode cX7_readLine 108 = .ok (.iconst 2, 1) := dk_13 dd_323
theorem dX7_readLine_109 : decode cX7_readLine 109 = .ok (.invokevirtual 87, 3) := dk_14 dd_323
theorem dX7_readLine_112 : decode cX7_readLine 112 = .ok (.aload_n 0, 1) := dk_15 dd_323
theorem dd_324 : fd_G cX7_readLine 113 [(113, .invokevirtual 91, 3), (116, .return_, 1)] = true := by decide +kernel
theorem dX7_readLine_113 : decode cX7_readLine 113 = .ok (.invokevirtual 91, 3) := dk_0 dd_324
theorem dX7_readLine_116 : decode cX7_readLine 116 = .ok (.return_, 1) := dk_1 dd_324
theorem dd_325 : fd_G cX7_text 0 [(0, .aload_n 0, 1), (1, .iconst 0, 1), (2, .putfield 57, 3), (5, .aload_n 0, 1), (6, .iconst 0, 1), (7, .putfield 69, 3), (10, .aload_n 0, 1), (11, .iconst 0, 1), (12, .putfield 101, 3), (15, .aload_n 0, 1), (16, .iconst 0, 1), (17, .putfield 113, 3), (20, .aload_n 0, 1), (21, .iconst (-1), 1), (22, .putfield 98, 3), (25, .iconst 0, 1)] = true := by decide +kernel
theorem dX7_text_0 : decode cX7_text 0 = .ok (.aload_n 0, 1) := dk_0 dd_325
theorem dX7_text_1 : decode cX7_text 1 = .ok (.iconst 0, 1) := dk_1 dd_325
theorem dX7_text_2 : decode cX7_text 2 = .ok (.putfield 57, 3) := dk_2 dd_325
theorem dX7_text_5 : decode cX7_text 5 = .ok (.aload_n 0, 1) := dk_3 dd_325
theorem dX7_text_6 : decode cX7_text 6 = .ok (.iconst 0, 1) := dk_4 dd_325
theorem dX7_text_7 : decode cX7_text 7 = .ok (.putfield 69, 3) := dk_5 dd_325
theorem dX7_text_10 : decode cX7_text 10 = .ok (.aload_n 0, 1) := dk_6 dd_325
theorem dX7_text_11 : decode cX7_text 11 = .ok (.iconst 0, 1) := dk_7 dd_325
theorem dX7_text_12 : decode cX7_text 12 = .ok (.putfield 101, 3) := dk_8 dd_325
theorem dX7_text_15 : decode cX7_text 15 = .ok (.aload_n 0, 1) := dk_9 dd_325
theorem dX7_text_16 : decode cX7_text 16 = .ok (.iconst 0, 1) := dk_10 dd_325
theorem dX7_text_17 : decode cX7_text 17 = .ok (.putfield 113, 3) := dk_11 dd_325
theorem dX7_text_20 : decode cX7_text 20 = .ok (.aload_n 0, 1) := dk_12 dd_325
theorem dX7_text_21 : decode cX7_text 21 = .ok (.iconst (-1), 1) := dk_13 dd_325
theorem dX7_text_22 : decode cX7_text 22 = .ok (.putfield 98, 3) := dk_14 dd_325
theorem dX7_text_25 : decode cX7_text 25 = .ok (.iconst 0, 1) := dk_15 dd_325
theorem dd_326 : fd_G cX7_text 26 [(26, .istore_n 1, 1), (27, .iconst 0, 1), (28, .istore_n 2, 1), (29, .iload_n 2, 1), (30, .bipush 28, 2), (32, .if_icmp .ge 16, 3), (35, .aload_n 0, 1), (36, .getfield 16, 3), (39, .iload_n 2, 1), (40, .iconst 0, 1), (41, .iastore, 1), (42, .iinc 2 1, 3), (45, .goto (-16), 3), (48, .aload_n 0, 1), (49, .invokevirtual 91, 3), (52, .aload_n 0, 1)] = true := by decide +kernel
theorem dX7_text_26 : decode cX7_text 26 = .ok (.istore_n 1, 1) := dk_0 dd_326
theorem dX7_text_27 : decode cX7_text 27 = .ok (.iconst 0, 1) := dk_1 dd_326
theorem dX7_text_28 : decode cX7_text 28 = .ok (.istore_n 2, 1) := dk_2 dd_326
theorem dX7_text_29 : decode cX7_text 29 = .ok (.iload_n 2, 1) := dk_3 dd_326
theorem dX7_text_30 : decode cX7_text 30 = .ok (.bipush 28, 2) := dk_4 dd_326
theorem dX7_text_32 : decode cX7_text 32 = .ok (.if_icmp .ge 16, 3) := dk_5 dd_326
theorem dX7_text_35 : decode cX7_text 35 = .ok (.aload_n 0, 1) := dk_6 dd_326
theorem dX7_text_36 : decode cX7_text 36 = .ok (.getfield 16, 3) := dk_7 dd_326
theorem dX7_text_39 : decode cX7_text 39 = .ok (.iload_n 2, 1) := dk_8 dd_326
theorem dX7_text_40 : decode cX7_text 40 = .ok (.iconst 0, 1) := dk_9 dd_326
theorem dX7_text_41 : decode cX7_text 41 = .ok (.iastore, 1) := dk_10 dd_326
theorem dX7_text_42 : decode cX7_text 42 = .ok (.iinc 2 1, 3) := dk_11 dd_326
theorem dX7_text_45 : decode cX7_text 45 = .ok (.goto (-16), 3) := dk_12 dd_326
theorem dX7_text_48 : decode cX7_text 48 = .ok (.aload_n 0, 1) := dk_13 dd_326
theorem dX7_text_49 : decode cX7_text 49 = .ok (.invokevirtual 91, 3) := dk_14 dd_326
theorem dX7_text_52 : decode cX7_text 52 = .ok (.aload_n 0, 1) := dk_15 dd_326
theorem dd_327 : fd_G cX7_text 53 [(53, .getfield 57, 3), (56, .ifCond .ne 20, 3), (59, .aload_n 0, 1), (60, .getfield 66, 3), (63, .ifCond .eq 13, 3), (66, .aload_n 0, 1), (67, .invokevirtual 119, 3), (70, .iinc 1 1, 3), (73, .goto (-21), 3), (76, .aload_n 0, 1), (77, .getfield 57, 3), (80, .ifCond .ne 20, 3), (83, .aload_n 0, 1), (84, .getfield 98, 3), (87, .aload_n 0, 1), (88, .getfield 101, 3)] = true := by decide +kernel
theorem dX7_text_53 : decode cX7_text 53 = .ok (.getfield 57, 3) := dk_0 dd_327
theorem dX7_text_56 : decode cX7_text 56 = .ok (.ifCond .ne 20, 3) := dk_1 dd_327
theorem dX7_text_59 : decode cX7_text 59 = .ok (.aload_n 0, 1) := dk_2 dd_327
theorem dX7_text_60 : decode cX7_text 60 = .ok (.getfield 66, 3) := dk_3 dd_327
theorem dX7_text_63 : decode cX7_text 63 = .ok (.ifCond .eq 13, 3) := dk_4 dd_327
theorem dX7_text_66 : decode cX7_text 66 = .ok (.aload_n 0, 1) := dk_5 dd_327
theorem dX7_text_67 : decode cX7_text 67 = .ok (.invokevirtual 119, 3) := dk_6 dd_327
theorem dX7_text_70 : decode cX7_text 70 = .ok (.iinc 1 1, 3) := dk_7 dd_327
theorem dX7_text_73 : decode cX7_text 73 = .ok (.goto (-21), 3) := dk_8 dd_327
theorem dX7_text_76 : decode cX7_text 76 = .ok (.aload_n 0, 1) := dk_9 dd_327
theorem dX7_text_77 : decode cX7_text 77 = .ok (.getfield 57, 3) := dk_10 dd_327
theorem dX7_text_80 : decode cX7_text 80 = .ok (.ifCond .ne 20, 3) := dk_11 dd_327
theorem dX7_text_83 : decode cX7_text 83 = .ok (.aload_n 0, 1) := dk_12 dd_327
theorem dX7_text_84 : decode cX7_text 84 = .ok (.getfield 98, 3) := dk_13 dd_327
theorem dX7_text_87 : decode cX7_text 87 = .ok (.aload_n 0, 1) := dk_14 dd_327
theorem dX7_text_88 : decode cX7_text 88 = .ok (.getfield 101, 3) := dk_15 dd_327
theorem dX7_text_117 : decode cX7_text 117 = .ok (.ifCond .le 11, 3) := by decide +kernel
theorem dd_328 : fd_G cX7_text 91 [(91, .if_icmp .lt 9, 3), (94, .aload_n 0, 1), (95, .bipush 6, 2), (97, .invokevirtual 87, 3), (100, .aload_n 0, 1), (101, .iconst 0, 1), (102, .putfield 53, 3), (105, .aload_n 0, 1), (106, .aload_n 0, 1), (107, .getfield 57, 3), (110, .putfield 122, 3), (113, .aload_n 0, 1), (114, .getfield 57, 3), (120, .bipush (-10), 2), (122, .aload_n 0, 1), (123, .getfield 63, 3)] = true := by decide +kernel
theorem dX7_text_91 : decode cX7_text 91 = .ok (.if_icmp .lt 9, 3) := dk_0 dd_328
theorem dX7_text_94 : decode cX7_text 94 = .ok (.aload_n 0, 1) := dk_1 dd_328
theorem dX7_text_95 : decode cX7_text 95 = .ok (.bipush 6, 2) := dk_2 dd_328
theorem dX7_text_97 : decode cX7_text 97 = .ok (.invokevirtual 87, 3) := dk_3 dd_328
theorem dX7_text_100 : decode cX7_text 100 = .ok (.aload_n 0, 1) := dk_4 dd_328
theorem dX7_text_101 : decode cX7_text 101 = .ok (.iconst 0, 1) := dk_5 dd_328
theorem dX7_text_102 : decode cX7_text 102 = .ok (.putfield 53, 3) := dk_6 dd_328
theorem dX7_text_105 : decode cX7_text 105 = .ok (.aload_n 0, 1) := dk_7 dd_328
theorem dX7_text_106 : decode cX7_text 106 = .ok (.aload_n 0, 1) := dk_8 dd_328
theorem dX7_text_107 : decode cX7_text 107 = .ok (.getfield 57, 3) := dk_9 dd_328
theorem dX7_text_110 : decode cX7_text 110 = .ok (.putfield 122, 3) := dk_10 dd_328
theorem dX7_text_113 : decode cX7_text 113 = .ok (.aload_n 0, 1) := dk_11 dd_328
theorem dX7_text_114 : decode cX7_text 114 = .ok (.getfield 57, 3) := dk_12 dd_328
theorem dX7_text_120 : decode cX7_text 120 = .ok (.bipush (-10), 2) := dk_13 dd_328
theorem dX7_text_122 : decode cX7_text 122 = .ok (.aload_n 0, 1) := dk_14 dd_328
theorem dX7_text_123 : decode cX7_text 123 = .ok (.getfield 63, 3) := dk_15 dd_328
theorem dd_329 : fd_G cX7_text 126 [(126, .isub, 1), (127, .ireturn, 1), (128, .iconst 0, 1), (129, .istore_n 2, 1), (130, .iload_n 2, 1), (131, .bipush 28, 2), (133, .if_icmp .ge 21, 3), (136, .aload_n 0, 1), (137, .getfield 7, 3), (140, .iload_n 2, 1), (141, .aload_n 0, 1), (142, .getfield 16, 3), (145, .iload_n 2, 1), (146, .iaload, 1), (147, .iastore, 1), (148, .iinc 2 1, 3)] = true := by decide +kernel
theorem dX7_text_126 : decode cX7_text 126 = .ok (.isub, 1) := dk_0 dd_329
theorem dX7_text_127 : decode cX7_text 127 = .ok (.ireturn, 1) := dk_1 dd_329
theorem dX7_text_128 : decode cX7_text 128 = .ok (.iconst 0, 1) := dk_2 dd_329
theorem dX7_text_129 : decode cX7_text 129 = .ok (.istore_n 2, 1) := dk_3 dd_329
theorem dX7_text_130 : decode cX7_text 130 = .ok (.iload_n 2, 1) := dk_4 dd_329
theorem dX7_text_131 : decode cX7_text 131 = .ok (.bipush 28, 2) := dk_5 dd_329
theorem dX7_text_133 : decode cX7_text 133 = .ok (.if_icmp .ge 21, 3) := dk_6 dd_329
theorem dX7_text_136 : decode cX7_text 136 = .ok (.aload_n 0, 1) := dk_7 dd_329
theorem dX7_text_137 : decode cX7_text 137 = .ok (.getfield 7, 3) := dk_8 dd_329
theorem dX7_text_140 : decode cX7_text 140 = .ok (.iload_n 2, 1) := dk_9 dd_329
theorem dX7_text_141 : decode cX7_text 141 = .ok (.aload_n 0, 1) := dk_10 dd_329
theorem dX7_text_142 : decode cX7_text 142 = .ok (.getfield 16, 3) := dk_11 dd_329
theorem dX7_text_145 : decode cX7_text 145 = .ok (.iload_n 2, 1) := dk_12 dd_329
theorem dX7_text_146 : decode cX7_text 146 = .ok (.iaload, 1) := dk_13 dd_329
theorem dX7_text_147 : decode cX7_text 147 = .ok (.iastore, 1) := dk_14 dd_329
theorem dX7_text_148 : decode cX7_text 148 = .ok (.iinc 2 1, 3) := dk_15 dd_329
theorem dX7_text_173 : decode cX7_text 173 = .ok (.bastore, 1) := by decide +kernel
theorem dd_330 : fd_G cX7_text 151 [(151, .goto (-21), 3), (154, .aload_n 0, 1), (155, .aload_n 0, 1), (156, .getfield 101, 3), (159, .putfield 125, 3), (162, .aload_n 0, 1), (163, .iconst 0, 1), (164, .putfield 128, 3), (167, .aload_n 0, 1), (168, .getfield 34, 3), (171, .iconst 0, 1), (172, .iconst 0, 1), (174, .aload_n 0, 1), (175, .getfield 34, 3), (178, .iconst 1, 1), (179, .iconst 0, 1)] = true := by decide +kernel
theorem dX7_text_151 : decode cX7_text 151 = .ok (.goto (-21), 3) := dk_0 dd_330
theorem dX7_text_154 : decode cX7_text 154 = .ok (.aload_n 0, 1) := dk_1 dd_330
theorem dX7_text_155 : decode cX7_text 155 = .ok (.aload_n 0, 1) := dk_2 dd_330
theorem dX7_text_156 : decode cX7_text 156 = .ok (.getfield 101, 3) := dk_3 dd_330
theorem dX7_text_159 : decode cX7_text 159 = .ok (.putfield 125, 3) := dk_4 dd_330
theorem dX7_text_162 : decode cX7_text 162 = .ok (.aload_n 0, 1) := dk_5 dd_330
theorem dX7_text_163 : decode cX7_text 163 = .ok (.iconst 0, 1) := dk_6 dd_330
theorem dX7_text_164 : decode cX7_text 164 = .ok (.putfield 128, 3) := dk_7 dd_330
theorem dX7_text_167 : decode cX7_text 167 = .ok (.aload_n 0, 1) := dk_8 dd_330
theorem dX7_text_168 : decode cX7_text 168 = .ok (.getfield 34, 3) := dk_9 dd_330
theorem dX7_text_171 : decode cX7_text 171 = .ok (.iconst 0, 1) := dk_10 dd_330
theorem dX7_text_172 : decode cX7_text 172 = .ok (.iconst 0, 1) := dk_11 dd_330
theorem dX7_text_174 : decode cX7_text 174 = .ok (.aload_n 0, 1) := dk_12 dd_330
theorem dX7_text_175 : decode cX7_text 175 = .ok (.getfield 34, 3) := dk_13 dd_330
theorem dX7_text_178 : decode cX7_text 178 = .ok (.iconst 1, 1) := dk_14 dd_330
theorem dX7_text_179 : decode cX7_text 179 = .ok (.iconst 0, 1) := dk_15 dd_330
theorem dX7_text_180 : decode cX7_text 180 = .ok (.bastore, 1) := by decide +kernel
theorem dd_331 : fd_G cX7_text 181 [(181, .iload_n 1, 1), (182, .ireturn, 1)] = true := by decide +kernel
theorem dX7_text_181 : decode cX7_text 181 = .ok (.iload_n 1, 1) := dk_0 dd_331
theorem dX7_text_182 : decode cX7_text 182 = .ok (.ireturn, 1) := dk_1 dd_331
theorem dd_332 : fd_G cX7_fault 0 [(0, .aload_n 0, 1), (1, .getfield 122, 3), (4, .ireturn, 1)] = true := by decide +kernel
theorem dX7_fault_0 : decode cX7_fault 0 = .ok (.aload_n 0, 1) := dk_0 dd_332
theorem dX7_fault_1 : decode cX7_fault 1 = .ok (.getfield 122, 3) := dk_1 dd_332
theorem dX7_fault_4 : decode cX7_fault 4 = .ok (.ireturn, 1) := dk_2 dd_332
theorem dd_333 : fd_G cX7_isOne 0 [(0, .iload_n 1, 1), (1, .i2l, 1), (2, .lconst 0, 1), (3, .aload_n 0, 1), (4, .getfield 125, 3), (7, .iconst 1, 1), (8, .isub, 1), (9, .i2l, 1), (10, .invokestatic 49, 3), (13, .ireturn, 1)] = true := by decide +kernel
theorem dX7_isOne_0 : decode cX7_isOne 0 = .ok (.iload_n 1, 1) := dk_0 dd_333
theorem dX7_isOne_1 : decode cX7_isOne 1 = .ok (.i2l, 1) := dk_1 dd_333
theorem dX7_isOne_2 : decode cX7_isOne 2 = .ok (.lconst 0, 1) := dk_2 dd_333
theorem dX7_isOne_3 : decode cX7_isOne 3 = .ok (.aload_n 0, 1) := dk_3 dd_333
theorem dX7_isOne_4 : decode cX7_isOne 4 = .ok (.getfield 125, 3) := dk_4 dd_333
theorem dX7_isOne_7 : decode cX7_isOne 7 = .ok (.iconst 1, 1) := dk_5 dd_333
theorem dX7_isOne_8 : decode cX7_isOne 8 = .ok (.isub, 1) := dk_6 dd_333
theorem dX7_isOne_9 : decode cX7_isOne 9 = .ok (.i2l, 1) := dk_7 dd_333
theorem dX7_isOne_10 : decode cX7_isOne 10 = .ok (.invokestatic 49, 3) := dk_8 dd_333
theorem dX7_isOne_13 : decode cX7_isOne 13 = .ok (.ireturn, 1) := dk_9 dd_333
theorem dd_334 : fd_G cX7_waits 0 [(0, .aload_n 0, 1), (1, .getfield 7, 3), (4, .iload_n 1, 1), (5, .bipush 15, 2), (7, .iadd, 1), (8, .iaload, 1), (9, .iload_n 2, 1), (10, .ishr, 1), (11, .iconst 1, 1), (12, .iand, 1), (13, .ifCond .ne 7, 3), (16, .iconst 1, 1), (17, .goto 4, 3), (20, .iconst 0, 1), (21, .ireturn, 1)] = true := by decide +kernel
theorem dX7_waits_0 : decode cX7_waits 0 = .ok (.aload_n 0, 1) := dk_0 dd_334
theorem dX7_waits_1 : decode cX7_waits 1 = .ok (.getfield 7, 3) := dk_1 dd_334
theorem dX7_waits_4 : decode cX7_waits 4 = .ok (.iload_n 1, 1) := dk_2 dd_334
theorem dX7_waits_5 : decode cX7_waits 5 = .ok (.bipush 15, 2) := dk_3 dd_334
theorem dX7_waits_7 : decode cX7_waits 7 = .ok (.iadd, 1) := dk_4 dd_334
theorem dX7_waits_8 : decode cX7_waits 8 = .ok (.iaload, 1) := dk_5 dd_334
theorem dX7_waits_9 : decode cX7_waits 9 = .ok (.iload_n 2, 1) := dk_6 dd_334
theorem dX7_waits_10 : decode cX7_waits 10 = .ok (.ishr, 1) := dk_7 dd_334
theorem dX7_waits_11 : decode cX7_waits 11 = .ok (.iconst 1, 1) := dk_8 dd_334
theorem dX7_waits_12 : decode cX7_waits 12 = .ok (.iand, 1) := dk_9 dd_334
theorem dX7_waits_13 : decode cX7_waits 13 = .ok (.ifCond .ne 7, 3) := dk_10 dd_334
theorem dX7_waits_16 : decode cX7_waits 16 = .ok (.iconst 1, 1) := dk_11 dd_334
theorem dX7_waits_17 : decode cX7_waits 17 = .ok (.goto 4, 3) := dk_12 dd_334
theorem dX7_waits_20 : decode cX7_waits 20 = .ok (.iconst 0, 1) := dk_13 dd_334
theorem dX7_waits_21 : decode cX7_waits 21 = .ok (.ireturn, 1) := dk_14 dd_334
theorem dX7_waitingOn_18 : decode cX7_waitingOn 18 = .ok (.ixor, 1) := by decide +kernel
theorem dd_335 : fd_G cX7_waitingOn 0 [(0, .iconst 1, 1), (1, .aload_n 0, 1), (2, .getfield 125, 3), (5, .ishl, 1), (6, .iconst 1, 1), (7, .isub, 1), (8, .aload_n 0, 1), (9, .getfield 7, 3), (12, .iload_n 1, 1), (13, .bipush 15, 2), (15, .iadd, 1), (16, .iaload, 1), (17, .iconst (-1), 1), (19, .iand, 1), (20, .ireturn, 1)] = true := by decide +kernel
theorem dX7_waitingOn_0 : decode cX7_waitingOn 0 = .ok (.iconst 1, 1) := dk_0 dd_335
theorem dX7_waitingOn_1 : decode cX7_waitingOn 1 = .ok (.aload_n 0, 1) := dk_1 dd_335
theorem dX7_waitingOn_2 : decode cX7_waitingOn 2 = .ok (.getfield 125, 3) := dk_2 dd_335
theorem dX7_waitingOn_5 : decode cX7_waitingOn 5 = .ok (.ishl, 1) := dk_3 dd_335
theorem dX7_waitingOn_6 : decode cX7_waitingOn 6 = .ok (.iconst 1, 1) := dk_4 dd_335
theorem dX7_waitingOn_7 : decode cX7_waitingOn 7 = .ok (.isub, 1) := dk_5 dd_335
theorem dX7_waitingOn_8 : decode cX7_waitingOn 8 = .ok (.aload_n 0, 1) := dk_6 dd_335
theorem dX7_waitingOn_9 : decode cX7_waitingOn 9 = .ok (.getfield 7, 3) := dk_7 dd_335
theorem dX7_waitingOn_12 : decode cX7_waitingOn 12 = .ok (.iload_n 1, 1) := dk_8 dd_335
theorem dX7_waitingOn_13 : decode cX7_waitingOn 13 = .ok (.bipush 15, 2) := dk_9 dd_335
theorem dX7_waitingOn_15 : decode cX7_waitingOn 15 = .ok (.iadd, 1) := dk_10 dd_335
theorem dX7_waitingOn_16 : decode cX7_waitingOn 16 = .ok (.iaload, 1) := dk_11 dd_335
theorem dX7_waitingOn_17 : decode cX7_waitingOn 17 = .ok (.iconst (-1), 1) := dk_12 dd_335
theorem dX7_waitingOn_19 : decode cX7_waitingOn 19 = .ok (.iand, 1) := dk_13 dd_335
theorem dX7_waitingOn_20 : decode cX7_waitingOn 20 = .ok (.ireturn, 1) := dk_14 dd_335
theorem dd_336 : fd_G cX7_sorrowOn 0 [(0, .iconst 0, 1), (1, .istore_n 2, 1), (2, .iconst 0, 1), (3, .istore_n 3, 1), (4, .iload_n 3, 1), (5, .aload_n 0, 1), (6, .getfield 125, 3), (9, .if_icmp .ge 35, 3), (12, .iload_n 2, 1), (13, .aload_n 0, 1), (14, .iload_n 1, 1), (15, .iload_n 3, 1), (16, .invokevirtual 131, 3), (19, .ifCond .eq 16, 3), (22, .aload_n 0, 1), (23, .getfield 7, 3)] = true := by decide +kernel
theorem dX7_sorrowOn_0 : decode cX7_sorrowOn 0 = .ok (.iconst 0, 1) := dk_0 dd_336
theorem dX7_sorrowOn_1 : decode cX7_sorrowOn 1 = .ok (.istore_n 2, 1) := dk_1 dd_336
theorem dX7_sorrowOn_2 : decode cX7_sorrowOn 2 = .ok (.iconst 0, 1) := dk_2 dd_336
theorem dX7_sorrowOn_3 : decode cX7_sorrowOn 3 = .ok (.istore_n 3, 1) := dk_3 dd_336
theorem dX7_sorrowOn_4 : decode cX7_sorrowOn 4 = .ok (.iload_n 3, 1) := dk_4 dd_336
theorem dX7_sorrowOn_5 : decode cX7_sorrowOn 5 = .ok (.aload_n 0, 1) := dk_5 dd_336
theorem dX7_sorrowOn_6 : decode cX7_sorrowOn 6 = .ok (.getfield 125, 3) := dk_6 dd_336
theorem dX7_sorrowOn_9 : decode cX7_sorrowOn 9 = .ok (.if_icmp .ge 35, 3) := dk_7 dd_336
theorem dX7_sorrowOn_12 : decode cX7_sorrowOn 12 = .ok (.iload_n 2, 1) := dk_8 dd_336
theorem dX7_sorrowOn_13 : decode cX7_sorrowOn 13 = .ok (.aload_n 0, 1) := dk_9 dd_336
theorem dX7_sorrowOn_14 : decode cX7_sorrowOn 14 = .ok (.iload_n 1, 1) := dk_10 dd_336
theorem dX7_sorrowOn_15 : decode cX7_sorrowOn 15 = .ok (.iload_n 3, 1) := dk_11 dd_336
theorem dX7_sorrowOn_16 : decode cX7_sorrowOn 16 = .ok (.invokevirtual 131, 3) := dk_12 dd_336
theorem dX7_sorrowOn_19 : decode cX7_sorrowOn 19 = .ok (.ifCond .eq 16, 3) := dk_13 dd_336
theorem dX7_sorrowOn_22 : decode cX7_sorrowOn 22 = .ok (.aload_n 0, 1) := dk_14 dd_336
theorem dX7_sorrowOn_23 : decode cX7_sorrowOn 23 = .ok (.getfield 7, 3) := dk_15 dd_336
theorem dd_337 : fd_G cX7_sorrowOn 26 [(26, .iload_n 1, 1), (27, .iconst 5, 1), (28, .iadd, 1), (29, .iload_n 3, 1), (30, .iadd, 1), (31, .iaload, 1), (32, .goto 4, 3), (35, .iconst 0, 1), (36, .iadd, 1), (37, .istore_n 2, 1), (38, .iinc 3 1, 3), (41, .goto (-37), 3), (44, .iload_n 2, 1), (45, .ireturn, 1)] = true := by decide +kernel
theorem dX7_sorrowOn_26 : decode cX7_sorrowOn 26 = .ok (.iload_n 1, 1) := dk_0 dd_337
theorem dX7_sorrowOn_27 : decode cX7_sorrowOn 27 = .ok (.iconst 5, 1) := dk_1 dd_337
theorem dX7_sorrowOn_28 : decode cX7_sorrowOn 28 = .ok (.iadd, 1) := dk_2 dd_337
theorem dX7_sorrowOn_29 : decode cX7_sorrowOn 29 = .ok (.iload_n 3, 1) := dk_3 dd_337
theorem dX7_sorrowOn_30 : decode cX7_sorrowOn 30 = .ok (.iadd, 1) := dk_4 dd_337
theorem dX7_sorrowOn_31 : decode cX7_sorrowOn 31 = .ok (.iaload, 1) := dk_5 dd_337
theorem dX7_sorrowOn_32 : decode cX7_sorrowOn 32 = .ok (.goto 4, 3) := dk_6 dd_337
theorem dX7_sorrowOn_35 : decode cX7_sorrowOn 35 = .ok (.iconst 0, 1) := dk_7 dd_337
theorem dX7_sorrowOn_36 : decode cX7_sorrowOn 36 = .ok (.iadd, 1) := dk_8 dd_337
theorem dX7_sorrowOn_37 : decode cX7_sorrowOn 37 = .ok (.istore_n 2, 1) := dk_9 dd_337
theorem dX7_sorrowOn_38 : decode cX7_sorrowOn 38 = .ok (.iinc 3 1, 3) := dk_10 dd_337
theorem dX7_sorrowOn_41 : decode cX7_sorrowOn 41 = .ok (.goto (-37), 3) := dk_11 dd_337
theorem dX7_sorrowOn_44 : decode cX7_sorrowOn 44 = .ok (.iload_n 2, 1) := dk_12 dd_337
theorem dX7_sorrowOn_45 : decode cX7_sorrowOn 45 = .ok (.ireturn, 1) := dk_13 dd_337
theorem dd_338 : fd_G cX7_grieves 0 [(0, .aload_n 0, 1), (1, .getfield 7, 3), (4, .iload_n 1, 1), (5, .iconst 5, 1), (6, .iadd, 1), (7, .iload_n 2, 1), (8, .iadd, 1), (9, .iaload, 1), (10, .iload_n 3, 1), (11, .iadd, 1), (12, .istore 4, 2), (14, .aload_n 0, 1), (15, .getfield 7, 3), (18, .iload_n 1, 1), (19, .iconst 5, 1), (20, .iadd, 1)] = true := by decide +kernel
theorem dX7_grieves_0 : decode cX7_grieves 0 = .ok (.aload_n 0, 1) := dk_0 dd_338
theorem dX7_grieves_1 : decode cX7_grieves 1 = .ok (.getfield 7, 3) := dk_1 dd_338
theorem dX7_grieves_4 : decode cX7_grieves 4 = .ok (.iload_n 1, 1) := dk_2 dd_338
theorem dX7_grieves_5 : decode cX7_grieves 5 = .ok (.iconst 5, 1) := dk_3 dd_338
theorem dX7_grieves_6 : decode cX7_grieves 6 = .ok (.iadd, 1) := dk_4 dd_338
theorem dX7_grieves_7 : decode cX7_grieves 7 = .ok (.iload_n 2, 1) := dk_5 dd_338
theorem dX7_grieves_8 : decode cX7_grieves 8 = .ok (.iadd, 1) := dk_6 dd_338
theorem dX7_grieves_9 : decode cX7_grieves 9 = .ok (.iaload, 1) := dk_7 dd_338
theorem dX7_grieves_10 : decode cX7_grieves 10 = .ok (.iload_n 3, 1) := dk_8 dd_338
theorem dX7_grieves_11 : decode cX7_grieves 11 = .ok (.iadd, 1) := dk_9 dd_338
theorem dX7_grieves_12 : decode cX7_grieves 12 = .ok (.istore 4, 2) := dk_10 dd_338
theorem dX7_grieves_14 : decode cX7_grieves 14 = .ok (.aload_n 0, 1) := dk_11 dd_338
theorem dX7_grieves_15 : decode cX7_grieves 15 = .ok (.getfield 7, 3) := dk_12 dd_338
theorem dX7_grieves_18 : decode cX7_grieves 18 = .ok (.iload_n 1, 1) := dk_13 dd_338
theorem dX7_grieves_19 : decode cX7_grieves 19 = .ok (.iconst 5, 1) := dk_14 dd_338
theorem dX7_grieves_20 : decode cX7_grieves 20 = .ok (.iadd, 1) := dk_15 dd_338
theorem dd_339 : fd_G cX7_grieves 21 [(21, .iload_n 2, 1), (22, .iadd, 1), (23, .iload 4, 2), (25, .bipush 40, 2), (27, .if_icmp .le 8, 3), (30, .bipush 40, 2), (32, .goto 5, 3), (35, .iload 4, 2), (37, .iastore, 1), (38, .return_, 1)] = true := by decide +kernel
theorem dX7_grieves_21 : decode cX7_grieves 21 = .ok (.iload_n 2, 1) := dk_0 dd_339
theorem dX7_grieves_22 : decode cX7_grieves 22 = .ok (.iadd, 1) := dk_1 dd_339
theorem dX7_grieves_23 : decode cX7_grieves 23 = .ok (.iload 4, 2) := dk_2 dd_339
theorem dX7_grieves_25 : decode cX7_grieves 25 = .ok (.bipush 40, 2) := dk_3 dd_339
theorem dX7_grieves_27 : decode cX7_grieves 27 = .ok (.if_icmp .le 8, 3) := dk_4 dd_339
theorem dX7_grieves_30 : decode cX7_grieves 30 = .ok (.bipush 40, 2) := dk_5 dd_339
theorem dX7_grieves_32 : decode cX7_grieves 32 = .ok (.goto 5, 3) := dk_6 dd_339
theorem dX7_grieves_35 : decode cX7_grieves 35 = .ok (.iload 4, 2) := dk_7 dd_339
theorem dX7_grieves_37 : decode cX7_grieves 37 = .ok (.iastore, 1) := dk_8 dd_339
theorem dX7_grieves_38 : decode cX7_grieves 38 = .ok (.return_, 1) := dk_9 dd_339
theorem dd_340 : fd_G cX7_setsOff 0 [(0, .iload_n 2, 1), (1, .iconst 1, 1), (2, .isub, 1), (3, .istore_n 3, 1), (4, .iload_n 3, 1), (5, .ifCond .lt 18, 3), (8, .aload_n 0, 1), (9, .iload_n 1, 1), (10, .iload_n 3, 1), (11, .invokevirtual 131, 3), (14, .ifCond .ne 9, 3), (17, .iinc 3 (-1), 3), (20, .goto (-16), 3), (23, .iload_n 2, 1), (24, .iconst 1, 1), (25, .iadd, 1)] = true := by decide +kernel
theorem dX7_setsOff_0 : decode cX7_setsOff 0 = .ok (.iload_n 2, 1) := dk_0 dd_340
theorem dX7_setsOff_1 : decode cX7_setsOff 1 = .ok (.iconst 1, 1) := dk_1 dd_340
theorem dX7_setsOff_2 : decode cX7_setsOff 2 = .ok (.isub, 1) := dk_2 dd_340
theorem dX7_setsOff_3 : decode cX7_setsOff 3 = .ok (.istore_n 3, 1) := dk_3 dd_340
theorem dX7_setsOff_4 : decode cX7_setsOff 4 = .ok (.iload_n 3, 1) := dk_4 dd_340
theorem dX7_setsOff_5 : decode cX7_setsOff 5 = .ok (.ifCond .lt 18, 3) := dk_5 dd_340
theorem dX7_setsOff_8 : decode cX7_setsOff 8 = .ok (.aload_n 0, 1) := dk_6 dd_340
theorem dX7_setsOff_9 : decode cX7_setsOff 9 = .ok (.iload_n 1, 1) := dk_7 dd_340
theorem dX7_setsOff_10 : decode cX7_setsOff 10 = .ok (.iload_n 3, 1) := dk_8 dd_340
theorem dX7_setsOff_11 : decode cX7_setsOff 11 = .ok (.invokevirtual 131, 3) := dk_9 dd_340
theorem dX7_setsOff_14 : decode cX7_setsOff 14 = .ok (.ifCond .ne 9, 3) := dk_10 dd_340
theorem dX7_setsOff_17 : decode cX7_setsOff 17 = .ok (.iinc 3 (-1), 3) := dk_11 dd_340
theorem dX7_setsOff_20 : decode cX7_setsOff 20 = .ok (.goto (-16), 3) := dk_12 dd_340
theorem dX7_setsOff_23 : decode cX7_setsOff 23 = .ok (.iload_n 2, 1) := dk_13 dd_340
theorem dX7_setsOff_24 : decode cX7_setsOff 24 = .ok (.iconst 1, 1) := dk_14 dd_340
theorem dX7_setsOff_25 : decode cX7_setsOff 25 = .ok (.iadd, 1) := dk_15 dd_340
theorem dd_341 : fd_G cX7_setsOff 26 [(26, .istore 4, 2), (28, .iload 4, 2), (30, .aload_n 0, 1), (31, .getfield 125, 3), (34, .if_icmp .ge 19, 3), (37, .aload_n 0, 1), (38, .iload_n 1, 1), (39, .iload 4, 2), (41, .invokevirtual 131, 3), (44, .ifCond .ne 9, 3), (47, .iinc 4 1, 3), (50, .goto (-22), 3), (53, .iload_n 3, 1), (54, .ifCond .lt 10, 3), (57, .aload_n 0, 1), (58, .iload_n 1, 1)] = true := by decide +kernel
theorem dX7_setsOff_26 : decode cX7_setsOff 26 = .ok (.istore 4, 2) := dk_0 dd_341
theorem dX7_setsOff_28 : decode cX7_setsOff 28 = .ok (.iload 4, 2) := dk_1 dd_341
theorem dX7_setsOff_30 : decode cX7_setsOff 30 = .ok (.aload_n 0, 1) := dk_2 dd_341
theorem dX7_setsOff_31 : decode cX7_setsOff 31 = .ok (.getfield 125, 3) := dk_3 dd_341
theorem dX7_setsOff_34 : decode cX7_setsOff 34 = .ok (.if_icmp .ge 19, 3) := dk_4 dd_341
theorem dX7_setsOff_37 : decode cX7_setsOff 37 = .ok (.aload_n 0, 1) := dk_5 dd_341
theorem dX7_setsOff_38 : decode cX7_setsOff 38 = .ok (.iload_n 1, 1) := dk_6 dd_341
theorem dX7_setsOff_39 : decode cX7_setsOff 39 = .ok (.iload 4, 2) := dk_7 dd_341
theorem dX7_setsOff_41 : decode cX7_setsOff 41 = .ok (.invokevirtual 131, 3) := dk_8 dd_341
theorem dX7_setsOff_44 : decode cX7_setsOff 44 = .ok (.ifCond .ne 9, 3) := dk_9 dd_341
theorem dX7_setsOff_47 : decode cX7_setsOff 47 = .ok (.iinc 4 1, 3) := dk_10 dd_341
theorem dX7_setsOff_50 : decode cX7_setsOff 50 = .ok (.goto (-22), 3) := dk_11 dd_341
theorem dX7_setsOff_53 : decode cX7_setsOff 53 = .ok (.iload_n 3, 1) := dk_12 dd_341
theorem dX7_setsOff_54 : decode cX7_setsOff 54 = .ok (.ifCond .lt 10, 3) := dk_13 dd_341
theorem dX7_setsOff_57 : decode cX7_setsOff 57 = .ok (.aload_n 0, 1) := dk_14 dd_341
theorem dX7_setsOff_58 : decode cX7_setsOff 58 = .ok (.iload_n 1, 1) := dk_15 dd_341
theorem dd_342 : fd_G cX7_setsOff 59 [(59, .iload_n 3, 1), (60, .iconst 2, 1), (61, .invokevirtual 135, 3), (64, .iload 4, 2), (66, .aload_n 0, 1), (67, .getfield 125, 3), (70, .if_icmp .ge 11, 3), (73, .aload_n 0, 1), (74, .iload_n 1, 1), (75, .iload 4, 2), (77, .iconst 2, 1), (78, .invokevirtual 135, 3), (81, .return_, 1)] = true := by decide +kernel
theorem dX7_setsOff_59 : decode cX7_setsOff 59 = .ok (.iload_n 3, 1) := dk_0 dd_342
theorem dX7_setsOff_60 : decode cX7_setsOff 60 = .ok (.iconst 2, 1) := dk_1 dd_342
theorem dX7_setsOff_61 : decode cX7_setsOff 61 = .ok (.invokevirtual 135, 3) := dk_2 dd_342
theorem dX7_setsOff_64 : decode cX7_setsOff 64 = .ok (.iload 4, 2) := dk_3 dd_342
theorem dX7_setsOff_66 : decode cX7_setsOff 66 = .ok (.aload_n 0, 1) := dk_4 dd_342
theorem dX7_setsOff_67 : decode cX7_setsOff 67 = .ok (.getfield 125, 3) := dk_5 dd_342
theorem dX7_setsOff_70 : decode cX7_setsOff 70 = .ok (.if_icmp .ge 11, 3) := dk_6 dd_342
theorem dX7_setsOff_73 : decode cX7_setsOff 73 = .ok (.aload_n 0, 1) := dk_7 dd_342
theorem dX7_setsOff_74 : decode cX7_setsOff 74 = .ok (.iload_n 1, 1) := dk_8 dd_342
theorem dX7_setsOff_75 : decode cX7_setsOff 75 = .ok (.iload 4, 2) := dk_9 dd_342
theorem dX7_setsOff_77 : decode cX7_setsOff 77 = .ok (.iconst 2, 1) := dk_10 dd_342
theorem dX7_setsOff_78 : decode cX7_setsOff 78 = .ok (.invokevirtual 135, 3) := dk_11 dd_342
theorem dX7_setsOff_81 : decode cX7_setsOff 81 = .ok (.return_, 1) := dk_12 dd_342
theorem dd_343 : fd_G cX7_nextToWeep 0 [(0, .iconst 0, 1), (1, .istore_n 3, 1), (2, .iload_n 3, 1), (3, .aload_n 0, 1), (4, .getfield 125, 3), (7, .if_icmp .ge 54, 3), (10, .aload_n 0, 1), (11, .iload_n 1, 1), (12, .iload_n 3, 1), (13, .invokevirtual 131, 3), (16, .ifCond .eq 39, 3), (19, .iload_n 2, 1), (20, .iload_n 3, 1), (21, .ishr, 1), (22, .iconst 1, 1), (23, .iand, 1)] = true := by decide +kernel
theorem dX7_nextToWeep_0 : decode cX7_nextToWeep 0 = .ok (.iconst 0, 1) := dk_0 dd_343
theorem dX7_nextToWeep_1 : decode cX7_nextToWeep 1 = .ok (.istore_n 3, 1) := dk_1 dd_343
theorem dX7_nextToWeep_2 : decode cX7_nextToWeep 2 = .ok (.iload_n 3, 1) := dk_2 dd_343
theorem dX7_nextToWeep_3 : decode cX7_nextToWeep 3 = .ok (.aload_n 0, 1) := dk_3 dd_343
theorem dX7_nextToWeep_4 : decode cX7_nextToWeep 4 = .ok (.getfield 125, 3) := dk_4 dd_343
theorem dX7_nextToWeep_7 : decode cX7_nextToWeep 7 = .ok (.if_icmp .ge 54, 3) := dk_5 dd_343
theorem dX7_nextToWeep_10 : decode cX7_nextToWeep 10 = .ok (.aload_n 0, 1) := dk_6 dd_343
theorem dX7_nextToWeep_11 : decode cX7_nextToWeep 11 = .ok (.iload_n 1, 1) := dk_7 dd_343
theorem dX7_nextToWeep_12 : decode cX7_nextToWeep 12 = .ok (.iload_n 3, 1) := dk_8 dd_343
theorem dX7_nextToWeep_13 : decode cX7_nextToWeep 13 = .ok (.invokevirtual 131, 3) := dk_9 dd_343
theorem dX7_nextToWeep_16 : decode cX7_nextToWeep 16 = .ok (.ifCond .eq 39, 3) := dk_10 dd_343
theorem dX7_nextToWeep_19 : decode cX7_nextToWeep 19 = .ok (.iload_n 2, 1) := dk_11 dd_343
theorem dX7_nextToWeep_20 : decode cX7_nextToWeep 20 = .ok (.iload_n 3, 1) := dk_12 dd_343
theorem dX7_nextToWeep_21 : decode cX7_nextToWeep 21 = .ok (.ishr, 1) := dk_13 dd_343
theorem dX7_nextToWeep_22 : decode cX7_nextToWeep 22 = .ok (.iconst 1, 1) := dk_14 dd_343
theorem dX7_nextToWeep_23 : decode cX7_nextToWeep 23 = .ok (.iand, 1) := dk_15 dd_343
theorem dd_344 : fd_G cX7_nextToWeep 24 [(24, .ifCond .ne 31, 3), (27, .aload_n 0, 1), (28, .getfield 7, 3), (31, .iload_n 1, 1), (32, .iconst 5, 1), (33, .iadd, 1), (34, .iload_n 3, 1), (35, .iadd, 1), (36, .iaload, 1), (37, .aload_n 0, 1), (38, .getfield 13, 3), (41, .aload_n 0, 1), (42, .getfield 7, 3), (45, .iload_n 1, 1), (46, .iload_n 3, 1), (47, .iadd, 1)] = true := by decide +kernel
theorem dX7_nextToWeep_24 : decode cX7_nextToWeep 24 = .ok (.ifCond .ne 31, 3) := dk_0 dd_344
theorem dX7_nextToWeep_27 : decode cX7_nextToWeep 27 = .ok (.aload_n 0, 1) := dk_1 dd_344
theorem dX7_nextToWeep_28 : decode cX7_nextToWeep 28 = .ok (.getfield 7, 3) := dk_2 dd_344
theorem dX7_nextToWeep_31 : decode cX7_nextToWeep 31 = .ok (.iload_n 1, 1) := dk_3 dd_344
theorem dX7_nextToWeep_32 : decode cX7_nextToWeep 32 = .ok (.iconst 5, 1) := dk_4 dd_344
theorem dX7_nextToWeep_33 : decode cX7_nextToWeep 33 = .ok (.iadd, 1) := dk_5 dd_344
theorem dX7_nextToWeep_34 : decode cX7_nextToWeep 34 = .ok (.iload_n 3, 1) := dk_6 dd_344
theorem dX7_nextToWeep_35 : decode cX7_nextToWeep 35 = .ok (.iadd, 1) := dk_7 dd_344
theorem dX7_nextToWeep_36 : decode cX7_nextToWeep 36 = .ok (.iaload, 1) := dk_8 dd_344
theorem dX7_nextToWeep_37 : decode cX7_nextToWeep 37 = .ok (.aload_n 0, 1) := dk_9 dd_344
theorem dX7_nextToWeep_38 : decode cX7_nextToWeep 38 = .ok (.getfield 13, 3) := dk_10 dd_344
theorem dX7_nextToWeep_41 : decode cX7_nextToWeep 41 = .ok (.aload_n 0, 1) := dk_11 dd_344
theorem dX7_nextToWeep_42 : decode cX7_nextToWeep 42 = .ok (.getfield 7, 3) := dk_12 dd_344
theorem dX7_nextToWeep_45 : decode cX7_nextToWeep 45 = .ok (.iload_n 1, 1) := dk_13 dd_344
theorem dX7_nextToWeep_46 : decode cX7_nextToWeep 46 = .ok (.iload_n 3, 1) := dk_14 dd_344
theorem dX7_nextToWeep_47 : decode cX7_nextToWeep 47 = .ok (.iadd, 1) := dk_15 dd_344
theorem dd_345 : fd_G cX7_nextToWeep 48 [(48, .iaload, 1), (49, .iaload, 1), (50, .if_icmp .lt 5, 3), (53, .iload_n 3, 1), (54, .ireturn, 1), (55, .iinc 3 1, 3), (58, .goto (-56), 3), (61, .bipush (-4), 2), (63, .ireturn, 1)] = true := by decide +kernel
theorem dX7_nextToWeep_48 : decode cX7_nextToWeep 48 = .ok (.iaload, 1) := dk_0 dd_345
theorem dX7_nextToWeep_49 : decode cX7_nextToWeep 49 = .ok (.iaload, 1) := dk_1 dd_345
theorem dX7_nextToWeep_50 : decode cX7_nextToWeep 50 = .ok (.if_icmp .lt 5, 3) := dk_2 dd_345
theorem dX7_nextToWeep_53 : decode cX7_nextToWeep 53 = .ok (.iload_n 3, 1) := dk_3 dd_345
theorem dX7_nextToWeep_54 : decode cX7_nextToWeep 54 = .ok (.ireturn, 1) := dk_4 dd_345
theorem dX7_nextToWeep_55 : decode cX7_nextToWeep 55 = .ok (.iinc 3 1, 3) := dk_5 dd_345
theorem dX7_nextToWeep_58 : decode cX7_nextToWeep 58 = .ok (.goto (-56), 3) := dk_6 dd_345
theorem dX7_nextToWeep_61 : decode cX7_nextToWeep 61 = .ok (.bipush (-4), 2) := dk_7 dd_345
theorem dX7_nextToWeep_63 : decode cX7_nextToWeep 63 = .ok (.ireturn, 1) := dk_8 dd_345
theorem dd_346 : fd_G cX7_thinksOn 0 [(0, .aload_n 0, 1), (1, .iload_n 1, 1), (2, .iload_n 2, 1), (3, .aload_n 0, 1), (4, .getfield 7, 3), (7, .iload_n 1, 1), (8, .bipush 18, 2), (10, .iadd, 1), (11, .iaload, 1), (12, .iconst 4, 1), (13, .iadd, 1), (14, .invokevirtual 135, 3), (17, .iconst 0, 1), (18, .istore_n 3, 1), (19, .aload_n 0, 1), (20, .iload_n 1, 1)] = true := by decide +kernel
theorem dX7_thinksOn_0 : decode cX7_thinksOn 0 = .ok (.aload_n 0, 1) := dk_0 dd_346
theorem dX7_thinksOn_1 : decode cX7_thinksOn 1 = .ok (.iload_n 1, 1) := dk_1 dd_346
theorem dX7_thinksOn_2 : decode cX7_thinksOn 2 = .ok (.iload_n 2, 1) := dk_2 dd_346
theorem dX7_thinksOn_3 : decode cX7_thinksOn 3 = .ok (.aload_n 0, 1) := dk_3 dd_346
theorem dX7_thinksOn_4 : decode cX7_thinksOn 4 = .ok (.getfield 7, 3) := dk_4 dd_346
theorem dX7_thinksOn_7 : decode cX7_thinksOn 7 = .ok (.iload_n 1, 1) := dk_5 dd_346
theorem dX7_thinksOn_8 : decode cX7_thinksOn 8 = .ok (.bipush 18, 2) := dk_6 dd_346
theorem dX7_thinksOn_10 : decode cX7_thinksOn 10 = .ok (.iadd, 1) := dk_7 dd_346
theorem dX7_thinksOn_11 : decode cX7_thinksOn 11 = .ok (.iaload, 1) := dk_8 dd_346
theorem dX7_thinksOn_12 : decode cX7_thinksOn 12 = .ok (.iconst 4, 1) := dk_9 dd_346
theorem dX7_thinksOn_13 : decode cX7_thinksOn 13 = .ok (.iadd, 1) := dk_10 dd_346
theorem dX7_thinksOn_14 : decode cX7_thinksOn 14 = .ok (.invokevirtual 135, 3) := dk_11 dd_346
theorem dX7_thinksOn_17 : decode cX7_thinksOn 17 = .ok (.iconst 0, 1) := dk_12 dd_346
theorem dX7_thinksOn_18 : decode cX7_thinksOn 18 = .ok (.istore_n 3, 1) := dk_13 dd_346
theorem dX7_thinksOn_19 : decode cX7_thinksOn 19 = .ok (.aload_n 0, 1) := dk_14 dd_346
theorem dX7_thinksOn_20 : decode cX7_thinksOn 20 = .ok (.iload_n 1, 1) := dk_15 dd_346
theorem dd_347 : fd_G cX7_thinksOn 21 [(21, .iload_n 3, 1), (22, .invokevirtual 139, 3), (25, .istore 4, 2), (27, .iload 4, 2), (29, .bipush (-4), 2), (31, .if_icmp .eq 63, 3), (34, .iload_n 3, 1), (35, .iconst 1, 1), (36, .iload 4, 2), (38, .ishl, 1), (39, .ior, 1), (40, .istore_n 3, 1), (41, .aload_n 0, 1), (42, .getfield 7, 3), (45, .iload_n 1, 1), (46, .bipush 10, 2)] = true := by decide +kernel
theorem dX7_thinksOn_21 : decode cX7_thinksOn 21 = .ok (.iload_n 3, 1) := dk_0 dd_347
theorem dX7_thinksOn_22 : decode cX7_thinksOn 22 = .ok (.invokevirtual 139, 3) := dk_1 dd_347
theorem dX7_thinksOn_25 : decode cX7_thinksOn 25 = .ok (.istore 4, 2) := dk_2 dd_347
theorem dX7_thinksOn_27 : decode cX7_thinksOn 27 = .ok (.iload 4, 2) := dk_3 dd_347
theorem dX7_thinksOn_29 : decode cX7_thinksOn 29 = .ok (.bipush (-4), 2) := dk_4 dd_347
theorem dX7_thinksOn_31 : decode cX7_thinksOn 31 = .ok (.if_icmp .eq 63, 3) := dk_5 dd_347
theorem dX7_thinksOn_34 : decode cX7_thinksOn 34 = .ok (.iload_n 3, 1) := dk_6 dd_347
theorem dX7_thinksOn_35 : decode cX7_thinksOn 35 = .ok (.iconst 1, 1) := dk_7 dd_347
theorem dX7_thinksOn_36 : decode cX7_thinksOn 36 = .ok (.iload 4, 2) := dk_8 dd_347
theorem dX7_thinksOn_38 : decode cX7_thinksOn 38 = .ok (.ishl, 1) := dk_9 dd_347
theorem dX7_thinksOn_39 : decode cX7_thinksOn 39 = .ok (.ior, 1) := dk_10 dd_347
theorem dX7_thinksOn_40 : decode cX7_thinksOn 40 = .ok (.istore_n 3, 1) := dk_11 dd_347
theorem dX7_thinksOn_41 : decode cX7_thinksOn 41 = .ok (.aload_n 0, 1) := dk_12 dd_347
theorem dX7_thinksOn_42 : decode cX7_thinksOn 42 = .ok (.getfield 7, 3) := dk_13 dd_347
theorem dX7_thinksOn_45 : decode cX7_thinksOn 45 = .ok (.iload_n 1, 1) := dk_14 dd_347
theorem dX7_thinksOn_46 : decode cX7_thinksOn 46 = .ok (.bipush 10, 2) := dk_15 dd_347
theorem dd_348 : fd_G cX7_thinksOn 48 [(48, .iadd, 1), (49, .iload 4, 2), (51, .iadd, 1), (52, .aload_n 0, 1), (53, .getfield 7, 3), (56, .iload_n 1, 1), (57, .bipush 16, 2), (59, .iadd, 1), (60, .iaload, 1), (61, .iconst 1, 1), (62, .iadd, 1), (63, .iastore, 1), (64, .aload_n 0, 1), (65, .getfield 7, 3), (68, .iload_n 1, 1), (69, .iconst 5, 1)] = true := by decide +kernel
theorem dX7_thinksOn_48 : decode cX7_thinksOn 48 = .ok (.iadd, 1) := dk_0 dd_348
theorem dX7_thinksOn_49 : decode cX7_thinksOn 49 = .ok (.iload 4, 2) := dk_1 dd_348
theorem dX7_thinksOn_51 : decode cX7_thinksOn 51 = .ok (.iadd, 1) := dk_2 dd_348
theorem dX7_thinksOn_52 : decode cX7_thinksOn 52 = .ok (.aload_n 0, 1) := dk_3 dd_348
theorem dX7_thinksOn_53 : decode cX7_thinksOn 53 = .ok (.getfield 7, 3) := dk_4 dd_348
theorem dX7_thinksOn_56 : decode cX7_thinksOn 56 = .ok (.iload_n 1, 1) := dk_5 dd_348
theorem dX7_thinksOn_57 : decode cX7_thinksOn 57 = .ok (.bipush 16, 2) := dk_6 dd_348
theorem dX7_thinksOn_59 : decode cX7_thinksOn 59 = .ok (.iadd, 1) := dk_7 dd_348
theorem dX7_thinksOn_60 : decode cX7_thinksOn 60 = .ok (.iaload, 1) := dk_8 dd_348
theorem dX7_thinksOn_61 : decode cX7_thinksOn 61 = .ok (.iconst 1, 1) := dk_9 dd_348
theorem dX7_thinksOn_62 : decode cX7_thinksOn 62 = .ok (.iadd, 1) := dk_10 dd_348
theorem dX7_thinksOn_63 : decode cX7_thinksOn 63 = .ok (.iastore, 1) := dk_11 dd_348
theorem dX7_thinksOn_64 : decode cX7_thinksOn 64 = .ok (.aload_n 0, 1) := dk_12 dd_348
theorem dX7_thinksOn_65 : decode cX7_thinksOn 65 = .ok (.getfield 7, 3) := dk_13 dd_348
theorem dX7_thinksOn_68 : decode cX7_thinksOn 68 = .ok (.iload_n 1, 1) := dk_14 dd_348
theorem dX7_thinksOn_69 : decode cX7_thinksOn 69 = .ok (.iconst 5, 1) := dk_15 dd_348
theorem dd_349 : fd_G cX7_thinksOn 70 [(70, .iadd, 1), (71, .iload 4, 2), (73, .iadd, 1), (74, .iconst 0, 1), (75, .iastore, 1), (76, .aload_n 0, 1), (77, .iload_n 1, 1), (78, .iload 4, 2), (80, .invokevirtual 142, 3), (83, .aload_n 0, 1), (84, .iload_n 1, 1), (85, .iload_n 3, 1), (86, .invokevirtual 139, 3), (89, .istore 4, 2), (91, .goto (-64), 3), (94, .iload_n 3, 1)] = true := by decide +kernel
theorem dX7_thinksOn_70 : decode cX7_thinksOn 70 = .ok (.iadd, 1) := dk_0 dd_349
theorem dX7_thinksOn_71 : decode cX7_thinksOn 71 = .ok (.iload 4, 2) := dk_1 dd_349
theorem dX7_thinksOn_73 : decode cX7_thinksOn 73 = .ok (.iadd, 1) := dk_2 dd_349
theorem dX7_thinksOn_74 : decode cX7_thinksOn 74 = .ok (.iconst 0, 1) := dk_3 dd_349
theorem dX7_thinksOn_75 : decode cX7_thinksOn 75 = .ok (.iastore, 1) := dk_4 dd_349
theorem dX7_thinksOn_76 : decode cX7_thinksOn 76 = .ok (.aload_n 0, 1) := dk_5 dd_349
theorem dX7_thinksOn_77 : decode cX7_thinksOn 77 = .ok (.iload_n 1, 1) := dk_6 dd_349
theorem dX7_thinksOn_78 : decode cX7_thinksOn 78 = .ok (.iload 4, 2) := dk_7 dd_349
theorem dX7_thinksOn_80 : decode cX7_thinksOn 80 = .ok (.invokevirtual 142, 3) := dk_8 dd_349
theorem dX7_thinksOn_83 : decode cX7_thinksOn 83 = .ok (.aload_n 0, 1) := dk_9 dd_349
theorem dX7_thinksOn_84 : decode cX7_thinksOn 84 = .ok (.iload_n 1, 1) := dk_10 dd_349
theorem dX7_thinksOn_85 : decode cX7_thinksOn 85 = .ok (.iload_n 3, 1) := dk_11 dd_349
theorem dX7_thinksOn_86 : decode cX7_thinksOn 86 = .ok (.invokevirtual 139, 3) := dk_12 dd_349
theorem dX7_thinksOn_89 : decode cX7_thinksOn 89 = .ok (.istore 4, 2) := dk_13 dd_349
theorem dX7_thinksOn_91 : decode cX7_thinksOn 91 = .ok (.goto (-64), 3) := dk_14 dd_349
theorem dX7_thinksOn_94 : decode cX7_thinksOn 94 = .ok (.iload_n 3, 1) := dk_15 dd_349
theorem dd_350 : fd_G cX7_thinksOn 95 [(95, .ireturn, 1)] = true := by decide +kernel
theorem dX7_thinksOn_95 : decode cX7_thinksOn 95 = .ok (.ireturn, 1) := dk_0 dd_350
theorem dX7_minuteOn_19 : decode cX7_minuteOn 19 = .ok (.dup2, 1) := by decide +kernel
theorem dd_351 : fd_G cX7_minuteOn 0 [(0, .iconst 0, 1), (1, .istore_n 2, 1), (2, .iload_n 2, 1), (3, .aload_n 0, 1), (4, .getfield 125, 3), (7, .if_icmp .ge 49, 3), (10, .aload_n 0, 1), (11, .getfield 7, 3), (14, .iload_n 1, 1), (15, .iconst 5, 1), (16, .iadd, 1), (17, .iload_n 2, 1), (18, .iadd, 1), (20, .iaload, 1), (21, .aload_n 0, 1), (22, .iload_n 1, 1)] = true := by decide +kernel
theorem dX7_minuteOn_0 : decode cX7_minuteOn 0 = .ok (.iconst 0, 1) := dk_0 dd_351
theorem dX7_minuteOn_1 : decode cX7_minuteOn 1 = .ok (.istore_n 2, 1) := dk_1 dd_351
theorem dX7_minuteOn_2 : decode cX7_minuteOn 2 = .ok (.iload_n 2, 1) := dk_2 dd_351
theorem dX7_minuteOn_3 : decode cX7_minuteOn 3 = .ok (.aload_n 0, 1) := dk_3 dd_351
theorem dX7_minuteOn_4 : decode cX7_minuteOn 4 = .ok (.getfield 125, 3) := dk_4 dd_351
theorem dX7_minuteOn_7 : decode cX7_minuteOn 7 = .ok (.if_icmp .ge 49, 3) := dk_5 dd_351
theorem dX7_minuteOn_10 : decode cX7_minuteOn 10 = .ok (.aload_n 0, 1) := dk_6 dd_351
theorem dX7_minuteOn_11 : decode cX7_minuteOn 11 = .ok (.getfield 7, 3) := dk_7 dd_351
theorem dX7_minuteOn_14 : decode cX7_minuteOn 14 = .ok (.iload_n 1, 1) := dk_8 dd_351
theorem dX7_minuteOn_15 : decode cX7_minuteOn 15 = .ok (.iconst 5, 1) := dk_9 dd_351
theorem dX7_minuteOn_16 : decode cX7_minuteOn 16 = .ok (.iadd, 1) := dk_10 dd_351
theorem dX7_minuteOn_17 : decode cX7_minuteOn 17 = .ok (.iload_n 2, 1) := dk_11 dd_351
theorem dX7_minuteOn_18 : decode cX7_minuteOn 18 = .ok (.iadd, 1) := dk_12 dd_351
theorem dX7_minuteOn_20 : decode cX7_minuteOn 20 = .ok (.iaload, 1) := dk_13 dd_351
theorem dX7_minuteOn_21 : decode cX7_minuteOn 21 = .ok (.aload_n 0, 1) := dk_14 dd_351
theorem dX7_minuteOn_22 : decode cX7_minuteOn 22 = .ok (.iload_n 1, 1) := dk_15 dd_351
theorem dX7_minuteOn_40 : decode cX7_minuteOn 40 = .ok (.ifCond .le 7, 3) := by decide +kernel
theorem dd_352 : fd_G cX7_minuteOn 23 [(23, .iload_n 2, 1), (24, .invokevirtual 131, 3), (27, .ifCond .eq 20, 3), (30, .aload_n 0, 1), (31, .getfield 7, 3), (34, .iload_n 1, 1), (35, .iconst 5, 1), (36, .iadd, 1), (37, .iload_n 2, 1), (38, .iadd, 1), (39, .iaload, 1), (43, .iconst 1, 1), (44, .goto 4, 3), (47, .iconst 0, 1), (48, .isub, 1), (49, .iastore, 1)] = true := by decide +kernel
theorem dX7_minuteOn_23 : decode cX7_minuteOn 23 = .ok (.iload_n 2, 1) := dk_0 dd_352
theorem dX7_minuteOn_24 : decode cX7_minuteOn 24 = .ok (.invokevirtual 131, 3) := dk_1 dd_352
theorem dX7_minuteOn_27 : decode cX7_minuteOn 27 = .ok (.ifCond .eq 20, 3) := dk_2 dd_352
theorem dX7_minuteOn_30 : decode cX7_minuteOn 30 = .ok (.aload_n 0, 1) := dk_3 dd_352
theorem dX7_minuteOn_31 : decode cX7_minuteOn 31 = .ok (.getfield 7, 3) := dk_4 dd_352
theorem dX7_minuteOn_34 : decode cX7_minuteOn 34 = .ok (.iload_n 1, 1) := dk_5 dd_352
theorem dX7_minuteOn_35 : decode cX7_minuteOn 35 = .ok (.iconst 5, 1) := dk_6 dd_352
theorem dX7_minuteOn_36 : decode cX7_minuteOn 36 = .ok (.iadd, 1) := dk_7 dd_352
theorem dX7_minuteOn_37 : decode cX7_minuteOn 37 = .ok (.iload_n 2, 1) := dk_8 dd_352
theorem dX7_minuteOn_38 : decode cX7_minuteOn 38 = .ok (.iadd, 1) := dk_9 dd_352
theorem dX7_minuteOn_39 : decode cX7_minuteOn 39 = .ok (.iaload, 1) := dk_10 dd_352
theorem dX7_minuteOn_43 : decode cX7_minuteOn 43 = .ok (.iconst 1, 1) := dk_11 dd_352
theorem dX7_minuteOn_44 : decode cX7_minuteOn 44 = .ok (.goto 4, 3) := dk_12 dd_352
theorem dX7_minuteOn_47 : decode cX7_minuteOn 47 = .ok (.iconst 0, 1) := dk_13 dd_352
theorem dX7_minuteOn_48 : decode cX7_minuteOn 48 = .ok (.isub, 1) := dk_14 dd_352
theorem dX7_minuteOn_49 : decode cX7_minuteOn 49 = .ok (.iastore, 1) := dk_15 dd_352
theorem dX7_minuteOn_64 : decode cX7_minuteOn 64 = .ok (.dup2, 1) := by decide +kernel
theorem dd_353 : fd_G cX7_minuteOn 50 [(50, .iinc 2 1, 3), (53, .goto (-51), 3), (56, .aload_n 0, 1), (57, .getfield 7, 3), (60, .iload_n 1, 1), (61, .bipush 16, 2), (63, .iadd, 1), (65, .iaload, 1), (66, .aload_n 0, 1), (67, .getfield 7, 3), (70, .iload_n 1, 1), (71, .bipush 16, 2), (73, .iadd, 1), (74, .iaload, 1), (75, .sipush 999, 3), (78, .if_icmp .ge 7, 3)] = true := by decide +kernel
theorem dX7_minuteOn_50 : decode cX7_minuteOn 50 = .ok (.iinc 2 1, 3) := dk_0 dd_353
theorem dX7_minuteOn_53 : decode cX7_minuteOn 53 = .ok (.goto (-51), 3) := dk_1 dd_353
theorem dX7_minuteOn_56 : decode cX7_minuteOn 56 = .ok (.aload_n 0, 1) := dk_2 dd_353
theorem dX7_minuteOn_57 : decode cX7_minuteOn 57 = .ok (.getfield 7, 3) := dk_3 dd_353
theorem dX7_minuteOn_60 : decode cX7_minuteOn 60 = .ok (.iload_n 1, 1) := dk_4 dd_353
theorem dX7_minuteOn_61 : decode cX7_minuteOn 61 = .ok (.bipush 16, 2) := dk_5 dd_353
theorem dX7_minuteOn_63 : decode cX7_minuteOn 63 = .ok (.iadd, 1) := dk_6 dd_353
theorem dX7_minuteOn_65 : decode cX7_minuteOn 65 = .ok (.iaload, 1) := dk_7 dd_353
theorem dX7_minuteOn_66 : decode cX7_minuteOn 66 = .ok (.aload_n 0, 1) := dk_8 dd_353
theorem dX7_minuteOn_67 : decode cX7_minuteOn 67 = .ok (.getfield 7, 3) := dk_9 dd_353
theorem dX7_minuteOn_70 : decode cX7_minuteOn 70 = .ok (.iload_n 1, 1) := dk_10 dd_353
theorem dX7_minuteOn_71 : decode cX7_minuteOn 71 = .ok (.bipush 16, 2) := dk_11 dd_353
theorem dX7_minuteOn_73 : decode cX7_minuteOn 73 = .ok (.iadd, 1) := dk_12 dd_353
theorem dX7_minuteOn_74 : decode cX7_minuteOn 74 = .ok (.iaload, 1) := dk_13 dd_353
theorem dX7_minuteOn_75 : decode cX7_minuteOn 75 = .ok (.sipush 999, 3) := dk_14 dd_353
theorem dX7_minuteOn_78 : decode cX7_minuteOn 78 = .ok (.if_icmp .ge 7, 3) := dk_15 dd_353
theorem dd_354 : fd_G cX7_minuteOn 81 [(81, .iconst 1, 1), (82, .goto 4, 3), (85, .iconst 0, 1), (86, .iadd, 1), (87, .iastore, 1), (88, .return_, 1)] = true := by decide +kernel
theorem dX7_minuteOn_81 : decode cX7_minuteOn 81 = .ok (.iconst 1, 1) := dk_0 dd_354
theorem dX7_minuteOn_82 : decode cX7_minuteOn 82 = .ok (.goto 4, 3) := dk_1 dd_354
theorem dX7_minuteOn_85 : decode cX7_minuteOn 85 = .ok (.iconst 0, 1) := dk_2 dd_354
theorem dX7_minuteOn_86 : decode cX7_minuteOn 86 = .ok (.iadd, 1) := dk_3 dd_354
theorem dX7_minuteOn_87 : decode cX7_minuteOn 87 = .ok (.iastore, 1) := dk_4 dd_354
theorem dX7_minuteOn_88 : decode cX7_minuteOn 88 = .ok (.return_, 1) := dk_5 dd_354
theorem dd_355 : fd_G cX7_placeOn 0 [(0, .aload_n 0, 1), (1, .getfield 7, 3), (4, .iload_n 1, 1), (5, .iload_n 2, 1), (6, .iadd, 1), (7, .iaload, 1), (8, .iconst 2, 1), (9, .if_icmp .ne 20, 3), (12, .aload_n 0, 1), (13, .getfield 7, 3), (16, .iload_n 1, 1), (17, .iconst 5, 1), (18, .iadd, 1), (19, .iload_n 2, 1), (20, .iadd, 1), (21, .iaload, 1)] = true := by decide +kernel
theorem dX7_placeOn_0 : decode cX7_placeOn 0 = .ok (.aload_n 0, 1) := dk_0 dd_355
theorem dX7_placeOn_1 : decode cX7_placeOn 1 = .ok (.getfield 7, 3) := dk_1 dd_355
theorem dX7_placeOn_4 : decode cX7_placeOn 4 = .ok (.iload_n 1, 1) := dk_2 dd_355
theorem dX7_placeOn_5 : decode cX7_placeOn 5 = .ok (.iload_n 2, 1) := dk_3 dd_355
theorem dX7_placeOn_6 : decode cX7_placeOn 6 = .ok (.iadd, 1) := dk_4 dd_355
theorem dX7_placeOn_7 : decode cX7_placeOn 7 = .ok (.iaload, 1) := dk_5 dd_355
theorem dX7_placeOn_8 : decode cX7_placeOn 8 = .ok (.iconst 2, 1) := dk_6 dd_355
theorem dX7_placeOn_9 : decode cX7_placeOn 9 = .ok (.if_icmp .ne 20, 3) := dk_7 dd_355
theorem dX7_placeOn_12 : decode cX7_placeOn 12 = .ok (.aload_n 0, 1) := dk_8 dd_355
theorem dX7_placeOn_13 : decode cX7_placeOn 13 = .ok (.getfield 7, 3) := dk_9 dd_355
theorem dX7_placeOn_16 : decode cX7_placeOn 16 = .ok (.iload_n 1, 1) := dk_10 dd_355
theorem dX7_placeOn_17 : decode cX7_placeOn 17 = .ok (.iconst 5, 1) := dk_11 dd_355
theorem dX7_placeOn_18 : decode cX7_placeOn 18 = .ok (.iadd, 1) := dk_12 dd_355
theorem dX7_placeOn_19 : decode cX7_placeOn 19 = .ok (.iload_n 2, 1) := dk_13 dd_355
theorem dX7_placeOn_20 : decode cX7_placeOn 20 = .ok (.iadd, 1) := dk_14 dd_355
theorem dX7_placeOn_21 : decode cX7_placeOn 21 = .ok (.iaload, 1) := dk_15 dd_355
theorem dd_356 : fd_G cX7_placeOn 22 [(22, .ifCond .ne 7, 3), (25, .iconst 1, 1), (26, .goto 4, 3), (29, .iconst 0, 1), (30, .istore_n 3, 1), (31, .iload_n 3, 1), (32, .ifCond .eq 7, 3), (35, .iconst (-1), 1), (36, .goto 14, 3), (39, .aload_n 0, 1), (40, .getfield 7, 3), (43, .iload_n 1, 1), (44, .bipush 10, 2), (46, .iadd, 1), (47, .iload_n 2, 1), (48, .iadd, 1)] = true := by decide +kernel
theorem dX7_placeOn_22 : decode cX7_placeOn 22 = .ok (.ifCond .ne 7, 3) := dk_0 dd_356
theorem dX7_placeOn_25 : decode cX7_placeOn 25 = .ok (.iconst 1, 1) := dk_1 dd_356
theorem dX7_placeOn_26 : decode cX7_placeOn 26 = .ok (.goto 4, 3) := dk_2 dd_356
theorem dX7_placeOn_29 : decode cX7_placeOn 29 = .ok (.iconst 0, 1) := dk_3 dd_356
theorem dX7_placeOn_30 : decode cX7_placeOn 30 = .ok (.istore_n 3, 1) := dk_4 dd_356
theorem dX7_placeOn_31 : decode cX7_placeOn 31 = .ok (.iload_n 3, 1) := dk_5 dd_356
theorem dX7_placeOn_32 : decode cX7_placeOn 32 = .ok (.ifCond .eq 7, 3) := dk_6 dd_356
theorem dX7_placeOn_35 : decode cX7_placeOn 35 = .ok (.iconst (-1), 1) := dk_7 dd_356
theorem dX7_placeOn_36 : decode cX7_placeOn 36 = .ok (.goto 14, 3) := dk_8 dd_356
theorem dX7_placeOn_39 : decode cX7_placeOn 39 = .ok (.aload_n 0, 1) := dk_9 dd_356
theorem dX7_placeOn_40 : decode cX7_placeOn 40 = .ok (.getfield 7, 3) := dk_10 dd_356
theorem dX7_placeOn_43 : decode cX7_placeOn 43 = .ok (.iload_n 1, 1) := dk_11 dd_356
theorem dX7_placeOn_44 : decode cX7_placeOn 44 = .ok (.bipush 10, 2) := dk_12 dd_356
theorem dX7_placeOn_46 : decode cX7_placeOn 46 = .ok (.iadd, 1) := dk_13 dd_356
theorem dX7_placeOn_47 : decode cX7_placeOn 47 = .ok (.iload_n 2, 1) := dk_14 dd_356
theorem dX7_placeOn_48 : decode cX7_placeOn 48 = .ok (.iadd, 1) := dk_15 dd_356
theorem dd_357 : fd_G cX7_placeOn 49 [(49, .iaload, 1), (50, .ireturn, 1)] = true := by decide +kernel
theorem dX7_placeOn_49 : decode cX7_placeOn 49 = .ok (.iaload, 1) := dk_0 dd_357
theorem dX7_placeOn_50 : decode cX7_placeOn 50 = .ok (.ireturn, 1) := dk_1 dd_357
theorem dd_358 : fd_G cX7_nextOn 0 [(0, .bipush (-4), 2), (2, .istore_n 3, 1), (3, .iconst 0, 1), (4, .istore 4, 2), (6, .iload 4, 2), (8, .aload_n 0, 1), (9, .getfield 125, 3), (12, .if_icmp .ge 69, 3), (15, .aload_n 0, 1), (16, .iload_n 1, 1), (17, .iload 4, 2), (19, .invokevirtual 131, 3), (22, .ifCond .eq 16, 3), (25, .iload_n 2, 1), (26, .iload 4, 2), (28, .ishr, 1)] = true := by decide +kernel
theorem dX7_nextOn_0 : decode cX7_nextOn 0 = .ok (.bipush (-4), 2) := dk_0 dd_358
theorem dX7_nextOn_2 : decode cX7_nextOn 2 = .ok (.istore_n 3, 1) := dk_1 dd_358
theorem dX7_nextOn_3 : decode cX7_nextOn 3 = .ok (.iconst 0, 1) := dk_2 dd_358
theorem dX7_nextOn_4 : decode cX7_nextOn 4 = .ok (.istore 4, 2) := dk_3 dd_358
theorem dX7_nextOn_6 : decode cX7_nextOn 6 = .ok (.iload 4, 2) := dk_4 dd_358
theorem dX7_nextOn_8 : decode cX7_nextOn 8 = .ok (.aload_n 0, 1) := dk_5 dd_358
theorem dX7_nextOn_9 : decode cX7_nextOn 9 = .ok (.getfield 125, 3) := dk_6 dd_358
theorem dX7_nextOn_12 : decode cX7_nextOn 12 = .ok (.if_icmp .ge 69, 3) := dk_7 dd_358
theorem dX7_nextOn_15 : decode cX7_nextOn 15 = .ok (.aload_n 0, 1) := dk_8 dd_358
theorem dX7_nextOn_16 : decode cX7_nextOn 16 = .ok (.iload_n 1, 1) := dk_9 dd_358
theorem dX7_nextOn_17 : decode cX7_nextOn 17 = .ok (.iload 4, 2) := dk_10 dd_358
theorem dX7_nextOn_19 : decode cX7_nextOn 19 = .ok (.invokevirtual 131, 3) := dk_11 dd_358
theorem dX7_nextOn_22 : decode cX7_nextOn 22 = .ok (.ifCond .eq 16, 3) := dk_12 dd_358
theorem dX7_nextOn_25 : decode cX7_nextOn 25 = .ok (.iload_n 2, 1) := dk_13 dd_358
theorem dX7_nextOn_26 : decode cX7_nextOn 26 = .ok (.iload 4, 2) := dk_14 dd_358
theorem dX7_nextOn_28 : decode cX7_nextOn 28 = .ok (.ishr, 1) := dk_15 dd_358
theorem dd_359 : fd_G cX7_nextOn 29 [(29, .iconst 1, 1), (30, .iand, 1), (31, .ifCond .ne 7, 3), (34, .iconst 1, 1), (35, .goto 4, 3), (38, .iconst 0, 1), (39, .istore 5, 2), (41, .iload 5, 2), (43, .ifCond .eq 30, 3), (46, .iload_n 3, 1), (47, .bipush (-4), 2), (49, .if_icmp .eq 19, 3), (52, .aload_n 0, 1), (53, .iload_n 1, 1), (54, .iload 4, 2), (56, .invokevirtual 146, 3)] = true := by decide +kernel
theorem dX7_nextOn_29 : decode cX7_nextOn 29 = .ok (.iconst 1, 1) := dk_0 dd_359
theorem dX7_nextOn_30 : decode cX7_nextOn 30 = .ok (.iand, 1) := dk_1 dd_359
theorem dX7_nextOn_31 : decode cX7_nextOn 31 = .ok (.ifCond .ne 7, 3) := dk_2 dd_359
theorem dX7_nextOn_34 : decode cX7_nextOn 34 = .ok (.iconst 1, 1) := dk_3 dd_359
theorem dX7_nextOn_35 : decode cX7_nextOn 35 = .ok (.goto 4, 3) := dk_4 dd_359
theorem dX7_nextOn_38 : decode cX7_nextOn 38 = .ok (.iconst 0, 1) := dk_5 dd_359
theorem dX7_nextOn_39 : decode cX7_nextOn 39 = .ok (.istore 5, 2) := dk_6 dd_359
theorem dX7_nextOn_41 : decode cX7_nextOn 41 = .ok (.iload 5, 2) := dk_7 dd_359
theorem dX7_nextOn_43 : decode cX7_nextOn 43 = .ok (.ifCond .eq 30, 3) := dk_8 dd_359
theorem dX7_nextOn_46 : decode cX7_nextOn 46 = .ok (.iload_n 3, 1) := dk_9 dd_359
theorem dX7_nextOn_47 : decode cX7_nextOn 47 = .ok (.bipush (-4), 2) := dk_10 dd_359
theorem dX7_nextOn_49 : decode cX7_nextOn 49 = .ok (.if_icmp .eq 19, 3) := dk_11 dd_359
theorem dX7_nextOn_52 : decode cX7_nextOn 52 = .ok (.aload_n 0, 1) := dk_12 dd_359
theorem dX7_nextOn_53 : decode cX7_nextOn 53 = .ok (.iload_n 1, 1) := dk_13 dd_359
theorem dX7_nextOn_54 : decode cX7_nextOn 54 = .ok (.iload 4, 2) := dk_14 dd_359
theorem dX7_nextOn_56 : decode cX7_nextOn 56 = .ok (.invokevirtual 146, 3) := dk_15 dd_359
theorem dd_360 : fd_G cX7_nextOn 59 [(59, .aload_n 0, 1), (60, .iload_n 1, 1), (61, .iload_n 3, 1), (62, .invokevirtual 146, 3), (65, .if_icmp .le 8, 3), (68, .iload 4, 2), (70, .goto 4, 3), (73, .iload_n 3, 1), (74, .istore_n 3, 1), (75, .iinc 4 1, 3), (78, .goto (-72), 3), (81, .iload_n 3, 1), (82, .ireturn, 1)] = true := by decide +kernel
theorem dX7_nextOn_59 : decode cX7_nextOn 59 = .ok (.aload_n 0, 1) := dk_0 dd_360
theorem dX7_nextOn_60 : decode cX7_nextOn 60 = .ok (.iload_n 1, 1) := dk_1 dd_360
theorem dX7_nextOn_61 : decode cX7_nextOn 61 = .ok (.iload_n 3, 1) := dk_2 dd_360
theorem dX7_nextOn_62 : decode cX7_nextOn 62 = .ok (.invokevirtual 146, 3) := dk_3 dd_360
theorem dX7_nextOn_65 : decode cX7_nextOn 65 = .ok (.if_icmp .le 8, 3) := dk_4 dd_360
theorem dX7_nextOn_68 : decode cX7_nextOn 68 = .ok (.iload 4, 2) := dk_5 dd_360
theorem dX7_nextOn_70 : decode cX7_nextOn 70 = .ok (.goto 4, 3) := dk_6 dd_360
theorem dX7_nextOn_73 : decode cX7_nextOn 73 = .ok (.iload_n 3, 1) := dk_7 dd_360
theorem dX7_nextOn_74 : decode cX7_nextOn 74 = .ok (.istore_n 3, 1) := dk_8 dd_360
theorem dX7_nextOn_75 : decode cX7_nextOn 75 = .ok (.iinc 4 1, 3) := dk_9 dd_360
theorem dX7_nextOn_78 : decode cX7_nextOn 78 = .ok (.goto (-72), 3) := dk_10 dd_360
theorem dX7_nextOn_81 : decode cX7_nextOn 81 = .ok (.iload_n 3, 1) := dk_11 dd_360
theorem dX7_nextOn_82 : decode cX7_nextOn 82 = .ok (.ireturn, 1) := dk_12 dd_360
theorem dd_361 : fd_G cX7_tramOn 0 [(0, .iconst 0, 1), (1, .istore_n 2, 1), (2, .iconst 0, 1), (3, .istore_n 3, 1), (4, .iload_n 3, 1), (5, .aload_n 0, 1), (6, .getfield 7, 3), (9, .iload_n 1, 1), (10, .bipush 17, 2), (12, .iadd, 1), (13, .iaload, 1), (14, .iconst 2, 1), (15, .iadd, 1), (16, .if_icmp .ge 35, 3), (19, .aload_n 0, 1), (20, .iload_n 1, 1)] = true := by decide +kernel
theorem dX7_tramOn_0 : decode cX7_tramOn 0 = .ok (.iconst 0, 1) := dk_0 dd_361
theorem dX7_tramOn_1 : decode cX7_tramOn 1 = .ok (.istore_n 2, 1) := dk_1 dd_361
theorem dX7_tramOn_2 : decode cX7_tramOn 2 = .ok (.iconst 0, 1) := dk_2 dd_361
theorem dX7_tramOn_3 : decode cX7_tramOn 3 = .ok (.istore_n 3, 1) := dk_3 dd_361
theorem dX7_tramOn_4 : decode cX7_tramOn 4 = .ok (.iload_n 3, 1) := dk_4 dd_361
theorem dX7_tramOn_5 : decode cX7_tramOn 5 = .ok (.aload_n 0, 1) := dk_5 dd_361
theorem dX7_tramOn_6 : decode cX7_tramOn 6 = .ok (.getfield 7, 3) := dk_6 dd_361
theorem dX7_tramOn_9 : decode cX7_tramOn 9 = .ok (.iload_n 1, 1) := dk_7 dd_361
theorem dX7_tramOn_10 : decode cX7_tramOn 10 = .ok (.bipush 17, 2) := dk_8 dd_361
theorem dX7_tramOn_12 : decode cX7_tramOn 12 = .ok (.iadd, 1) := dk_9 dd_361
theorem dX7_tramOn_13 : decode cX7_tramOn 13 = .ok (.iaload, 1) := dk_10 dd_361
theorem dX7_tramOn_14 : decode cX7_tramOn 14 = .ok (.iconst 2, 1) := dk_11 dd_361
theorem dX7_tramOn_15 : decode cX7_tramOn 15 = .ok (.iadd, 1) := dk_12 dd_361
theorem dX7_tramOn_16 : decode cX7_tramOn 16 = .ok (.if_icmp .ge 35, 3) := dk_13 dd_361
theorem dX7_tramOn_19 : decode cX7_tramOn 19 = .ok (.aload_n 0, 1) := dk_14 dd_361
theorem dX7_tramOn_20 : decode cX7_tramOn 20 = .ok (.iload_n 1, 1) := dk_15 dd_361
theorem dd_362 : fd_G cX7_tramOn 21 [(21, .iload_n 2, 1), (22, .invokevirtual 149, 3), (25, .istore 4, 2), (27, .iload_n 2, 1), (28, .iload 4, 2), (30, .bipush (-4), 2), (32, .if_icmp .ne 7, 3), (35, .iconst 0, 1), (36, .goto 7, 3), (39, .iconst 1, 1), (40, .iload 4, 2), (42, .ishl, 1), (43, .ior, 1), (44, .istore_n 2, 1), (45, .iinc 3 1, 3), (48, .goto (-44), 3)] = true := by decide +kernel
theorem dX7_tramOn_21 : decode cX7_tramOn 21 = .ok (.iload_n 2, 1) := dk_0 dd_362
theorem dX7_tramOn_22 : decode cX7_tramOn 22 = .ok (.invokevirtual 149, 3) := dk_1 dd_362
theorem dX7_tramOn_25 : decode cX7_tramOn 25 = .ok (.istore 4, 2) := dk_2 dd_362
theorem dX7_tramOn_27 : decode cX7_tramOn 27 = .ok (.iload_n 2, 1) := dk_3 dd_362
theorem dX7_tramOn_28 : decode cX7_tramOn 28 = .ok (.iload 4, 2) := dk_4 dd_362
theorem dX7_tramOn_30 : decode cX7_tramOn 30 = .ok (.bipush (-4), 2) := dk_5 dd_362
theorem dX7_tramOn_32 : decode cX7_tramOn 32 = .ok (.if_icmp .ne 7, 3) := dk_6 dd_362
theorem dX7_tramOn_35 : decode cX7_tramOn 35 = .ok (.iconst 0, 1) := dk_7 dd_362
theorem dX7_tramOn_36 : decode cX7_tramOn 36 = .ok (.goto 7, 3) := dk_8 dd_362
theorem dX7_tramOn_39 : decode cX7_tramOn 39 = .ok (.iconst 1, 1) := dk_9 dd_362
theorem dX7_tramOn_40 : decode cX7_tramOn 40 = .ok (.iload 4, 2) := dk_10 dd_362
theorem dX7_tramOn_42 : decode cX7_tramOn 42 = .ok (.ishl, 1) := dk_11 dd_362
theorem dX7_tramOn_43 : decode cX7_tramOn 43 = .ok (.ior, 1) := dk_12 dd_362
theorem dX7_tramOn_44 : decode cX7_tramOn 44 = .ok (.istore_n 2, 1) := dk_13 dd_362
theorem dX7_tramOn_45 : decode cX7_tramOn 45 = .ok (.iinc 3 1, 3) := dk_14 dd_362
theorem dX7_tramOn_48 : decode cX7_tramOn 48 = .ok (.goto (-44), 3) := dk_15 dd_362
theorem dX7_tramOn_59 : decode cX7_tramOn 59 = .ok (.dup2, 1) := by decide +kernel
theorem dd_363 : fd_G cX7_tramOn 51 [(51, .aload_n 0, 1), (52, .getfield 7, 3), (55, .iload_n 1, 1), (56, .bipush 15, 2), (58, .iadd, 1), (60, .iaload, 1), (61, .iload_n 2, 1), (62, .ior, 1), (63, .iastore, 1), (64, .iload_n 2, 1), (65, .ireturn, 1)] = true := by decide +kernel
theorem dX7_tramOn_51 : decode cX7_tramOn 51 = .ok (.aload_n 0, 1) := dk_0 dd_363
theorem dX7_tramOn_52 : decode cX7_tramOn 52 = .ok (.getfield 7, 3) := dk_1 dd_363
theorem dX7_tramOn_55 : decode cX7_tramOn 55 = .ok (.iload_n 1, 1) := dk_2 dd_363
theorem dX7_tramOn_56 : decode cX7_tramOn 56 = .ok (.bipush 15, 2) := dk_3 dd_363
theorem dX7_tramOn_58 : decode cX7_tramOn 58 = .ok (.iadd, 1) := dk_4 dd_363
theorem dX7_tramOn_60 : decode cX7_tramOn 60 = .ok (.iaload, 1) := dk_5 dd_363
theorem dX7_tramOn_61 : decode cX7_tramOn 61 = .ok (.iload_n 2, 1) := dk_6 dd_363
theorem dX7_tramOn_62 : decode cX7_tramOn 62 = .ok (.ior, 1) := dk_7 dd_363
theorem dX7_tramOn_63 : decode cX7_tramOn 63 = .ok (.iastore, 1) := dk_8 dd_363
theorem dX7_tramOn_64 : decode cX7_tramOn 64 = .ok (.iload_n 2, 1) := dk_9 dd_363
theorem dX7_tramOn_65 : decode cX7_tramOn 65 = .ok (.ireturn, 1) := dk_10 dd_363
theorem dX7_rule_1 : decode cX7_rule 1 = .ok (.tableswitch 96 0 6 #[43, 48, 56, 66, 76, 84, 90], 43) := by decide +kernel
theorem dd_364 : fd_G cX7_rule 0 [(0, .iload_n 1, 1), (44, .aload_n 0, 1), (45, .getfield 125, 3), (48, .ireturn, 1), (49, .aload_n 0, 1), (50, .getfield 7, 3), (53, .bipush 16, 2), (55, .iaload, 1), (56, .ireturn, 1), (57, .aload_n 0, 1), (58, .getfield 7, 3), (61, .bipush 17, 2), (63, .iaload, 1), (64, .iconst 2, 1), (65, .iadd, 1), (66, .ireturn, 1)] = true := by decide +kernel
theorem dX7_rule_0 : decode cX7_rule 0 = .ok (.iload_n 1, 1) := dk_0 dd_364
theorem dX7_rule_44 : decode cX7_rule 44 = .ok (.aload_n 0, 1) := dk_1 dd_364
theorem dX7_rule_45 : decode cX7_rule 45 = .ok (.getfield 125, 3) := dk_2 dd_364
theorem dX7_rule_48 : decode cX7_rule 48 = .ok (.ireturn, 1) := dk_3 dd_364
theorem dX7_rule_49 : decode cX7_rule 49 = .ok (.aload_n 0, 1) := dk_4 dd_364
theorem dX7_rule_50 : decode cX7_rule 50 = .ok (.getfield 7, 3) := dk_5 dd_364
theorem dX7_rule_53 : decode cX7_rule 53 = .ok (.bipush 16, 2) := dk_6 dd_364
theorem dX7_rule_55 : decode cX7_rule 55 = .ok (.iaload, 1) := dk_7 dd_364
theorem dX7_rule_56 : decode cX7_rule 56 = .ok (.ireturn, 1) := dk_8 dd_364
theorem dX7_rule_57 : decode cX7_rule 57 = .ok (.aload_n 0, 1) := dk_9 dd_364
theorem dX7_rule_58 : decode cX7_rule 58 = .ok (.getfield 7, 3) := dk_10 dd_364
theorem dX7_rule_61 : decode cX7_rule 61 = .ok (.bipush 17, 2) := dk_11 dd_364
theorem dX7_rule_63 : decode cX7_rule 63 = .ok (.iaload, 1) := dk_12 dd_364
theorem dX7_rule_64 : decode cX7_rule 64 = .ok (.iconst 2, 1) := dk_13 dd_364
theorem dX7_rule_65 : decode cX7_rule 65 = .ok (.iadd, 1) := dk_14 dd_364
theorem dX7_rule_66 : decode cX7_rule 66 = .ok (.ireturn, 1) := dk_15 dd_364
theorem dd_365 : fd_G cX7_rule 67 [(67, .aload_n 0, 1), (68, .getfield 7, 3), (71, .bipush 18, 2), (73, .iaload, 1), (74, .iconst 4, 1), (75, .iadd, 1), (76, .ireturn, 1), (77, .aload_n 0, 1), (78, .getfield 7, 3), (81, .bipush 27, 2), (83, .iaload, 1), (84, .ireturn, 1), (85, .aload_n 0, 1), (86, .iconst 0, 1), (87, .invokevirtual 152, 3), (90, .ireturn, 1)] = true := by decide +kernel
theorem dX7_rule_67 : decode cX7_rule 67 = .ok (.aload_n 0, 1) := dk_0 dd_365
theorem dX7_rule_68 : decode cX7_rule 68 = .ok (.getfield 7, 3) := dk_1 dd_365
theorem dX7_rule_71 : decode cX7_rule 71 = .ok (.bipush 18, 2) := dk_2 dd_365
theorem dX7_rule_73 : decode cX7_rule 73 = .ok (.iaload, 1) := dk_3 dd_365
theorem dX7_rule_74 : decode cX7_rule 74 = .ok (.iconst 4, 1) := dk_4 dd_365
theorem dX7_rule_75 : decode cX7_rule 75 = .ok (.iadd, 1) := dk_5 dd_365
theorem dX7_rule_76 : decode cX7_rule 76 = .ok (.ireturn, 1) := dk_6 dd_365
theorem dX7_rule_77 : decode cX7_rule 77 = .ok (.aload_n 0, 1) := dk_7 dd_365
theorem dX7_rule_78 : decode cX7_rule 78 = .ok (.getfield 7, 3) := dk_8 dd_365
theorem dX7_rule_81 : decode cX7_rule 81 = .ok (.bipush 27, 2) := dk_9 dd_365
theorem dX7_rule_83 : decode cX7_rule 83 = .ok (.iaload, 1) := dk_10 dd_365
theorem dX7_rule_84 : decode cX7_rule 84 = .ok (.ireturn, 1) := dk_11 dd_365
theorem dX7_rule_85 : decode cX7_rule 85 = .ok (.aload_n 0, 1) := dk_12 dd_365
theorem dX7_rule_86 : decode cX7_rule 86 = .ok (.iconst 0, 1) := dk_13 dd_365
theorem dX7_rule_87 : decode cX7_rule 87 = .ok (.invokevirtual 152, 3) := dk_14 dd_365
theorem dX7_rule_90 : decode cX7_rule 90 = .ok (.ireturn, 1) := dk_15 dd_365
theorem dd_366 : fd_G cX7_rule 91 [(91, .aload_n 0, 1), (92, .iconst 0, 1), (93, .invokevirtual 155, 3), (96, .ireturn, 1), (97, .iconst (-1), 1), (98, .ireturn, 1)] = true := by decide +kernel
theorem dX7_rule_91 : decode cX7_rule 91 = .ok (.aload_n 0, 1) := dk_0 dd_366
theorem dX7_rule_92 : decode cX7_rule 92 = .ok (.iconst 0, 1) := dk_1 dd_366
theorem dX7_rule_93 : decode cX7_rule 93 = .ok (.invokevirtual 155, 3) := dk_2 dd_366
theorem dX7_rule_96 : decode cX7_rule 96 = .ok (.ireturn, 1) := dk_3 dd_366
theorem dX7_rule_97 : decode cX7_rule 97 = .ok (.iconst (-1), 1) := dk_4 dd_366
theorem dX7_rule_98 : decode cX7_rule 98 = .ok (.ireturn, 1) := dk_5 dd_366
theorem dd_367 : fd_G cX7_orNone 0 [(0, .iload_n 0, 1), (1, .ifCond .ne 8, 3), (4, .bipush (-4), 2), (6, .goto 6, 3), (9, .iload_n 0, 1), (10, .iconst 1, 1), (11, .isub, 1), (12, .ireturn, 1)] = true := by decide +kernel
theorem dX7_orNone_0 : decode cX7_orNone 0 = .ok (.iload_n 0, 1) := dk_0 dd_367
theorem dX7_orNone_1 : decode cX7_orNone 1 = .ok (.ifCond .ne 8, 3) := dk_1 dd_367
theorem dX7_orNone_4 : decode cX7_orNone 4 = .ok (.bipush (-4), 2) := dk_2 dd_367
theorem dX7_orNone_6 : decode cX7_orNone 6 = .ok (.goto 6, 3) := dk_3 dd_367
theorem dX7_orNone_9 : decode cX7_orNone 9 = .ok (.iload_n 0, 1) := dk_4 dd_367
theorem dX7_orNone_10 : decode cX7_orNone 10 = .ok (.iconst 1, 1) := dk_5 dd_367
theorem dX7_orNone_11 : decode cX7_orNone 11 = .ok (.isub, 1) := dk_6 dd_367
theorem dX7_orNone_12 : decode cX7_orNone 12 = .ok (.ireturn, 1) := dk_7 dd_367
theorem dX7_one_11 : decode cX7_one 11 = .ok (.tableswitch 81 0 4 #[33, 33, 44, 57, 69], 33) := by decide +kernel
theorem dd_368 : fd_G cX7_one 0 [(0, .aload_n 0, 1), (1, .iload_n 1, 1), (2, .invokevirtual 158, 3), (5, .ifCond .ne 5, 3), (8, .iconst (-1), 1), (9, .ireturn, 1), (10, .iload_n 2, 1), (44, .aload_n 0, 1), (45, .getfield 7, 3), (48, .iconst 5, 1), (49, .iload_n 2, 1), (50, .imul, 1), (51, .iload_n 1, 1), (52, .iadd, 1), (53, .iaload, 1), (54, .ireturn, 1)] = true := by decide +kernel
theorem dX7_one_0 : decode cX7_one 0 = .ok (.aload_n 0, 1) := dk_0 dd_368
theorem dX7_one_1 : decode cX7_one 1 = .ok (.iload_n 1, 1) := dk_1 dd_368
theorem dX7_one_2 : decode cX7_one 2 = .ok (.invokevirtual 158, 3) := dk_2 dd_368
theorem dX7_one_5 : decode cX7_one 5 = .ok (.ifCond .ne 5, 3) := dk_3 dd_368
theorem dX7_one_8 : decode cX7_one 8 = .ok (.iconst (-1), 1) := dk_4 dd_368
theorem dX7_one_9 : decode cX7_one 9 = .ok (.ireturn, 1) := dk_5 dd_368
theorem dX7_one_10 : decode cX7_one 10 = .ok (.iload_n 2, 1) := dk_6 dd_368
theorem dX7_one_44 : decode cX7_one 44 = .ok (.aload_n 0, 1) := dk_7 dd_368
theorem dX7_one_45 : decode cX7_one 45 = .ok (.getfield 7, 3) := dk_8 dd_368
theorem dX7_one_48 : decode cX7_one 48 = .ok (.iconst 5, 1) := dk_9 dd_368
theorem dX7_one_49 : decode cX7_one 49 = .ok (.iload_n 2, 1) := dk_10 dd_368
theorem dX7_one_50 : decode cX7_one 50 = .ok (.imul, 1) := dk_11 dd_368
theorem dX7_one_51 : decode cX7_one 51 = .ok (.iload_n 1, 1) := dk_12 dd_368
theorem dX7_one_52 : decode cX7_one 52 = .ok (.iadd, 1) := dk_13 dd_368
theorem dX7_one_53 : decode cX7_one 53 = .ok (.iaload, 1) := dk_14 dd_368
theorem dX7_one_54 : decode cX7_one 54 = .ok (.ireturn, 1) := dk_15 dd_368
theorem dd_369 : fd_G cX7_one 55 [(55, .aload_n 0, 1), (56, .getfield 7, 3), (59, .bipush 10, 2), (61, .iload_n 1, 1), (62, .iadd, 1), (63, .iaload, 1), (64, .invokestatic 162, 3), (67, .ireturn, 1), (68, .aload_n 0, 1), (69, .getfield 13, 3), (72, .aload_n 0, 1), (73, .getfield 7, 3), (76, .iload_n 1, 1), (77, .iaload, 1), (78, .iaload, 1), (79, .ireturn, 1)] = true := by decide +kernel
theorem dX7_one_55 : decode cX7_one 55 = .ok (.aload_n 0, 1) := dk_0 dd_369
theorem dX7_one_56 : decode cX7_one 56 = .ok (.getfield 7, 3) := dk_1 dd_369
theorem dX7_one_59 : decode cX7_one 59 = .ok (.bipush 10, 2) := dk_2 dd_369
theorem dX7_one_61 : decode cX7_one 61 = .ok (.iload_n 1, 1) := dk_3 dd_369
theorem dX7_one_62 : decode cX7_one 62 = .ok (.iadd, 1) := dk_4 dd_369
theorem dX7_one_63 : decode cX7_one 63 = .ok (.iaload, 1) := dk_5 dd_369
theorem dX7_one_64 : decode cX7_one 64 = .ok (.invokestatic 162, 3) := dk_6 dd_369
theorem dX7_one_67 : decode cX7_one 67 = .ok (.ireturn, 1) := dk_7 dd_369
theorem dX7_one_68 : decode cX7_one 68 = .ok (.aload_n 0, 1) := dk_8 dd_369
theorem dX7_one_69 : decode cX7_one 69 = .ok (.getfield 13, 3) := dk_9 dd_369
theorem dX7_one_72 : decode cX7_one 72 = .ok (.aload_n 0, 1) := dk_10 dd_369
theorem dX7_one_73 : decode cX7_one 73 = .ok (.getfield 7, 3) := dk_11 dd_369
theorem dX7_one_76 : decode cX7_one 76 = .ok (.iload_n 1, 1) := dk_12 dd_369
theorem dX7_one_77 : decode cX7_one 77 = .ok (.iaload, 1) := dk_13 dd_369
theorem dX7_one_78 : decode cX7_one 78 = .ok (.iaload, 1) := dk_14 dd_369
theorem dX7_one_79 : decode cX7_one 79 = .ok (.ireturn, 1) := dk_15 dd_369
theorem dd_370 : fd_G cX7_one 80 [(80, .aload_n 0, 1), (81, .getfield 7, 3), (84, .bipush 15, 2), (86, .iaload, 1), (87, .iload_n 1, 1), (88, .ishr, 1), (89, .iconst 1, 1), (90, .iand, 1), (91, .ireturn, 1), (92, .iconst (-1), 1), (93, .ireturn, 1)] = true := by decide +kernel
theorem dX7_one_80 : decode cX7_one 80 = .ok (.aload_n 0, 1) := dk_0 dd_370
theorem dX7_one_81 : decode cX7_one 81 = .ok (.getfield 7, 3) := dk_1 dd_370
theorem dX7_one_84 : decode cX7_one 84 = .ok (.bipush 15, 2) := dk_2 dd_370
theorem dX7_one_86 : decode cX7_one 86 = .ok (.iaload, 1) := dk_3 dd_370
theorem dX7_one_87 : decode cX7_one 87 = .ok (.iload_n 1, 1) := dk_4 dd_370
theorem dX7_one_88 : decode cX7_one 88 = .ok (.ishr, 1) := dk_5 dd_370
theorem dX7_one_89 : decode cX7_one 89 = .ok (.iconst 1, 1) := dk_6 dd_370
theorem dX7_one_90 : decode cX7_one 90 = .ok (.iand, 1) := dk_7 dd_370
theorem dX7_one_91 : decode cX7_one 91 = .ok (.ireturn, 1) := dk_8 dd_370
theorem dX7_one_92 : decode cX7_one 92 = .ok (.iconst (-1), 1) := dk_9 dd_370
theorem dX7_one_93 : decode cX7_one 93 = .ok (.ireturn, 1) := dk_10 dd_370
theorem dd_371 : fd_G cX7_act 0 [(0, .iload_n 1, 1), (1, .i2l, 1), (2, .lconst 0, 1), (3, .aload_n 0, 1), (4, .getfield 7, 3), (7, .bipush 27, 2), (9, .iaload, 1), (10, .iconst 1, 1), (11, .isub, 1), (12, .i2l, 1), (13, .invokestatic 49, 3), (16, .ifCond .eq 15, 3), (19, .aload_n 0, 1), (20, .getfield 7, 3), (23, .bipush 19, 2), (25, .iload_n 1, 1)] = true := by decide +kernel
theorem dX7_act_0 : decode cX7_act 0 = .ok (.iload_n 1, 1) := dk_0 dd_371
theorem dX7_act_1 : decode cX7_act 1 = .ok (.i2l, 1) := dk_1 dd_371
theorem dX7_act_2 : decode cX7_act 2 = .ok (.lconst 0, 1) := dk_2 dd_371
theorem dX7_act_3 : decode cX7_act 3 = .ok (.aload_n 0, 1) := dk_3 dd_371
theorem dX7_act_4 : decode cX7_act 4 = .ok (.getfield 7, 3) := dk_4 dd_371
theorem dX7_act_7 : decode cX7_act 7 = .ok (.bipush 27, 2) := dk_5 dd_371
theorem dX7_act_9 : decode cX7_act 9 = .ok (.iaload, 1) := dk_6 dd_371
theorem dX7_act_10 : decode cX7_act 10 = .ok (.iconst 1, 1) := dk_7 dd_371
theorem dX7_act_11 : decode cX7_act 11 = .ok (.isub, 1) := dk_8 dd_371
theorem dX7_act_12 : decode cX7_act 12 = .ok (.i2l, 1) := dk_9 dd_371
theorem dX7_act_13 : decode cX7_act 13 = .ok (.invokestatic 49, 3) := dk_10 dd_371
theorem dX7_act_16 : decode cX7_act 16 = .ok (.ifCond .eq 15, 3) := dk_11 dd_371
theorem dX7_act_19 : decode cX7_act 19 = .ok (.aload_n 0, 1) := dk_12 dd_371
theorem dX7_act_20 : decode cX7_act 20 = .ok (.getfield 7, 3) := dk_13 dd_371
theorem dX7_act_23 : decode cX7_act 23 = .ok (.bipush 19, 2) := dk_14 dd_371
theorem dX7_act_25 : decode cX7_act 25 = .ok (.iload_n 1, 1) := dk_15 dd_371
theorem dd_372 : fd_G cX7_act 26 [(26, .iadd, 1), (27, .iaload, 1), (28, .goto 4, 3), (31, .iconst (-1), 1), (32, .ireturn, 1)] = true := by decide +kernel
theorem dX7_act_26 : decode cX7_act 26 = .ok (.iadd, 1) := dk_0 dd_372
theorem dX7_act_27 : decode cX7_act 27 = .ok (.iaload, 1) := dk_1 dd_372
theorem dX7_act_28 : decode cX7_act 28 = .ok (.goto 4, 3) := dk_2 dd_372
theorem dX7_act_31 : decode cX7_act 31 = .ok (.iconst (-1), 1) := dk_3 dd_372
theorem dX7_act_32 : decode cX7_act 32 = .ok (.ireturn, 1) := dk_4 dd_372
theorem dd_373 : fd_G cX7_queue 0 [(0, .iload_n 1, 1), (1, .i2l, 1), (2, .lconst 0, 1), (3, .ldc2_w 165, 3), (6, .invokestatic 49, 3), (9, .ifCond .ne 5, 3), (12, .iconst (-1), 1), (13, .ireturn, 1), (14, .iconst 0, 1), (15, .istore_n 2, 1), (16, .aload_n 0, 1), (17, .iconst 0, 1), (18, .iload_n 2, 1), (19, .invokevirtual 149, 3), (22, .istore_n 3, 1), (23, .iconst 0, 1)] = true := by decide +kernel
theorem dX7_queue_0 : decode cX7_queue 0 = .ok (.iload_n 1, 1) := dk_0 dd_373
theorem dX7_queue_1 : decode cX7_queue 1 = .ok (.i2l, 1) := dk_1 dd_373
theorem dX7_queue_2 : decode cX7_queue 2 = .ok (.lconst 0, 1) := dk_2 dd_373
theorem dX7_queue_3 : decode cX7_queue 3 = .ok (.ldc2_w 165, 3) := dk_3 dd_373
theorem dX7_queue_6 : decode cX7_queue 6 = .ok (.invokestatic 49, 3) := dk_4 dd_373
theorem dX7_queue_9 : decode cX7_queue 9 = .ok (.ifCond .ne 5, 3) := dk_5 dd_373
theorem dX7_queue_12 : decode cX7_queue 12 = .ok (.iconst (-1), 1) := dk_6 dd_373
theorem dX7_queue_13 : decode cX7_queue 13 = .ok (.ireturn, 1) := dk_7 dd_373
theorem dX7_queue_14 : decode cX7_queue 14 = .ok (.iconst 0, 1) := dk_8 dd_373
theorem dX7_queue_15 : decode cX7_queue 15 = .ok (.istore_n 2, 1) := dk_9 dd_373
theorem dX7_queue_16 : decode cX7_queue 16 = .ok (.aload_n 0, 1) := dk_10 dd_373
theorem dX7_queue_17 : decode cX7_queue 17 = .ok (.iconst 0, 1) := dk_11 dd_373
theorem dX7_queue_18 : decode cX7_queue 18 = .ok (.iload_n 2, 1) := dk_12 dd_373
theorem dX7_queue_19 : decode cX7_queue 19 = .ok (.invokevirtual 149, 3) := dk_13 dd_373
theorem dX7_queue_22 : decode cX7_queue 22 = .ok (.istore_n 3, 1) := dk_14 dd_373
theorem dX7_queue_23 : decode cX7_queue 23 = .ok (.iconst 0, 1) := dk_15 dd_373
theorem dd_374 : fd_G cX7_queue 24 [(24, .istore 4, 2), (26, .iload 4, 2), (28, .iload_n 1, 1), (29, .if_icmp .ge 28, 3), (32, .iload_n 3, 1), (33, .bipush (-4), 2), (35, .if_icmp .eq 22, 3), (38, .iload_n 2, 1), (39, .iconst 1, 1), (40, .iload_n 3, 1), (41, .ishl, 1), (42, .ior, 1), (43, .istore_n 2, 1), (44, .aload_n 0, 1), (45, .iconst 0, 1), (46, .iload_n 2, 1)] = true := by decide +kernel
theorem dX7_queue_24 : decode cX7_queue 24 = .ok (.istore 4, 2) := dk_0 dd_374
theorem dX7_queue_26 : decode cX7_queue 26 = .ok (.iload 4, 2) := dk_1 dd_374
theorem dX7_queue_28 : decode cX7_queue 28 = .ok (.iload_n 1, 1) := dk_2 dd_374
theorem dX7_queue_29 : decode cX7_queue 29 = .ok (.if_icmp .ge 28, 3) := dk_3 dd_374
theorem dX7_queue_32 : decode cX7_queue 32 = .ok (.iload_n 3, 1) := dk_4 dd_374
theorem dX7_queue_33 : decode cX7_queue 33 = .ok (.bipush (-4), 2) := dk_5 dd_374
theorem dX7_queue_35 : decode cX7_queue 35 = .ok (.if_icmp .eq 22, 3) := dk_6 dd_374
theorem dX7_queue_38 : decode cX7_queue 38 = .ok (.iload_n 2, 1) := dk_7 dd_374
theorem dX7_queue_39 : decode cX7_queue 39 = .ok (.iconst 1, 1) := dk_8 dd_374
theorem dX7_queue_40 : decode cX7_queue 40 = .ok (.iload_n 3, 1) := dk_9 dd_374
theorem dX7_queue_41 : decode cX7_queue 41 = .ok (.ishl, 1) := dk_10 dd_374
theorem dX7_queue_42 : decode cX7_queue 42 = .ok (.ior, 1) := dk_11 dd_374
theorem dX7_queue_43 : decode cX7_queue 43 = .ok (.istore_n 2, 1) := dk_12 dd_374
theorem dX7_queue_44 : decode cX7_queue 44 = .ok (.aload_n 0, 1) := dk_13 dd_374
theorem dX7_queue_45 : decode cX7_queue 45 = .ok (.iconst 0, 1) := dk_14 dd_374
theorem dX7_queue_46 : decode cX7_queue 46 = .ok (.iload_n 2, 1) := dk_15 dd_374
theorem dd_375 : fd_G cX7_queue 47 [(47, .invokevirtual 149, 3), (50, .istore_n 3, 1), (51, .iinc 4 1, 3), (54, .goto (-28), 3), (57, .iload_n 3, 1), (58, .ireturn, 1)] = true := by decide +kernel
theorem dX7_queue_47 : decode cX7_queue 47 = .ok (.invokevirtual 149, 3) := dk_0 dd_375
theorem dX7_queue_50 : decode cX7_queue 50 = .ok (.istore_n 3, 1) := dk_1 dd_375
theorem dX7_queue_51 : decode cX7_queue 51 = .ok (.iinc 4 1, 3) := dk_2 dd_375
theorem dX7_queue_54 : decode cX7_queue 54 = .ok (.goto (-28), 3) := dk_3 dd_375
theorem dX7_queue_57 : decode cX7_queue 57 = .ok (.iload_n 3, 1) := dk_4 dd_375
theorem dX7_queue_58 : decode cX7_queue 58 = .ok (.ireturn, 1) := dk_5 dd_375
theorem dd_376 : fd_G cX7_puts 0 [(0, .iload_n 1, 1), (1, .ifCond .ne 5, 3), (4, .iconst (-1), 1), (5, .ireturn, 1), (6, .aload_n 0, 1), (7, .getfield 7, 3), (10, .iload_n 2, 1), (11, .iaload, 1), (12, .iload 4, 2), (14, .iadd, 1), (15, .istore 5, 2), (17, .aload_n 0, 1), (18, .getfield 7, 3), (21, .iload_n 2, 1), (22, .iload_n 3, 1), (23, .iload 4, 2)] = true := by decide +kernel
theorem dX7_puts_0 : decode cX7_puts 0 = .ok (.iload_n 1, 1) := dk_0 dd_376
theorem dX7_puts_1 : decode cX7_puts 1 = .ok (.ifCond .ne 5, 3) := dk_1 dd_376
theorem dX7_puts_4 : decode cX7_puts 4 = .ok (.iconst (-1), 1) := dk_2 dd_376
theorem dX7_puts_5 : decode cX7_puts 5 = .ok (.ireturn, 1) := dk_3 dd_376
theorem dX7_puts_6 : decode cX7_puts 6 = .ok (.aload_n 0, 1) := dk_4 dd_376
theorem dX7_puts_7 : decode cX7_puts 7 = .ok (.getfield 7, 3) := dk_5 dd_376
theorem dX7_puts_10 : decode cX7_puts 10 = .ok (.iload_n 2, 1) := dk_6 dd_376
theorem dX7_puts_11 : decode cX7_puts 11 = .ok (.iaload, 1) := dk_7 dd_376
theorem dX7_puts_12 : decode cX7_puts 12 = .ok (.iload 4, 2) := dk_8 dd_376
theorem dX7_puts_14 : decode cX7_puts 14 = .ok (.iadd, 1) := dk_9 dd_376
theorem dX7_puts_15 : decode cX7_puts 15 = .ok (.istore 5, 2) := dk_10 dd_376
theorem dX7_puts_17 : decode cX7_puts 17 = .ok (.aload_n 0, 1) := dk_11 dd_376
theorem dX7_puts_18 : decode cX7_puts 18 = .ok (.getfield 7, 3) := dk_12 dd_376
theorem dX7_puts_21 : decode cX7_puts 21 = .ok (.iload_n 2, 1) := dk_13 dd_376
theorem dX7_puts_22 : decode cX7_puts 22 = .ok (.iload_n 3, 1) := dk_14 dd_376
theorem dX7_puts_23 : decode cX7_puts 23 = .ok (.iload 4, 2) := dk_15 dd_376
theorem dd_377 : fd_G cX7_puts 25 [(25, .isub, 1), (26, .iastore, 1), (27, .iload 5, 2), (29, .ireturn, 1)] = true := by decide +kernel
theorem dX7_puts_25 : decode cX7_puts 25 = .ok (.isub, 1) := dk_0 dd_377
theorem dX7_puts_26 : decode cX7_puts 26 = .ok (.iastore, 1) := dk_1 dd_377
theorem dX7_puts_27 : decode cX7_puts 27 = .ok (.iload 5, 2) := dk_2 dd_377
theorem dX7_puts_29 : decode cX7_puts 29 = .ok (.ireturn, 1) := dk_3 dd_377
theorem dd_378 : fd_G cX7_alter 0 [(0, .aload_n 0, 1), (1, .aload_n 0, 1), (2, .iload_n 1, 1), (3, .invokevirtual 158, 3), (6, .ifCond .eq 40, 3), (9, .iload_n 2, 1), (10, .ifCond .ne 15, 3), (13, .iload_n 3, 1), (14, .i2l, 1), (15, .lconst 0, 1), (16, .ldc2_w 167, 3), (19, .invokestatic 49, 3), (22, .ifCond .ne 20, 3), (25, .iload_n 2, 1), (26, .iconst 1, 1), (27, .if_icmp .ne 19, 3)] = true := by decide +kernel
theorem dX7_alter_0 : decode cX7_alter 0 = .ok (.aload_n 0, 1) := dk_0 dd_378
theorem dX7_alter_1 : decode cX7_alter 1 = .ok (.aload_n 0, 1) := dk_1 dd_378
theorem dX7_alter_2 : decode cX7_alter 2 = .ok (.iload_n 1, 1) := dk_2 dd_378
theorem dX7_alter_3 : decode cX7_alter 3 = .ok (.invokevirtual 158, 3) := dk_3 dd_378
theorem dX7_alter_6 : decode cX7_alter 6 = .ok (.ifCond .eq 40, 3) := dk_4 dd_378
theorem dX7_alter_9 : decode cX7_alter 9 = .ok (.iload_n 2, 1) := dk_5 dd_378
theorem dX7_alter_10 : decode cX7_alter 10 = .ok (.ifCond .ne 15, 3) := dk_6 dd_378
theorem dX7_alter_13 : decode cX7_alter 13 = .ok (.iload_n 3, 1) := dk_7 dd_378
theorem dX7_alter_14 : decode cX7_alter 14 = .ok (.i2l, 1) := dk_8 dd_378
theorem dX7_alter_15 : decode cX7_alter 15 = .ok (.lconst 0, 1) := dk_9 dd_378
theorem dX7_alter_16 : decode cX7_alter 16 = .ok (.ldc2_w 167, 3) := dk_10 dd_378
theorem dX7_alter_19 : decode cX7_alter 19 = .ok (.invokestatic 49, 3) := dk_11 dd_378
theorem dX7_alter_22 : decode cX7_alter 22 = .ok (.ifCond .ne 20, 3) := dk_12 dd_378
theorem dX7_alter_25 : decode cX7_alter 25 = .ok (.iload_n 2, 1) := dk_13 dd_378
theorem dX7_alter_26 : decode cX7_alter 26 = .ok (.iconst 1, 1) := dk_14 dd_378
theorem dX7_alter_27 : decode cX7_alter 27 = .ok (.if_icmp .ne 19, 3) := dk_15 dd_378
theorem dd_379 : fd_G cX7_alter 30 [(30, .iload_n 3, 1), (31, .i2l, 1), (32, .lconst 0, 1), (33, .ldc2_w 169, 3), (36, .invokestatic 49, 3), (39, .ifCond .eq 7, 3), (42, .iconst 1, 1), (43, .goto 4, 3), (46, .iconst 0, 1), (47, .iconst 5, 1), (48, .iload_n 2, 1), (49, .imul, 1), (50, .iload_n 1, 1), (51, .iadd, 1), (52, .iload_n 3, 1), (53, .iconst 0, 1)] = true := by decide +kernel
theorem dX7_alter_30 : decode cX7_alter 30 = .ok (.iload_n 3, 1) := dk_0 dd_379
theorem dX7_alter_31 : decode cX7_alter 31 = .ok (.i2l, 1) := dk_1 dd_379
theorem dX7_alter_32 : decode cX7_alter 32 = .ok (.lconst 0, 1) := dk_2 dd_379
theorem dX7_alter_33 : decode cX7_alter 33 = .ok (.ldc2_w 169, 3) := dk_3 dd_379
theorem dX7_alter_36 : decode cX7_alter 36 = .ok (.invokestatic 49, 3) := dk_4 dd_379
theorem dX7_alter_39 : decode cX7_alter 39 = .ok (.ifCond .eq 7, 3) := dk_5 dd_379
theorem dX7_alter_42 : decode cX7_alter 42 = .ok (.iconst 1, 1) := dk_6 dd_379
theorem dX7_alter_43 : decode cX7_alter 43 = .ok (.goto 4, 3) := dk_7 dd_379
theorem dX7_alter_46 : decode cX7_alter 46 = .ok (.iconst 0, 1) := dk_8 dd_379
theorem dX7_alter_47 : decode cX7_alter 47 = .ok (.iconst 5, 1) := dk_9 dd_379
theorem dX7_alter_48 : decode cX7_alter 48 = .ok (.iload_n 2, 1) := dk_10 dd_379
theorem dX7_alter_49 : decode cX7_alter 49 = .ok (.imul, 1) := dk_11 dd_379
theorem dX7_alter_50 : decode cX7_alter 50 = .ok (.iload_n 1, 1) := dk_12 dd_379
theorem dX7_alter_51 : decode cX7_alter 51 = .ok (.iadd, 1) := dk_13 dd_379
theorem dX7_alter_52 : decode cX7_alter 52 = .ok (.iload_n 3, 1) := dk_14 dd_379
theorem dX7_alter_53 : decode cX7_alter 53 = .ok (.iconst 0, 1) := dk_15 dd_379
theorem dd_380 : fd_G cX7_alter 54 [(54, .invokevirtual 171, 3), (57, .ireturn, 1)] = true := by decide +kernel
theorem dX7_alter_54 : decode cX7_alter 54 = .ok (.invokevirtual 171, 3) := dk_0 dd_380
theorem dX7_alter_57 : decode cX7_alter 57 = .ok (.ireturn, 1) := dk_1 dd_380
theorem dd_381 : fd_G cX7_room 0 [(0, .aload_n 0, 1), (1, .iload_n 1, 1), (2, .i2l, 1), (3, .lconst 1, 1), (4, .ldc2_w 175, 3), (7, .invokestatic 49, 3), (10, .bipush 17, 2), (12, .iload_n 1, 1), (13, .iconst 2, 1), (14, .invokevirtual 171, 3), (17, .ireturn, 1)] = true := by decide +kernel
theorem dX7_room_0 : decode cX7_room 0 = .ok (.aload_n 0, 1) := dk_0 dd_381
theorem dX7_room_1 : decode cX7_room 1 = .ok (.iload_n 1, 1) := dk_1 dd_381
theorem dX7_room_2 : decode cX7_room 2 = .ok (.i2l, 1) := dk_2 dd_381
theorem dX7_room_3 : decode cX7_room 3 = .ok (.lconst 1, 1) := dk_3 dd_381
theorem dX7_room_4 : decode cX7_room 4 = .ok (.ldc2_w 175, 3) := dk_4 dd_381
theorem dX7_room_7 : decode cX7_room 7 = .ok (.invokestatic 49, 3) := dk_5 dd_381
theorem dX7_room_10 : decode cX7_room 10 = .ok (.bipush 17, 2) := dk_6 dd_381
theorem dX7_room_12 : decode cX7_room 12 = .ok (.iload_n 1, 1) := dk_7 dd_381
theorem dX7_room_13 : decode cX7_room 13 = .ok (.iconst 2, 1) := dk_8 dd_381
theorem dX7_room_14 : decode cX7_room 14 = .ok (.invokevirtual 171, 3) := dk_9 dd_381
theorem dX7_room_17 : decode cX7_room 17 = .ok (.ireturn, 1) := dk_10 dd_381
theorem dd_382 : fd_G cX7_think 0 [(0, .aload_n 0, 1), (1, .iload_n 1, 1), (2, .i2l, 1), (3, .lconst 1, 1), (4, .ldc2_w 177, 3), (7, .invokestatic 49, 3), (10, .bipush 18, 2), (12, .iload_n 1, 1), (13, .iconst 4, 1), (14, .invokevirtual 171, 3), (17, .ireturn, 1)] = true := by decide +kernel
theorem dX7_think_0 : decode cX7_think 0 = .ok (.aload_n 0, 1) := dk_0 dd_382
theorem dX7_think_1 : decode cX7_think 1 = .ok (.iload_n 1, 1) := dk_1 dd_382
theorem dX7_think_2 : decode cX7_think 2 = .ok (.i2l, 1) := dk_2 dd_382
theorem dX7_think_3 : decode cX7_think 3 = .ok (.lconst 1, 1) := dk_3 dd_382
theorem dX7_think_4 : decode cX7_think 4 = .ok (.ldc2_w 177, 3) := dk_4 dd_382
theorem dX7_think_7 : decode cX7_think 7 = .ok (.invokestatic 49, 3) := dk_5 dd_382
theorem dX7_think_10 : decode cX7_think 10 = .ok (.bipush 18, 2) := dk_6 dd_382
theorem dX7_think_12 : decode cX7_think 12 = .ok (.iload_n 1, 1) := dk_7 dd_382
theorem dX7_think_13 : decode cX7_think 13 = .ok (.iconst 4, 1) := dk_8 dd_382
theorem dX7_think_14 : decode cX7_think 14 = .ok (.invokevirtual 171, 3) := dk_9 dd_382
theorem dX7_think_17 : decode cX7_think 17 = .ok (.ireturn, 1) := dk_10 dd_382
theorem dd_383 : fd_G cX7_isAct 0 [(0, .aload_n 0, 1), (1, .iload_n 1, 1), (2, .invokevirtual 158, 3), (5, .ifCond .ne 14, 3), (8, .iload_n 1, 1), (9, .iconst 5, 1), (10, .if_icmp .eq 9, 3), (13, .iload_n 1, 1), (14, .bipush 6, 2), (16, .if_icmp .ne 7, 3), (19, .iconst 1, 1), (20, .goto 4, 3), (23, .iconst 0, 1), (24, .ireturn, 1)] = true := by decide +kernel
theorem dX7_isAct_0 : decode cX7_isAct 0 = .ok (.aload_n 0, 1) := dk_0 dd_383
theorem dX7_isAct_1 : decode cX7_isAct 1 = .ok (.iload_n 1, 1) := dk_1 dd_383
theorem dX7_isAct_2 : decode cX7_isAct 2 = .ok (.invokevirtual 158, 3) := dk_2 dd_383
theorem dX7_isAct_5 : decode cX7_isAct 5 = .ok (.ifCond .ne 14, 3) := dk_3 dd_383
theorem dX7_isAct_8 : decode cX7_isAct 8 = .ok (.iload_n 1, 1) := dk_4 dd_383
theorem dX7_isAct_9 : decode cX7_isAct 9 = .ok (.iconst 5, 1) := dk_5 dd_383
theorem dX7_isAct_10 : decode cX7_isAct 10 = .ok (.if_icmp .eq 9, 3) := dk_6 dd_383
theorem dX7_isAct_13 : decode cX7_isAct 13 = .ok (.iload_n 1, 1) := dk_7 dd_383
theorem dX7_isAct_14 : decode cX7_isAct 14 = .ok (.bipush 6, 2) := dk_8 dd_383
theorem dX7_isAct_16 : decode cX7_isAct 16 = .ok (.if_icmp .ne 7, 3) := dk_9 dd_383
theorem dX7_isAct_19 : decode cX7_isAct 19 = .ok (.iconst 1, 1) := dk_10 dd_383
theorem dX7_isAct_20 : decode cX7_isAct 20 = .ok (.goto 4, 3) := dk_11 dd_383
theorem dX7_isAct_23 : decode cX7_isAct 23 = .ok (.iconst 0, 1) := dk_12 dd_383
theorem dX7_isAct_24 : decode cX7_isAct 24 = .ok (.ireturn, 1) := dk_13 dd_383
theorem dd_384 : fd_G cX7_plan 0 [(0, .aload_n 0, 1), (1, .iload_n 1, 1), (2, .invokevirtual 179, 3), (5, .ifCond .ne 5, 3), (8, .iconst (-1), 1), (9, .ireturn, 1), (10, .aload_n 0, 1), (11, .getfield 7, 3), (14, .bipush 27, 2), (16, .iaload, 1), (17, .bipush 8, 2), (19, .if_icmp .ne 6, 3), (22, .bipush (-3), 2), (24, .ireturn, 1), (25, .aload_n 0, 1), (26, .getfield 7, 3)] = true := by decide +kernel
theorem dX7_plan_0 : decode cX7_plan 0 = .ok (.aload_n 0, 1) := dk_0 dd_384
theorem dX7_plan_1 : decode cX7_plan 1 = .ok (.iload_n 1, 1) := dk_1 dd_384
theorem dX7_plan_2 : decode cX7_plan 2 = .ok (.invokevirtual 179, 3) := dk_2 dd_384
theorem dX7_plan_5 : decode cX7_plan 5 = .ok (.ifCond .ne 5, 3) := dk_3 dd_384
theorem dX7_plan_8 : decode cX7_plan 8 = .ok (.iconst (-1), 1) := dk_4 dd_384
theorem dX7_plan_9 : decode cX7_plan 9 = .ok (.ireturn, 1) := dk_5 dd_384
theorem dX7_plan_10 : decode cX7_plan 10 = .ok (.aload_n 0, 1) := dk_6 dd_384
theorem dX7_plan_11 : decode cX7_plan 11 = .ok (.getfield 7, 3) := dk_7 dd_384
theorem dX7_plan_14 : decode cX7_plan 14 = .ok (.bipush 27, 2) := dk_8 dd_384
theorem dX7_plan_16 : decode cX7_plan 16 = .ok (.iaload, 1) := dk_9 dd_384
theorem dX7_plan_17 : decode cX7_plan 17 = .ok (.bipush 8, 2) := dk_10 dd_384
theorem dX7_plan_19 : decode cX7_plan 19 = .ok (.if_icmp .ne 6, 3) := dk_11 dd_384
theorem dX7_plan_22 : decode cX7_plan 22 = .ok (.bipush (-3), 2) := dk_12 dd_384
theorem dX7_plan_24 : decode cX7_plan 24 = .ok (.ireturn, 1) := dk_13 dd_384
theorem dX7_plan_25 : decode cX7_plan 25 = .ok (.aload_n 0, 1) := dk_14 dd_384
theorem dX7_plan_26 : decode cX7_plan 26 = .ok (.getfield 7, 3) := dk_15 dd_384
theorem dX7_plan_47 : decode cX7_plan 47 = .ok (.dup2, 1) := by decide +kernel
theorem dd_385 : fd_G cX7_plan 29 [(29, .bipush 19, 2), (31, .aload_n 0, 1), (32, .getfield 7, 3), (35, .bipush 27, 2), (37, .iaload, 1), (38, .iadd, 1), (39, .iload_n 1, 1), (40, .iastore, 1), (41, .aload_n 0, 1), (42, .getfield 7, 3), (45, .bipush 27, 2), (48, .iaload, 1), (49, .iconst 1, 1), (50, .iadd, 1), (51, .iastore, 1), (52, .aload_n 0, 1)] = true := by decide +kernel
theorem dX7_plan_29 : decode cX7_plan 29 = .ok (.bipush 19, 2) := dk_0 dd_385
theorem dX7_plan_31 : decode cX7_plan 31 = .ok (.aload_n 0, 1) := dk_1 dd_385
theorem dX7_plan_32 : decode cX7_plan 32 = .ok (.getfield 7, 3) := dk_2 dd_385
theorem dX7_plan_35 : decode cX7_plan 35 = .ok (.bipush 27, 2) := dk_3 dd_385
theorem dX7_plan_37 : decode cX7_plan 37 = .ok (.iaload, 1) := dk_4 dd_385
theorem dX7_plan_38 : decode cX7_plan 38 = .ok (.iadd, 1) := dk_5 dd_385
theorem dX7_plan_39 : decode cX7_plan 39 = .ok (.iload_n 1, 1) := dk_6 dd_385
theorem dX7_plan_40 : decode cX7_plan 40 = .ok (.iastore, 1) := dk_7 dd_385
theorem dX7_plan_41 : decode cX7_plan 41 = .ok (.aload_n 0, 1) := dk_8 dd_385
theorem dX7_plan_42 : decode cX7_plan 42 = .ok (.getfield 7, 3) := dk_9 dd_385
theorem dX7_plan_45 : decode cX7_plan 45 = .ok (.bipush 27, 2) := dk_10 dd_385
theorem dX7_plan_48 : decode cX7_plan 48 = .ok (.iaload, 1) := dk_11 dd_385
theorem dX7_plan_49 : decode cX7_plan 49 = .ok (.iconst 1, 1) := dk_12 dd_385
theorem dX7_plan_50 : decode cX7_plan 50 = .ok (.iadd, 1) := dk_13 dd_385
theorem dX7_plan_51 : decode cX7_plan 51 = .ok (.iastore, 1) := dk_14 dd_385
theorem dX7_plan_52 : decode cX7_plan 52 = .ok (.aload_n 0, 1) := dk_15 dd_385
theorem dd_386 : fd_G cX7_plan 53 [(53, .getfield 7, 3), (56, .bipush 27, 2), (58, .iaload, 1), (59, .ireturn, 1)] = true := by decide +kernel
theorem dX7_plan_53 : decode cX7_plan 53 = .ok (.getfield 7, 3) := dk_0 dd_386
theorem dX7_plan_56 : decode cX7_plan 56 = .ok (.bipush 27, 2) := dk_1 dd_386
theorem dX7_plan_58 : decode cX7_plan 58 = .ok (.iaload, 1) := dk_2 dd_386
theorem dX7_plan_59 : decode cX7_plan 59 = .ok (.ireturn, 1) := dk_3 dd_386
theorem dd_387 : fd_G cX7_cut 0 [(0, .aload_n 0, 1), (1, .iload_n 1, 1), (2, .i2l, 1), (3, .lconst 0, 1), (4, .aload_n 0, 1), (5, .getfield 7, 3), (8, .bipush 27, 2), (10, .iaload, 1), (11, .i2l, 1), (12, .invokestatic 49, 3), (15, .bipush 27, 2), (17, .iload_n 1, 1), (18, .iconst 0, 1), (19, .invokevirtual 171, 3), (22, .ireturn, 1)] = true := by decide +kernel
theorem dX7_cut_0 : decode cX7_cut 0 = .ok (.aload_n 0, 1) := dk_0 dd_387
theorem dX7_cut_1 : decode cX7_cut 1 = .ok (.iload_n 1, 1) := dk_1 dd_387
theorem dX7_cut_2 : decode cX7_cut 2 = .ok (.i2l, 1) := dk_2 dd_387
theorem dX7_cut_3 : decode cX7_cut 3 = .ok (.lconst 0, 1) := dk_3 dd_387
theorem dX7_cut_4 : decode cX7_cut 4 = .ok (.aload_n 0, 1) := dk_4 dd_387
theorem dX7_cut_5 : decode cX7_cut 5 = .ok (.getfield 7, 3) := dk_5 dd_387
theorem dX7_cut_8 : decode cX7_cut 8 = .ok (.bipush 27, 2) := dk_6 dd_387
theorem dX7_cut_10 : decode cX7_cut 10 = .ok (.iaload, 1) := dk_7 dd_387
theorem dX7_cut_11 : decode cX7_cut 11 = .ok (.i2l, 1) := dk_8 dd_387
theorem dX7_cut_12 : decode cX7_cut 12 = .ok (.invokestatic 49, 3) := dk_9 dd_387
theorem dX7_cut_15 : decode cX7_cut 15 = .ok (.bipush 27, 2) := dk_10 dd_387
theorem dX7_cut_17 : decode cX7_cut 17 = .ok (.iload_n 1, 1) := dk_11 dd_387
theorem dX7_cut_18 : decode cX7_cut 18 = .ok (.iconst 0, 1) := dk_12 dd_387
theorem dX7_cut_19 : decode cX7_cut 19 = .ok (.invokevirtual 171, 3) := dk_13 dd_387
theorem dX7_cut_22 : decode cX7_cut 22 = .ok (.ireturn, 1) := dk_14 dd_387
theorem dd_388 : fd_G cX7_thinks 0 [(0, .aload_n 0, 1), (1, .iload_n 1, 1), (2, .invokevirtual 158, 3), (5, .ifCond .ne 5, 3), (8, .iconst (-1), 1), (9, .ireturn, 1), (10, .aload_n 0, 1), (11, .iconst 0, 1), (12, .iload_n 1, 1), (13, .invokevirtual 131, 3), (16, .ifCond .eq 12, 3), (19, .aload_n 0, 1), (20, .iconst 0, 1), (21, .iload_n 1, 1), (22, .invokevirtual 182, 3), (25, .goto 5, 3)] = true := by decide +kernel
theorem dX7_thinks_0 : decode cX7_thinks 0 = .ok (.aload_n 0, 1) := dk_0 dd_388
theorem dX7_thinks_1 : decode cX7_thinks 1 = .ok (.iload_n 1, 1) := dk_1 dd_388
theorem dX7_thinks_2 : decode cX7_thinks 2 = .ok (.invokevirtual 158, 3) := dk_2 dd_388
theorem dX7_thinks_5 : decode cX7_thinks 5 = .ok (.ifCond .ne 5, 3) := dk_3 dd_388
theorem dX7_thinks_8 : decode cX7_thinks 8 = .ok (.iconst (-1), 1) := dk_4 dd_388
theorem dX7_thinks_9 : decode cX7_thinks 9 = .ok (.ireturn, 1) := dk_5 dd_388
theorem dX7_thinks_10 : decode cX7_thinks 10 = .ok (.aload_n 0, 1) := dk_6 dd_388
theorem dX7_thinks_11 : decode cX7_thinks 11 = .ok (.iconst 0, 1) := dk_7 dd_388
theorem dX7_thinks_12 : decode cX7_thinks 12 = .ok (.iload_n 1, 1) := dk_8 dd_388
theorem dX7_thinks_13 : decode cX7_thinks 13 = .ok (.invokevirtual 131, 3) := dk_9 dd_388
theorem dX7_thinks_16 : decode cX7_thinks 16 = .ok (.ifCond .eq 12, 3) := dk_10 dd_388
theorem dX7_thinks_19 : decode cX7_thinks 19 = .ok (.aload_n 0, 1) := dk_11 dd_388
theorem dX7_thinks_20 : decode cX7_thinks 20 = .ok (.iconst 0, 1) := dk_12 dd_388
theorem dX7_thinks_21 : decode cX7_thinks 21 = .ok (.iload_n 1, 1) := dk_13 dd_388
theorem dX7_thinks_22 : decode cX7_thinks 22 = .ok (.invokevirtual 182, 3) := dk_14 dd_388
theorem dX7_thinks_25 : decode cX7_thinks 25 = .ok (.goto 5, 3) := dk_15 dd_388
theorem dd_389 : fd_G cX7_thinks 28 [(28, .bipush (-2), 2), (30, .ireturn, 1)] = true := by decide +kernel
theorem dX7_thinks_28 : decode cX7_thinks 28 = .ok (.bipush (-2), 2) := dk_0 dd_389
theorem dX7_thinks_30 : decode cX7_thinks 30 = .ok (.ireturn, 1) := dk_1 dd_389
theorem dd_390 : fd_G cX7_minutes 0 [(0, .iload_n 1, 1), (1, .i2l, 1), (2, .lconst 0, 1), (3, .ldc2_w 185, 3), (6, .invokestatic 49, 3), (9, .ifCond .ne 5, 3), (12, .iconst (-1), 1), (13, .ireturn, 1), (14, .iconst 0, 1), (15, .istore_n 2, 1), (16, .iload_n 2, 1), (17, .iload_n 1, 1), (18, .if_icmp .ge 14, 3), (21, .aload_n 0, 1), (22, .iconst 0, 1), (23, .invokevirtual 187, 3)] = true := by decide +kernel
theorem dX7_minutes_0 : decode cX7_minutes 0 = .ok (.iload_n 1, 1) := dk_0 dd_390
theorem dX7_minutes_1 : decode cX7_minutes 1 = .ok (.i2l, 1) := dk_1 dd_390
theorem dX7_minutes_2 : decode cX7_minutes 2 = .ok (.lconst 0, 1) := dk_2 dd_390
theorem dX7_minutes_3 : decode cX7_minutes 3 = .ok (.ldc2_w 185, 3) := dk_3 dd_390
theorem dX7_minutes_6 : decode cX7_minutes 6 = .ok (.invokestatic 49, 3) := dk_4 dd_390
theorem dX7_minutes_9 : decode cX7_minutes 9 = .ok (.ifCond .ne 5, 3) := dk_5 dd_390
theorem dX7_minutes_12 : decode cX7_minutes 12 = .ok (.iconst (-1), 1) := dk_6 dd_390
theorem dX7_minutes_13 : decode cX7_minutes 13 = .ok (.ireturn, 1) := dk_7 dd_390
theorem dX7_minutes_14 : decode cX7_minutes 14 = .ok (.iconst 0, 1) := dk_8 dd_390
theorem dX7_minutes_15 : decode cX7_minutes 15 = .ok (.istore_n 2, 1) := dk_9 dd_390
theorem dX7_minutes_16 : decode cX7_minutes 16 = .ok (.iload_n 2, 1) := dk_10 dd_390
theorem dX7_minutes_17 : decode cX7_minutes 17 = .ok (.iload_n 1, 1) := dk_11 dd_390
theorem dX7_minutes_18 : decode cX7_minutes 18 = .ok (.if_icmp .ge 14, 3) := dk_12 dd_390
theorem dX7_minutes_21 : decode cX7_minutes 21 = .ok (.aload_n 0, 1) := dk_13 dd_390
theorem dX7_minutes_22 : decode cX7_minutes 22 = .ok (.iconst 0, 1) := dk_14 dd_390
theorem dX7_minutes_23 : decode cX7_minutes 23 = .ok (.invokevirtual 187, 3) := dk_15 dd_390
theorem dd_391 : fd_G cX7_minutes 26 [(26, .iinc 2 1, 3), (29, .goto (-13), 3), (32, .aload_n 0, 1), (33, .iconst 0, 1), (34, .invokevirtual 155, 3), (37, .ireturn, 1)] = true := by decide +kernel
theorem dX7_minutes_26 : decode cX7_minutes 26 = .ok (.iinc 2 1, 3) := dk_0 dd_391
theorem dX7_minutes_29 : decode cX7_minutes 29 = .ok (.goto (-13), 3) := dk_1 dd_391
theorem dX7_minutes_32 : decode cX7_minutes 32 = .ok (.aload_n 0, 1) := dk_2 dd_391
theorem dX7_minutes_33 : decode cX7_minutes 33 = .ok (.iconst 0, 1) := dk_3 dd_391
theorem dX7_minutes_34 : decode cX7_minutes 34 = .ok (.invokevirtual 155, 3) := dk_4 dd_391
theorem dX7_minutes_37 : decode cX7_minutes 37 = .ok (.ireturn, 1) := dk_5 dd_391
theorem dd_392 : fd_G cX7_tram 0 [(0, .aload_n 0, 1), (1, .iconst 0, 1), (2, .invokevirtual 190, 3), (5, .ireturn, 1)] = true := by decide +kernel
theorem dX7_tram_0 : decode cX7_tram 0 = .ok (.aload_n 0, 1) := dk_0 dd_392
theorem dX7_tram_1 : decode cX7_tram 1 = .ok (.iconst 0, 1) := dk_1 dd_392
theorem dX7_tram_2 : decode cX7_tram 2 = .ok (.invokevirtual 190, 3) := dk_2 dd_392
theorem dX7_tram_5 : decode cX7_tram 5 = .ok (.ireturn, 1) := dk_3 dd_392
theorem dd_393 : fd_G cX7_joy 0 [(0, .aload_n 0, 1), (1, .iload_n 1, 1), (2, .invokevirtual 158, 3), (5, .ifCond .ne 5, 3), (8, .iconst (-1), 1), (9, .ireturn, 1), (10, .aload_n 0, 1), (11, .iconst 0, 1), (12, .iload_n 1, 1), (13, .invokevirtual 131, 3), (16, .ifCond .ne 6, 3), (19, .bipush (-2), 2), (21, .ireturn, 1), (22, .aload_n 0, 1), (23, .getfield 7, 3), (26, .iconst 5, 1)] = true := by decide +kernel
theorem dX7_joy_0 : decode cX7_joy 0 = .ok (.aload_n 0, 1) := dk_0 dd_393
theorem dX7_joy_1 : decode cX7_joy 1 = .ok (.iload_n 1, 1) := dk_1 dd_393
theorem dX7_joy_2 : decode cX7_joy 2 = .ok (.invokevirtual 158, 3) := dk_2 dd_393
theorem dX7_joy_5 : decode cX7_joy 5 = .ok (.ifCond .ne 5, 3) := dk_3 dd_393
theorem dX7_joy_8 : decode cX7_joy 8 = .ok (.iconst (-1), 1) := dk_4 dd_393
theorem dX7_joy_9 : decode cX7_joy 9 = .ok (.ireturn, 1) := dk_5 dd_393
theorem dX7_joy_10 : decode cX7_joy 10 = .ok (.aload_n 0, 1) := dk_6 dd_393
theorem dX7_joy_11 : decode cX7_joy 11 = .ok (.iconst 0, 1) := dk_7 dd_393
theorem dX7_joy_12 : decode cX7_joy 12 = .ok (.iload_n 1, 1) := dk_8 dd_393
theorem dX7_joy_13 : decode cX7_joy 13 = .ok (.invokevirtual 131, 3) := dk_9 dd_393
theorem dX7_joy_16 : decode cX7_joy 16 = .ok (.ifCond .ne 6, 3) := dk_10 dd_393
theorem dX7_joy_19 : decode cX7_joy 19 = .ok (.bipush (-2), 2) := dk_11 dd_393
theorem dX7_joy_21 : decode cX7_joy 21 = .ok (.ireturn, 1) := dk_12 dd_393
theorem dX7_joy_22 : decode cX7_joy 22 = .ok (.aload_n 0, 1) := dk_13 dd_393
theorem dX7_joy_23 : decode cX7_joy 23 = .ok (.getfield 7, 3) := dk_14 dd_393
theorem dX7_joy_26 : decode cX7_joy 26 = .ok (.iconst 5, 1) := dk_15 dd_393
theorem dd_394 : fd_G cX7_joy 27 [(27, .iload_n 1, 1), (28, .iadd, 1), (29, .iaload, 1), (30, .istore_n 2, 1), (31, .aload_n 0, 1), (32, .getfield 7, 3), (35, .iconst 5, 1), (36, .iload_n 1, 1), (37, .iadd, 1), (38, .iconst 0, 1), (39, .iastore, 1), (40, .aload_n 0, 1), (41, .getfield 7, 3), (44, .bipush 10, 2), (46, .iload_n 1, 1), (47, .iadd, 1)] = true := by decide +kernel
theorem dX7_joy_27 : decode cX7_joy 27 = .ok (.iload_n 1, 1) := dk_0 dd_394
theorem dX7_joy_28 : decode cX7_joy 28 = .ok (.iadd, 1) := dk_1 dd_394
theorem dX7_joy_29 : decode cX7_joy 29 = .ok (.iaload, 1) := dk_2 dd_394
theorem dX7_joy_30 : decode cX7_joy 30 = .ok (.istore_n 2, 1) := dk_3 dd_394
theorem dX7_joy_31 : decode cX7_joy 31 = .ok (.aload_n 0, 1) := dk_4 dd_394
theorem dX7_joy_32 : decode cX7_joy 32 = .ok (.getfield 7, 3) := dk_5 dd_394
theorem dX7_joy_35 : decode cX7_joy 35 = .ok (.iconst 5, 1) := dk_6 dd_394
theorem dX7_joy_36 : decode cX7_joy 36 = .ok (.iload_n 1, 1) := dk_7 dd_394
theorem dX7_joy_37 : decode cX7_joy 37 = .ok (.iadd, 1) := dk_8 dd_394
theorem dX7_joy_38 : decode cX7_joy 38 = .ok (.iconst 0, 1) := dk_9 dd_394
theorem dX7_joy_39 : decode cX7_joy 39 = .ok (.iastore, 1) := dk_10 dd_394
theorem dX7_joy_40 : decode cX7_joy 40 = .ok (.aload_n 0, 1) := dk_11 dd_394
theorem dX7_joy_41 : decode cX7_joy 41 = .ok (.getfield 7, 3) := dk_12 dd_394
theorem dX7_joy_44 : decode cX7_joy 44 = .ok (.bipush 10, 2) := dk_13 dd_394
theorem dX7_joy_46 : decode cX7_joy 46 = .ok (.iload_n 1, 1) := dk_14 dd_394
theorem dX7_joy_47 : decode cX7_joy 47 = .ok (.iadd, 1) := dk_15 dd_394
theorem dd_395 : fd_G cX7_joy 48 [(48, .iconst 0, 1), (49, .iastore, 1), (50, .iload_n 2, 1), (51, .ireturn, 1)] = true := by decide +kernel
theorem dX7_joy_48 : decode cX7_joy 48 = .ok (.iconst 0, 1) := dk_0 dd_395
theorem dX7_joy_49 : decode cX7_joy 49 = .ok (.iastore, 1) := dk_1 dd_395
theorem dX7_joy_50 : decode cX7_joy 50 = .ok (.iload_n 2, 1) := dk_2 dd_395
theorem dX7_joy_51 : decode cX7_joy 51 = .ok (.ireturn, 1) := dk_3 dd_395
theorem dd_396 : fd_G cX7_second 0 [(0, .aload_n 0, 1), (1, .getfield 7, 3), (4, .bipush 15, 2), (6, .iaload, 1), (7, .invokestatic 193, 3), (10, .istore_n 1, 1), (11, .aload_n 0, 1), (12, .getfield 7, 3), (15, .bipush 15, 2), (17, .iconst 0, 1), (18, .iastore, 1), (19, .iload_n 1, 1), (20, .ireturn, 1)] = true := by decide +kernel
theorem dX7_second_0 : decode cX7_second 0 = .ok (.aload_n 0, 1) := dk_0 dd_396
theorem dX7_second_1 : decode cX7_second 1 = .ok (.getfield 7, 3) := dk_1 dd_396
theorem dX7_second_4 : decode cX7_second 4 = .ok (.bipush 15, 2) := dk_2 dd_396
theorem dX7_second_6 : decode cX7_second 6 = .ok (.iaload, 1) := dk_3 dd_396
theorem dX7_second_7 : decode cX7_second 7 = .ok (.invokestatic 193, 3) := dk_4 dd_396
theorem dX7_second_10 : decode cX7_second 10 = .ok (.istore_n 1, 1) := dk_5 dd_396
theorem dX7_second_11 : decode cX7_second 11 = .ok (.aload_n 0, 1) := dk_6 dd_396
theorem dX7_second_12 : decode cX7_second 12 = .ok (.getfield 7, 3) := dk_7 dd_396
theorem dX7_second_15 : decode cX7_second 15 = .ok (.bipush 15, 2) := dk_8 dd_396
theorem dX7_second_17 : decode cX7_second 17 = .ok (.iconst 0, 1) := dk_9 dd_396
theorem dX7_second_18 : decode cX7_second 18 = .ok (.iastore, 1) := dk_10 dd_396
theorem dX7_second_19 : decode cX7_second 19 = .ok (.iload_n 1, 1) := dk_11 dd_396
theorem dX7_second_20 : decode cX7_second 20 = .ok (.ireturn, 1) := dk_12 dd_396
theorem dX7_bitsOf_5 : decode cX7_bitsOf 5 = .ok (.ifCond .le 16, 3) := by decide +kernel
theorem dd_397 : fd_G cX7_bitsOf 0 [(0, .iconst 0, 1), (1, .istore_n 1, 1), (2, .iload_n 0, 1), (3, .istore_n 2, 1), (4, .iload_n 2, 1), (8, .iload_n 1, 1), (9, .iload_n 2, 1), (10, .iconst 1, 1), (11, .iand, 1), (12, .iadd, 1), (13, .istore_n 1, 1), (14, .iload_n 2, 1), (15, .iconst 1, 1), (16, .ishr, 1), (17, .istore_n 2, 1), (18, .goto (-14), 3)] = true := by decide +kernel
theorem dX7_bitsOf_0 : decode cX7_bitsOf 0 = .ok (.iconst 0, 1) := dk_0 dd_397
theorem dX7_bitsOf_1 : decode cX7_bitsOf 1 = .ok (.istore_n 1, 1) := dk_1 dd_397
theorem dX7_bitsOf_2 : decode cX7_bitsOf 2 = .ok (.iload_n 0, 1) := dk_2 dd_397
theorem dX7_bitsOf_3 : decode cX7_bitsOf 3 = .ok (.istore_n 2, 1) := dk_3 dd_397
theorem dX7_bitsOf_4 : decode cX7_bitsOf 4 = .ok (.iload_n 2, 1) := dk_4 dd_397
theorem dX7_bitsOf_8 : decode cX7_bitsOf 8 = .ok (.iload_n 1, 1) := dk_5 dd_397
theorem dX7_bitsOf_9 : decode cX7_bitsOf 9 = .ok (.iload_n 2, 1) := dk_6 dd_397
theorem dX7_bitsOf_10 : decode cX7_bitsOf 10 = .ok (.iconst 1, 1) := dk_7 dd_397
theorem dX7_bitsOf_11 : decode cX7_bitsOf 11 = .ok (.iand, 1) := dk_8 dd_397
theorem dX7_bitsOf_12 : decode cX7_bitsOf 12 = .ok (.iadd, 1) := dk_9 dd_397
theorem dX7_bitsOf_13 : decode cX7_bitsOf 13 = .ok (.istore_n 1, 1) := dk_10 dd_397
theorem dX7_bitsOf_14 : decode cX7_bitsOf 14 = .ok (.iload_n 2, 1) := dk_11 dd_397
theorem dX7_bitsOf_15 : decode cX7_bitsOf 15 = .ok (.iconst 1, 1) := dk_12 dd_397
theorem dX7_bitsOf_16 : decode cX7_bitsOf 16 = .ok (.ishr, 1) := dk_13 dd_397
theorem dX7_bitsOf_17 : decode cX7_bitsOf 17 = .ok (.istore_n 2, 1) := dk_14 dd_397
theorem dX7_bitsOf_18 : decode cX7_bitsOf 18 = .ok (.goto (-14), 3) := dk_15 dd_397
theorem dd_398 : fd_G cX7_bitsOf 21 [(21, .iload_n 1, 1), (22, .ireturn, 1)] = true := by decide +kernel
theorem dX7_bitsOf_21 : decode cX7_bitsOf 21 = .ok (.iload_n 1, 1) := dk_0 dd_398
theorem dX7_bitsOf_22 : decode cX7_bitsOf 22 = .ok (.ireturn, 1) := dk_1 dd_398
theorem dd_399 : fd_G cX7_copies 0 [(0, .iconst 0, 1), (1, .istore_n 3, 1), (2, .iload_n 3, 1), (3, .bipush 28, 2), (5, .if_icmp .ge 25, 3), (8, .aload_n 0, 1), (9, .getfield 7, 3), (12, .iload_n 2, 1), (13, .iload_n 3, 1), (14, .iadd, 1), (15, .aload_n 0, 1), (16, .getfield 7, 3), (19, .iload_n 1, 1), (20, .iload_n 3, 1), (21, .iadd, 1), (22, .iaload, 1)] = true := by decide +kernel
theorem dX7_copies_0 : decode cX7_copies 0 = .ok (.iconst 0, 1) := dk_0 dd_399
theorem dX7_copies_1 : decode cX7_copies 1 = .ok (.istore_n 3, 1) := dk_1 dd_399
theorem dX7_copies_2 : decode cX7_copies 2 = .ok (.iload_n 3, 1) := dk_2 dd_399
theorem dX7_copies_3 : decode cX7_copies 3 = .ok (.bipush 28, 2) := dk_3 dd_399
theorem dX7_copies_5 : decode cX7_copies 5 = .ok (.if_icmp .ge 25, 3) := dk_4 dd_399
theorem dX7_copies_8 : decode cX7_copies 8 = .ok (.aload_n 0, 1) := dk_5 dd_399
theorem dX7_copies_9 : decode cX7_copies 9 = .ok (.getfield 7, 3) := dk_6 dd_399
theorem dX7_copies_12 : decode cX7_copies 12 = .ok (.iload_n 2, 1) := dk_7 dd_399
theorem dX7_copies_13 : decode cX7_copies 13 = .ok (.iload_n 3, 1) := dk_8 dd_399
theorem dX7_copies_14 : decode cX7_copies 14 = .ok (.iadd, 1) := dk_9 dd_399
theorem dX7_copies_15 : decode cX7_copies 15 = .ok (.aload_n 0, 1) := dk_10 dd_399
theorem dX7_copies_16 : decode cX7_copies 16 = .ok (.getfield 7, 3) := dk_11 dd_399
theorem dX7_copies_19 : decode cX7_copies 19 = .ok (.iload_n 1, 1) := dk_12 dd_399
theorem dX7_copies_20 : decode cX7_copies 20 = .ok (.iload_n 3, 1) := dk_13 dd_399
theorem dX7_copies_21 : decode cX7_copies 21 = .ok (.iadd, 1) := dk_14 dd_399
theorem dX7_copies_22 : decode cX7_copies 22 = .ok (.iaload, 1) := dk_15 dd_399
theorem dd_400 : fd_G cX7_copies 23 [(23, .iastore, 1), (24, .iinc 3 1, 3), (27, .goto (-25), 3), (30, .return_, 1)] = true := by decide +kernel
theorem dX7_copies_23 : decode cX7_copies 23 = .ok (.iastore, 1) := dk_0 dd_400
theorem dX7_copies_24 : decode cX7_copies 24 = .ok (.iinc 3 1, 3) := dk_1 dd_400
theorem dX7_copies_27 : decode cX7_copies 27 = .ok (.goto (-25), 3) := dk_2 dd_400
theorem dX7_copies_30 : decode cX7_copies 30 = .ok (.return_, 1) := dk_3 dd_400
theorem dd_401 : fd_G cX7_begins 0 [(0, .aload_n 0, 1), (1, .iload_n 1, 1), (2, .bipush 112, 2), (4, .invokevirtual 196, 3), (7, .aload_n 0, 1), (8, .iconst 0, 1), (9, .putfield 199, 3), (12, .aload_n 0, 1), (13, .iconst 0, 1), (14, .putfield 202, 3), (17, .aload_n 0, 1), (18, .bipush (-4), 2), (20, .putfield 205, 3), (23, .return_, 1)] = true := by decide +kernel
theorem dX7_begins_0 : decode cX7_begins 0 = .ok (.aload_n 0, 1) := dk_0 dd_401
theorem dX7_begins_1 : decode cX7_begins 1 = .ok (.iload_n 1, 1) := dk_1 dd_401
theorem dX7_begins_2 : decode cX7_begins 2 = .ok (.bipush 112, 2) := dk_2 dd_401
theorem dX7_begins_4 : decode cX7_begins 4 = .ok (.invokevirtual 196, 3) := dk_3 dd_401
theorem dX7_begins_7 : decode cX7_begins 7 = .ok (.aload_n 0, 1) := dk_4 dd_401
theorem dX7_begins_8 : decode cX7_begins 8 = .ok (.iconst 0, 1) := dk_5 dd_401
theorem dX7_begins_9 : decode cX7_begins 9 = .ok (.putfield 199, 3) := dk_6 dd_401
theorem dX7_begins_12 : decode cX7_begins 12 = .ok (.aload_n 0, 1) := dk_7 dd_401
theorem dX7_begins_13 : decode cX7_begins 13 = .ok (.iconst 0, 1) := dk_8 dd_401
theorem dX7_begins_14 : decode cX7_begins 14 = .ok (.putfield 202, 3) := dk_9 dd_401
theorem dX7_begins_17 : decode cX7_begins 17 = .ok (.aload_n 0, 1) := dk_10 dd_401
theorem dX7_begins_18 : decode cX7_begins 18 = .ok (.bipush (-4), 2) := dk_11 dd_401
theorem dX7_begins_20 : decode cX7_begins 20 = .ok (.putfield 205, 3) := dk_12 dd_401
theorem dX7_begins_23 : decode cX7_begins 23 = .ok (.return_, 1) := dk_13 dd_401
theorem dd_402 : fd_G cX7_acts 0 [(0, .iload_n 1, 1), (1, .iconst 5, 1), (2, .if_icmp .ne 12, 3), (5, .aload_n 0, 1), (6, .bipush 112, 2), (8, .invokevirtual 187, 3), (11, .goto 65, 3), (14, .iload_n 1, 1), (15, .bipush 6, 2), (17, .if_icmp .ne 13, 3), (20, .aload_n 0, 1), (21, .bipush 112, 2), (23, .invokevirtual 190, 3), (26, .pop, 1), (27, .goto 49, 3), (30, .aload_n 0, 1)] = true := by decide +kernel
theorem dX7_acts_0 : decode cX7_acts 0 = .ok (.iload_n 1, 1) := dk_0 dd_402
theorem dX7_acts_1 : decode cX7_acts 1 = .ok (.iconst 5, 1) := dk_1 dd_402
theorem dX7_acts_2 : decode cX7_acts 2 = .ok (.if_icmp .ne 12, 3) := dk_2 dd_402
theorem dX7_acts_5 : decode cX7_acts 5 = .ok (.aload_n 0, 1) := dk_3 dd_402
theorem dX7_acts_6 : decode cX7_acts 6 = .ok (.bipush 112, 2) := dk_4 dd_402
theorem dX7_acts_8 : decode cX7_acts 8 = .ok (.invokevirtual 187, 3) := dk_5 dd_402
theorem dX7_acts_11 : decode cX7_acts 11 = .ok (.goto 65, 3) := dk_6 dd_402
theorem dX7_acts_14 : decode cX7_acts 14 = .ok (.iload_n 1, 1) := dk_7 dd_402
theorem dX7_acts_15 : decode cX7_acts 15 = .ok (.bipush 6, 2) := dk_8 dd_402
theorem dX7_acts_17 : decode cX7_acts 17 = .ok (.if_icmp .ne 13, 3) := dk_9 dd_402
theorem dX7_acts_20 : decode cX7_acts 20 = .ok (.aload_n 0, 1) := dk_10 dd_402
theorem dX7_acts_21 : decode cX7_acts 21 = .ok (.bipush 112, 2) := dk_11 dd_402
theorem dX7_acts_23 : decode cX7_acts 23 = .ok (.invokevirtual 190, 3) := dk_12 dd_402
theorem dX7_acts_26 : decode cX7_acts 26 = .ok (.pop, 1) := dk_13 dd_402
theorem dX7_acts_27 : decode cX7_acts 27 = .ok (.goto 49, 3) := dk_14 dd_402
theorem dX7_acts_30 : decode cX7_acts 30 = .ok (.aload_n 0, 1) := dk_15 dd_402
theorem dd_403 : fd_G cX7_acts 31 [(31, .bipush 112, 2), (33, .iload_n 1, 1), (34, .invokevirtual 131, 3), (37, .ifCond .eq 37, 3), (40, .aload_n 0, 1), (41, .bipush 112, 2), (43, .iload_n 1, 1), (44, .invokevirtual 182, 3), (47, .istore_n 2, 1), (48, .aload_n 0, 1), (49, .dup, 1), (50, .getfield 199, 3), (53, .iload_n 2, 1), (54, .ior, 1), (55, .putfield 199, 3), (58, .aload_n 0, 1)] = true := by decide +kernel
theorem dX7_acts_31 : decode cX7_acts 31 = .ok (.bipush 112, 2) := dk_0 dd_403
theorem dX7_acts_33 : decode cX7_acts 33 = .ok (.iload_n 1, 1) := dk_1 dd_403
theorem dX7_acts_34 : decode cX7_acts 34 = .ok (.invokevirtual 131, 3) := dk_2 dd_403
theorem dX7_acts_37 : decode cX7_acts 37 = .ok (.ifCond .eq 37, 3) := dk_3 dd_403
theorem dX7_acts_40 : decode cX7_acts 40 = .ok (.aload_n 0, 1) := dk_4 dd_403
theorem dX7_acts_41 : decode cX7_acts 41 = .ok (.bipush 112, 2) := dk_5 dd_403
theorem dX7_acts_43 : decode cX7_acts 43 = .ok (.iload_n 1, 1) := dk_6 dd_403
theorem dX7_acts_44 : decode cX7_acts 44 = .ok (.invokevirtual 182, 3) := dk_7 dd_403
theorem dX7_acts_47 : decode cX7_acts 47 = .ok (.istore_n 2, 1) := dk_8 dd_403
theorem dX7_acts_48 : decode cX7_acts 48 = .ok (.aload_n 0, 1) := dk_9 dd_403
theorem dX7_acts_49 : decode cX7_acts 49 = .ok (.dup, 1) := dk_10 dd_403
theorem dX7_acts_50 : decode cX7_acts 50 = .ok (.getfield 199, 3) := dk_11 dd_403
theorem dX7_acts_53 : decode cX7_acts 53 = .ok (.iload_n 2, 1) := dk_12 dd_403
theorem dX7_acts_54 : decode cX7_acts 54 = .ok (.ior, 1) := dk_13 dd_403
theorem dX7_acts_55 : decode cX7_acts 55 = .ok (.putfield 199, 3) := dk_14 dd_403
theorem dX7_acts_58 : decode cX7_acts 58 = .ok (.aload_n 0, 1) := dk_15 dd_403
theorem dd_404 : fd_G cX7_acts 59 [(59, .dup, 1), (60, .getfield 202, 3), (63, .iload_n 2, 1), (64, .invokestatic 193, 3), (67, .iadd, 1), (68, .putfield 202, 3), (71, .goto 5, 3), (74, .iconst 0, 1), (75, .ireturn, 1), (76, .iconst 1, 1), (77, .ireturn, 1)] = true := by decide +kernel
theorem dX7_acts_59 : decode cX7_acts 59 = .ok (.dup, 1) := dk_0 dd_404
theorem dX7_acts_60 : decode cX7_acts 60 = .ok (.getfield 202, 3) := dk_1 dd_404
theorem dX7_acts_63 : decode cX7_acts 63 = .ok (.iload_n 2, 1) := dk_2 dd_404
theorem dX7_acts_64 : decode cX7_acts 64 = .ok (.invokestatic 193, 3) := dk_3 dd_404
theorem dX7_acts_67 : decode cX7_acts 67 = .ok (.iadd, 1) := dk_4 dd_404
theorem dX7_acts_68 : decode cX7_acts 68 = .ok (.putfield 202, 3) := dk_5 dd_404
theorem dX7_acts_71 : decode cX7_acts 71 = .ok (.goto 5, 3) := dk_6 dd_404
theorem dX7_acts_74 : decode cX7_acts 74 = .ok (.iconst 0, 1) := dk_7 dd_404
theorem dX7_acts_75 : decode cX7_acts 75 = .ok (.ireturn, 1) := dk_8 dd_404
theorem dX7_acts_76 : decode cX7_acts 76 = .ok (.iconst 1, 1) := dk_9 dd_404
theorem dX7_acts_77 : decode cX7_acts 77 = .ok (.ireturn, 1) := dk_10 dd_404
theorem dd_405 : fd_G cX7_planGoes 0 [(0, .aload_n 0, 1), (1, .iload_n 1, 1), (2, .invokevirtual 208, 3), (5, .iconst 0, 1), (6, .istore_n 3, 1), (7, .iload_n 3, 1), (8, .aload_n 0, 1), (9, .getfield 7, 3), (12, .iload_n 1, 1), (13, .bipush 27, 2), (15, .iadd, 1), (16, .iaload, 1), (17, .if_icmp .ge 56, 3), (20, .iload_n 2, 1), (21, .iload_n 3, 1), (22, .ishr, 1)] = true := by decide +kernel
theorem dX7_planGoes_0 : decode cX7_planGoes 0 = .ok (.aload_n 0, 1) := dk_0 dd_405
theorem dX7_planGoes_1 : decode cX7_planGoes 1 = .ok (.iload_n 1, 1) := dk_1 dd_405
theorem dX7_planGoes_2 : decode cX7_planGoes 2 = .ok (.invokevirtual 208, 3) := dk_2 dd_405
theorem dX7_planGoes_5 : decode cX7_planGoes 5 = .ok (.iconst 0, 1) := dk_3 dd_405
theorem dX7_planGoes_6 : decode cX7_planGoes 6 = .ok (.istore_n 3, 1) := dk_4 dd_405
theorem dX7_planGoes_7 : decode cX7_planGoes 7 = .ok (.iload_n 3, 1) := dk_5 dd_405
theorem dX7_planGoes_8 : decode cX7_planGoes 8 = .ok (.aload_n 0, 1) := dk_6 dd_405
theorem dX7_planGoes_9 : decode cX7_planGoes 9 = .ok (.getfield 7, 3) := dk_7 dd_405
theorem dX7_planGoes_12 : decode cX7_planGoes 12 = .ok (.iload_n 1, 1) := dk_8 dd_405
theorem dX7_planGoes_13 : decode cX7_planGoes 13 = .ok (.bipush 27, 2) := dk_9 dd_405
theorem dX7_planGoes_15 : decode cX7_planGoes 15 = .ok (.iadd, 1) := dk_10 dd_405
theorem dX7_planGoes_16 : decode cX7_planGoes 16 = .ok (.iaload, 1) := dk_11 dd_405
theorem dX7_planGoes_17 : decode cX7_planGoes 17 = .ok (.if_icmp .ge 56, 3) := dk_12 dd_405
theorem dX7_planGoes_20 : decode cX7_planGoes 20 = .ok (.iload_n 2, 1) := dk_13 dd_405
theorem dX7_planGoes_21 : decode cX7_planGoes 21 = .ok (.iload_n 3, 1) := dk_14 dd_405
theorem dX7_planGoes_22 : decode cX7_planGoes 22 = .ok (.ishr, 1) := dk_15 dd_405
theorem dd_406 : fd_G cX7_planGoes 23 [(23, .iconst 1, 1), (24, .iand, 1), (25, .ifCond .ne 42, 3), (28, .aload_n 0, 1), (29, .aload_n 0, 1), (30, .getfield 7, 3), (33, .iload_n 1, 1), (34, .bipush 19, 2), (36, .iadd, 1), (37, .iload_n 3, 1), (38, .iadd, 1), (39, .iaload, 1), (40, .invokevirtual 211, 3), (43, .ifCond .ne 24, 3), (46, .aload_n 0, 1), (47, .aload_n 0, 1)] = true := by decide +kernel
theorem dX7_planGoes_23 : decode cX7_planGoes 23 = .ok (.iconst 1, 1) := dk_0 dd_406
theorem dX7_planGoes_24 : decode cX7_planGoes 24 = .ok (.iand, 1) := dk_1 dd_406
theorem dX7_planGoes_25 : decode cX7_planGoes 25 = .ok (.ifCond .ne 42, 3) := dk_2 dd_406
theorem dX7_planGoes_28 : decode cX7_planGoes 28 = .ok (.aload_n 0, 1) := dk_3 dd_406
theorem dX7_planGoes_29 : decode cX7_planGoes 29 = .ok (.aload_n 0, 1) := dk_4 dd_406
theorem dX7_planGoes_30 : decode cX7_planGoes 30 = .ok (.getfield 7, 3) := dk_5 dd_406
theorem dX7_planGoes_33 : decode cX7_planGoes 33 = .ok (.iload_n 1, 1) := dk_6 dd_406
theorem dX7_planGoes_34 : decode cX7_planGoes 34 = .ok (.bipush 19, 2) := dk_7 dd_406
theorem dX7_planGoes_36 : decode cX7_planGoes 36 = .ok (.iadd, 1) := dk_8 dd_406
theorem dX7_planGoes_37 : decode cX7_planGoes 37 = .ok (.iload_n 3, 1) := dk_9 dd_406
theorem dX7_planGoes_38 : decode cX7_planGoes 38 = .ok (.iadd, 1) := dk_10 dd_406
theorem dX7_planGoes_39 : decode cX7_planGoes 39 = .ok (.iaload, 1) := dk_11 dd_406
theorem dX7_planGoes_40 : decode cX7_planGoes 40 = .ok (.invokevirtual 211, 3) := dk_12 dd_406
theorem dX7_planGoes_43 : decode cX7_planGoes 43 = .ok (.ifCond .ne 24, 3) := dk_13 dd_406
theorem dX7_planGoes_46 : decode cX7_planGoes 46 = .ok (.aload_n 0, 1) := dk_14 dd_406
theorem dX7_planGoes_47 : decode cX7_planGoes 47 = .ok (.aload_n 0, 1) := dk_15 dd_406
theorem dd_407 : fd_G cX7_planGoes 48 [(48, .getfield 205, 3), (51, .bipush (-4), 2), (53, .if_icmp .ne 7, 3), (56, .iload_n 3, 1), (57, .goto 7, 3), (60, .aload_n 0, 1), (61, .getfield 205, 3), (64, .putfield 205, 3), (67, .iinc 3 1, 3), (70, .goto (-63), 3), (73, .return_, 1)] = true := by decide +kernel
theorem dX7_planGoes_48 : decode cX7_planGoes 48 = .ok (.getfield 205, 3) := dk_0 dd_407
theorem dX7_planGoes_51 : decode cX7_planGoes 51 = .ok (.bipush (-4), 2) := dk_1 dd_407
theorem dX7_planGoes_53 : decode cX7_planGoes 53 = .ok (.if_icmp .ne 7, 3) := dk_2 dd_407
theorem dX7_planGoes_56 : decode cX7_planGoes 56 = .ok (.iload_n 3, 1) := dk_3 dd_407
theorem dX7_planGoes_57 : decode cX7_planGoes 57 = .ok (.goto 7, 3) := dk_4 dd_407
theorem dX7_planGoes_60 : decode cX7_planGoes 60 = .ok (.aload_n 0, 1) := dk_5 dd_407
theorem dX7_planGoes_61 : decode cX7_planGoes 61 = .ok (.getfield 205, 3) := dk_6 dd_407
theorem dX7_planGoes_64 : decode cX7_planGoes 64 = .ok (.putfield 205, 3) := dk_7 dd_407
theorem dX7_planGoes_67 : decode cX7_planGoes 67 = .ok (.iinc 3 1, 3) := dk_8 dd_407
theorem dX7_planGoes_70 : decode cX7_planGoes 70 = .ok (.goto (-63), 3) := dk_9 dd_407
theorem dX7_planGoes_73 : decode cX7_planGoes 73 = .ok (.return_, 1) := dk_10 dd_407
theorem dd_408 : fd_G cX7_goneThen 0 [(0, .aload_n 0, 1), (1, .getfield 7, 3), (4, .bipush 127, 2), (6, .iaload, 1), (7, .invokestatic 193, 3), (10, .ireturn, 1)] = true := by decide +kernel
theorem dX7_goneThen_0 : decode cX7_goneThen 0 = .ok (.aload_n 0, 1) := dk_0 dd_408
theorem dX7_goneThen_1 : decode cX7_goneThen 1 = .ok (.getfield 7, 3) := dk_1 dd_408
theorem dX7_goneThen_4 : decode cX7_goneThen 4 = .ok (.bipush 127, 2) := dk_2 dd_408
theorem dX7_goneThen_6 : decode cX7_goneThen 6 = .ok (.iaload, 1) := dk_3 dd_408
theorem dX7_goneThen_7 : decode cX7_goneThen 7 = .ok (.invokestatic 193, 3) := dk_4 dd_408
theorem dX7_goneThen_10 : decode cX7_goneThen 10 = .ok (.ireturn, 1) := dk_5 dd_408
theorem dX7_runs_21 : decode cX7_runs 21 = .ok (.tableswitch 54 0 3 #[31, 39, 44, 49], 31) := by decide +kernel
theorem dd_409 : fd_G cX7_runs 0 [(0, .iload_n 1, 1), (1, .i2l, 1), (2, .lconst 0, 1), (3, .ldc2_w 165, 3), (6, .invokestatic 49, 3), (9, .ifCond .ne 5, 3), (12, .iconst (-1), 1), (13, .ireturn, 1), (14, .aload_n 0, 1), (15, .iconst 0, 1), (16, .iconst 0, 1), (17, .invokevirtual 214, 3), (20, .iload_n 1, 1), (52, .aload_n 0, 1), (53, .getfield 7, 3), (56, .bipush 127, 2)] = true := by decide +kernel
theorem dX7_runs_0 : decode cX7_runs 0 = .ok (.iload_n 1, 1) := dk_0 dd_409
theorem dX7_runs_1 : decode cX7_runs 1 = .ok (.i2l, 1) := dk_1 dd_409
theorem dX7_runs_2 : decode cX7_runs 2 = .ok (.lconst 0, 1) := dk_2 dd_409
theorem dX7_runs_3 : decode cX7_runs 3 = .ok (.ldc2_w 165, 3) := dk_3 dd_409
theorem dX7_runs_6 : decode cX7_runs 6 = .ok (.invokestatic 49, 3) := dk_4 dd_409
theorem dX7_runs_9 : decode cX7_runs 9 = .ok (.ifCond .ne 5, 3) := dk_5 dd_409
theorem dX7_runs_12 : decode cX7_runs 12 = .ok (.iconst (-1), 1) := dk_6 dd_409
theorem dX7_runs_13 : decode cX7_runs 13 = .ok (.ireturn, 1) := dk_7 dd_409
theorem dX7_runs_14 : decode cX7_runs 14 = .ok (.aload_n 0, 1) := dk_8 dd_409
theorem dX7_runs_15 : decode cX7_runs 15 = .ok (.iconst 0, 1) := dk_9 dd_409
theorem dX7_runs_16 : decode cX7_runs 16 = .ok (.iconst 0, 1) := dk_10 dd_409
theorem dX7_runs_17 : decode cX7_runs 17 = .ok (.invokevirtual 214, 3) := dk_11 dd_409
theorem dX7_runs_20 : decode cX7_runs 20 = .ok (.iload_n 1, 1) := dk_12 dd_409
theorem dX7_runs_52 : decode cX7_runs 52 = .ok (.aload_n 0, 1) := dk_13 dd_409
theorem dX7_runs_53 : decode cX7_runs 53 = .ok (.getfield 7, 3) := dk_14 dd_409
theorem dX7_runs_56 : decode cX7_runs 56 = .ok (.bipush 127, 2) := dk_15 dd_409
theorem dd_410 : fd_G cX7_runs 58 [(58, .iaload, 1), (59, .ireturn, 1), (60, .aload_n 0, 1), (61, .getfield 199, 3), (64, .ireturn, 1), (65, .aload_n 0, 1), (66, .getfield 202, 3), (69, .ireturn, 1), (70, .aload_n 0, 1), (71, .getfield 205, 3), (74, .ireturn, 1), (75, .aload_n 0, 1), (76, .bipush 112, 2), (78, .invokevirtual 155, 3), (81, .ireturn, 1)] = true := by decide +kernel
theorem dX7_runs_58 : decode cX7_runs 58 = .ok (.iaload, 1) := dk_0 dd_410
theorem dX7_runs_59 : decode cX7_runs 59 = .ok (.ireturn, 1) := dk_1 dd_410
theorem dX7_runs_60 : decode cX7_runs 60 = .ok (.aload_n 0, 1) := dk_2 dd_410
theorem dX7_runs_61 : decode cX7_runs 61 = .ok (.getfield 199, 3) := dk_3 dd_410
theorem dX7_runs_64 : decode cX7_runs 64 = .ok (.ireturn, 1) := dk_4 dd_410
theorem dX7_runs_65 : decode cX7_runs 65 = .ok (.aload_n 0, 1) := dk_5 dd_410
theorem dX7_runs_66 : decode cX7_runs 66 = .ok (.getfield 202, 3) := dk_6 dd_410
theorem dX7_runs_69 : decode cX7_runs 69 = .ok (.ireturn, 1) := dk_7 dd_410
theorem dX7_runs_70 : decode cX7_runs 70 = .ok (.aload_n 0, 1) := dk_8 dd_410
theorem dX7_runs_71 : decode cX7_runs 71 = .ok (.getfield 205, 3) := dk_9 dd_410
theorem dX7_runs_74 : decode cX7_runs 74 = .ok (.ireturn, 1) := dk_10 dd_410
theorem dX7_runs_75 : decode cX7_runs 75 = .ok (.aload_n 0, 1) := dk_11 dd_410
theorem dX7_runs_76 : decode cX7_runs 76 = .ok (.bipush 112, 2) := dk_12 dd_410
theorem dX7_runs_78 : decode cX7_runs 78 = .ok (.invokevirtual 155, 3) := dk_13 dd_410
theorem dX7_runs_81 : decode cX7_runs 81 = .ok (.ireturn, 1) := dk_14 dd_410
theorem dd_411 : fd_G cX7_ahead 0 [(0, .aload_n 0, 1), (1, .iload_n 1, 1), (2, .invokevirtual 158, 3), (5, .ifCond .eq 13, 3), (8, .iload_n 2, 1), (9, .i2l, 1), (10, .lconst 0, 1), (11, .lconst 1, 1), (12, .invokestatic 49, 3), (15, .ifCond .ne 5, 3), (18, .iconst (-1), 1), (19, .ireturn, 1), (20, .aload_n 0, 1), (21, .iconst 0, 1), (22, .iconst 0, 1), (23, .invokevirtual 214, 3)] = true := by decide +kernel
theorem dX7_ahead_0 : decode cX7_ahead 0 = .ok (.aload_n 0, 1) := dk_0 dd_411
theorem dX7_ahead_1 : decode cX7_ahead 1 = .ok (.iload_n 1, 1) := dk_1 dd_411
theorem dX7_ahead_2 : decode cX7_ahead 2 = .ok (.invokevirtual 158, 3) := dk_2 dd_411
theorem dX7_ahead_5 : decode cX7_ahead 5 = .ok (.ifCond .eq 13, 3) := dk_3 dd_411
theorem dX7_ahead_8 : decode cX7_ahead 8 = .ok (.iload_n 2, 1) := dk_4 dd_411
theorem dX7_ahead_9 : decode cX7_ahead 9 = .ok (.i2l, 1) := dk_5 dd_411
theorem dX7_ahead_10 : decode cX7_ahead 10 = .ok (.lconst 0, 1) := dk_6 dd_411
theorem dX7_ahead_11 : decode cX7_ahead 11 = .ok (.lconst 1, 1) := dk_7 dd_411
theorem dX7_ahead_12 : decode cX7_ahead 12 = .ok (.invokestatic 49, 3) := dk_8 dd_411
theorem dX7_ahead_15 : decode cX7_ahead 15 = .ok (.ifCond .ne 5, 3) := dk_9 dd_411
theorem dX7_ahead_18 : decode cX7_ahead 18 = .ok (.iconst (-1), 1) := dk_10 dd_411
theorem dX7_ahead_19 : decode cX7_ahead 19 = .ok (.ireturn, 1) := dk_11 dd_411
theorem dX7_ahead_20 : decode cX7_ahead 20 = .ok (.aload_n 0, 1) := dk_12 dd_411
theorem dX7_ahead_21 : decode cX7_ahead 21 = .ok (.iconst 0, 1) := dk_13 dd_411
theorem dX7_ahead_22 : decode cX7_ahead 22 = .ok (.iconst 0, 1) := dk_14 dd_411
theorem dX7_ahead_23 : decode cX7_ahead 23 = .ok (.invokevirtual 214, 3) := dk_15 dd_411
theorem dd_412 : fd_G cX7_ahead 26 [(26, .iload_n 2, 1), (27, .ifCond .ne 15, 3), (30, .aload_n 0, 1), (31, .getfield 7, 3), (34, .bipush 117, 2), (36, .iload_n 1, 1), (37, .iadd, 1), (38, .iaload, 1), (39, .goto 15, 3), (42, .aload_n 0, 1), (43, .getfield 7, 3), (46, .bipush 122, 2), (48, .iload_n 1, 1), (49, .iadd, 1), (50, .iaload, 1), (51, .invokestatic 162, 3)] = true := by decide +kernel
theorem dX7_ahead_26 : decode cX7_ahead 26 = .ok (.iload_n 2, 1) := dk_0 dd_412
theorem dX7_ahead_27 : decode cX7_ahead 27 = .ok (.ifCond .ne 15, 3) := dk_1 dd_412
theorem dX7_ahead_30 : decode cX7_ahead 30 = .ok (.aload_n 0, 1) := dk_2 dd_412
theorem dX7_ahead_31 : decode cX7_ahead 31 = .ok (.getfield 7, 3) := dk_3 dd_412
theorem dX7_ahead_34 : decode cX7_ahead 34 = .ok (.bipush 117, 2) := dk_4 dd_412
theorem dX7_ahead_36 : decode cX7_ahead 36 = .ok (.iload_n 1, 1) := dk_5 dd_412
theorem dX7_ahead_37 : decode cX7_ahead 37 = .ok (.iadd, 1) := dk_6 dd_412
theorem dX7_ahead_38 : decode cX7_ahead 38 = .ok (.iaload, 1) := dk_7 dd_412
theorem dX7_ahead_39 : decode cX7_ahead 39 = .ok (.goto 15, 3) := dk_8 dd_412
theorem dX7_ahead_42 : decode cX7_ahead 42 = .ok (.aload_n 0, 1) := dk_9 dd_412
theorem dX7_ahead_43 : decode cX7_ahead 43 = .ok (.getfield 7, 3) := dk_10 dd_412
theorem dX7_ahead_46 : decode cX7_ahead 46 = .ok (.bipush 122, 2) := dk_11 dd_412
theorem dX7_ahead_48 : decode cX7_ahead 48 = .ok (.iload_n 1, 1) := dk_12 dd_412
theorem dX7_ahead_49 : decode cX7_ahead 49 = .ok (.iadd, 1) := dk_13 dd_412
theorem dX7_ahead_50 : decode cX7_ahead 50 = .ok (.iaload, 1) := dk_14 dd_412
theorem dX7_ahead_51 : decode cX7_ahead 51 = .ok (.invokestatic 162, 3) := dk_15 dd_412
theorem dd_413 : fd_G cX7_ahead 54 [(54, .ireturn, 1)] = true := by decide +kernel
theorem dX7_ahead_54 : decode cX7_ahead 54 = .ok (.ireturn, 1) := dk_0 dd_413
theorem dd_414 : fd_G cX7_soon 0 [(0, .aload_n 0, 1), (1, .iload_n 1, 1), (2, .invokevirtual 158, 3), (5, .ifCond .ne 5, 3), (8, .iconst (-1), 1), (9, .ireturn, 1), (10, .aload_n 0, 1), (11, .iconst 0, 1), (12, .invokevirtual 208, 3), (15, .iconst 0, 1), (16, .istore_n 2, 1), (17, .iload_n 2, 1), (18, .bipush 9, 2), (20, .if_icmp .gt 37, 3), (23, .aload_n 0, 1), (24, .iconst 0, 1)] = true := by decide +kernel
theorem dX7_soon_0 : decode cX7_soon 0 = .ok (.aload_n 0, 1) := dk_0 dd_414
theorem dX7_soon_1 : decode cX7_soon 1 = .ok (.iload_n 1, 1) := dk_1 dd_414
theorem dX7_soon_2 : decode cX7_soon 2 = .ok (.invokevirtual 158, 3) := dk_2 dd_414
theorem dX7_soon_5 : decode cX7_soon 5 = .ok (.ifCond .ne 5, 3) := dk_3 dd_414
theorem dX7_soon_8 : decode cX7_soon 8 = .ok (.iconst (-1), 1) := dk_4 dd_414
theorem dX7_soon_9 : decode cX7_soon 9 = .ok (.ireturn, 1) := dk_5 dd_414
theorem dX7_soon_10 : decode cX7_soon 10 = .ok (.aload_n 0, 1) := dk_6 dd_414
theorem dX7_soon_11 : decode cX7_soon 11 = .ok (.iconst 0, 1) := dk_7 dd_414
theorem dX7_soon_12 : decode cX7_soon 12 = .ok (.invokevirtual 208, 3) := dk_8 dd_414
theorem dX7_soon_15 : decode cX7_soon 15 = .ok (.iconst 0, 1) := dk_9 dd_414
theorem dX7_soon_16 : decode cX7_soon 16 = .ok (.istore_n 2, 1) := dk_10 dd_414
theorem dX7_soon_17 : decode cX7_soon 17 = .ok (.iload_n 2, 1) := dk_11 dd_414
theorem dX7_soon_18 : decode cX7_soon 18 = .ok (.bipush 9, 2) := dk_12 dd_414
theorem dX7_soon_20 : decode cX7_soon 20 = .ok (.if_icmp .gt 37, 3) := dk_13 dd_414
theorem dX7_soon_23 : decode cX7_soon 23 = .ok (.aload_n 0, 1) := dk_14 dd_414
theorem dX7_soon_24 : decode cX7_soon 24 = .ok (.iconst 0, 1) := dk_15 dd_414
theorem dd_415 : fd_G cX7_soon 25 [(25, .iload_n 1, 1), (26, .invokevirtual 131, 3), (29, .ifCond .eq 28, 3), (32, .aload_n 0, 1), (33, .bipush 112, 2), (35, .iconst 0, 1), (36, .invokevirtual 149, 3), (39, .iload_n 1, 1), (40, .if_icmp .ne 5, 3), (43, .iload_n 2, 1), (44, .ireturn, 1), (45, .aload_n 0, 1), (46, .iload_n 1, 1), (47, .invokevirtual 211, 3), (50, .pop, 1), (51, .iinc 2 1, 3)] = true := by decide +kernel
theorem dX7_soon_25 : decode cX7_soon 25 = .ok (.iload_n 1, 1) := dk_0 dd_415
theorem dX7_soon_26 : decode cX7_soon 26 = .ok (.invokevirtual 131, 3) := dk_1 dd_415
theorem dX7_soon_29 : decode cX7_soon 29 = .ok (.ifCond .eq 28, 3) := dk_2 dd_415
theorem dX7_soon_32 : decode cX7_soon 32 = .ok (.aload_n 0, 1) := dk_3 dd_415
theorem dX7_soon_33 : decode cX7_soon 33 = .ok (.bipush 112, 2) := dk_4 dd_415
theorem dX7_soon_35 : decode cX7_soon 35 = .ok (.iconst 0, 1) := dk_5 dd_415
theorem dX7_soon_36 : decode cX7_soon 36 = .ok (.invokevirtual 149, 3) := dk_6 dd_415
theorem dX7_soon_39 : decode cX7_soon 39 = .ok (.iload_n 1, 1) := dk_7 dd_415
theorem dX7_soon_40 : decode cX7_soon 40 = .ok (.if_icmp .ne 5, 3) := dk_8 dd_415
theorem dX7_soon_43 : decode cX7_soon 43 = .ok (.iload_n 2, 1) := dk_9 dd_415
theorem dX7_soon_44 : decode cX7_soon 44 = .ok (.ireturn, 1) := dk_10 dd_415
theorem dX7_soon_45 : decode cX7_soon 45 = .ok (.aload_n 0, 1) := dk_11 dd_415
theorem dX7_soon_46 : decode cX7_soon 46 = .ok (.iload_n 1, 1) := dk_12 dd_415
theorem dX7_soon_47 : decode cX7_soon 47 = .ok (.invokevirtual 211, 3) := dk_13 dd_415
theorem dX7_soon_50 : decode cX7_soon 50 = .ok (.pop, 1) := dk_14 dd_415
theorem dX7_soon_51 : decode cX7_soon 51 = .ok (.iinc 2 1, 3) := dk_15 dd_415
theorem dd_416 : fd_G cX7_soon 54 [(54, .goto (-37), 3), (57, .bipush (-4), 2), (59, .ireturn, 1)] = true := by decide +kernel
theorem dX7_soon_54 : decode cX7_soon 54 = .ok (.goto (-37), 3) := dk_0 dd_416
theorem dX7_soon_57 : decode cX7_soon 57 = .ok (.bipush (-4), 2) := dk_1 dd_416
theorem dX7_soon_59 : decode cX7_soon 59 = .ok (.ireturn, 1) := dk_2 dd_416
theorem dd_417 : fd_G cX7_powerOf 0 [(0, .iconst 1, 1), (1, .istore_n 2, 1), (2, .iconst 0, 1), (3, .istore_n 3, 1), (4, .iload_n 3, 1), (5, .iload_n 1, 1), (6, .if_icmp .ge 13, 3), (9, .iload_n 2, 1), (10, .iload_n 0, 1), (11, .imul, 1), (12, .istore_n 2, 1), (13, .iinc 3 1, 3), (16, .goto (-12), 3), (19, .iload_n 2, 1), (20, .ireturn, 1)] = true := by decide +kernel
theorem dX7_powerOf_0 : decode cX7_powerOf 0 = .ok (.iconst 1, 1) := dk_0 dd_417
theorem dX7_powerOf_1 : decode cX7_powerOf 1 = .ok (.istore_n 2, 1) := dk_1 dd_417
theorem dX7_powerOf_2 : decode cX7_powerOf 2 = .ok (.iconst 0, 1) := dk_2 dd_417
theorem dX7_powerOf_3 : decode cX7_powerOf 3 = .ok (.istore_n 3, 1) := dk_3 dd_417
theorem dX7_powerOf_4 : decode cX7_powerOf 4 = .ok (.iload_n 3, 1) := dk_4 dd_417
theorem dX7_powerOf_5 : decode cX7_powerOf 5 = .ok (.iload_n 1, 1) := dk_5 dd_417
theorem dX7_powerOf_6 : decode cX7_powerOf 6 = .ok (.if_icmp .ge 13, 3) := dk_6 dd_417
theorem dX7_powerOf_9 : decode cX7_powerOf 9 = .ok (.iload_n 2, 1) := dk_7 dd_417
theorem dX7_powerOf_10 : decode cX7_powerOf 10 = .ok (.iload_n 0, 1) := dk_8 dd_417
theorem dX7_powerOf_11 : decode cX7_powerOf 11 = .ok (.imul, 1) := dk_9 dd_417
theorem dX7_powerOf_12 : decode cX7_powerOf 12 = .ok (.istore_n 2, 1) := dk_10 dd_417
theorem dX7_powerOf_13 : decode cX7_powerOf 13 = .ok (.iinc 3 1, 3) := dk_11 dd_417
theorem dX7_powerOf_16 : decode cX7_powerOf 16 = .ok (.goto (-12), 3) := dk_12 dd_417
theorem dX7_powerOf_19 : decode cX7_powerOf 19 = .ok (.iload_n 2, 1) := dk_13 dd_417
theorem dX7_powerOf_20 : decode cX7_powerOf 20 = .ok (.ireturn, 1) := dk_14 dd_417
theorem dX7_figureOf_10 : decode cX7_figureOf 10 = .ok (.idiv, 1) := by decide +kernel
theorem dX7_figureOf_12 : decode cX7_figureOf 12 = .ok (.irem, 1) := by decide +kernel
theorem dd_418 : fd_G cX7_figureOf 0 [(0, .iload_n 0, 1), (1, .iload_n 1, 1), (2, .iload_n 2, 1), (3, .iconst 1, 1), (4, .isub, 1), (5, .iload_n 3, 1), (6, .isub, 1), (7, .invokestatic 217, 3), (11, .iload_n 1, 1), (13, .ireturn, 1)] = true := by decide +kernel
theorem dX7_figureOf_0 : decode cX7_figureOf 0 = .ok (.iload_n 0, 1) := dk_0 dd_418
theorem dX7_figureOf_1 : decode cX7_figureOf 1 = .ok (.iload_n 1, 1) := dk_1 dd_418
theorem dX7_figureOf_2 : decode cX7_figureOf 2 = .ok (.iload_n 2, 1) := dk_2 dd_418
theorem dX7_figureOf_3 : decode cX7_figureOf 3 = .ok (.iconst 1, 1) := dk_3 dd_418
theorem dX7_figureOf_4 : decode cX7_figureOf 4 = .ok (.isub, 1) := dk_4 dd_418
theorem dX7_figureOf_5 : decode cX7_figureOf 5 = .ok (.iload_n 3, 1) := dk_5 dd_418
theorem dX7_figureOf_6 : decode cX7_figureOf 6 = .ok (.isub, 1) := dk_6 dd_418
theorem dX7_figureOf_7 : decode cX7_figureOf 7 = .ok (.invokestatic 217, 3) := dk_7 dd_418
theorem dX7_figureOf_11 : decode cX7_figureOf 11 = .ok (.iload_n 1, 1) := dk_8 dd_418
theorem dX7_figureOf_13 : decode cX7_figureOf 13 = .ok (.ireturn, 1) := dk_9 dd_418
theorem dd_419 : fd_G cX7_rowGoes 0 [(0, .aload_n 0, 1), (1, .iconst 0, 1), (2, .invokevirtual 208, 3), (5, .iconst 0, 1), (6, .istore 4, 2), (8, .iload 4, 2), (10, .iload_n 3, 1), (11, .if_icmp .ge 37, 3), (14, .iload_n 1, 1), (15, .iload_n 2, 1), (16, .iload_n 3, 1), (17, .iload 4, 2), (19, .invokestatic 220, 3), (22, .istore 5, 2), (24, .aload_n 0, 1), (25, .iload 5, 2)] = true := by decide +kernel
theorem dX7_rowGoes_0 : decode cX7_rowGoes 0 = .ok (.aload_n 0, 1) := dk_0 dd_419
theorem dX7_rowGoes_1 : decode cX7_rowGoes 1 = .ok (.iconst 0, 1) := dk_1 dd_419
theorem dX7_rowGoes_2 : decode cX7_rowGoes 2 = .ok (.invokevirtual 208, 3) := dk_2 dd_419
theorem dX7_rowGoes_5 : decode cX7_rowGoes 5 = .ok (.iconst 0, 1) := dk_3 dd_419
theorem dX7_rowGoes_6 : decode cX7_rowGoes 6 = .ok (.istore 4, 2) := dk_4 dd_419
theorem dX7_rowGoes_8 : decode cX7_rowGoes 8 = .ok (.iload 4, 2) := dk_5 dd_419
theorem dX7_rowGoes_10 : decode cX7_rowGoes 10 = .ok (.iload_n 3, 1) := dk_6 dd_419
theorem dX7_rowGoes_11 : decode cX7_rowGoes 11 = .ok (.if_icmp .ge 37, 3) := dk_7 dd_419
theorem dX7_rowGoes_14 : decode cX7_rowGoes 14 = .ok (.iload_n 1, 1) := dk_8 dd_419
theorem dX7_rowGoes_15 : decode cX7_rowGoes 15 = .ok (.iload_n 2, 1) := dk_9 dd_419
theorem dX7_rowGoes_16 : decode cX7_rowGoes 16 = .ok (.iload_n 3, 1) := dk_10 dd_419
theorem dX7_rowGoes_17 : decode cX7_rowGoes 17 = .ok (.iload 4, 2) := dk_11 dd_419
theorem dX7_rowGoes_19 : decode cX7_rowGoes 19 = .ok (.invokestatic 220, 3) := dk_12 dd_419
theorem dX7_rowGoes_22 : decode cX7_rowGoes 22 = .ok (.istore 5, 2) := dk_13 dd_419
theorem dX7_rowGoes_24 : decode cX7_rowGoes 24 = .ok (.aload_n 0, 1) := dk_14 dd_419
theorem dX7_rowGoes_25 : decode cX7_rowGoes 25 = .ok (.iload 5, 2) := dk_15 dd_419
theorem dd_420 : fd_G cX7_rowGoes 27 [(27, .invokevirtual 179, 3), (30, .ifCond .ne 5, 3), (33, .iconst 0, 1), (34, .ireturn, 1), (35, .aload_n 0, 1), (36, .iload 5, 2), (38, .invokevirtual 211, 3), (41, .pop, 1), (42, .iinc 4 1, 3), (45, .goto (-37), 3), (48, .iconst 1, 1), (49, .ireturn, 1)] = true := by decide +kernel
theorem dX7_rowGoes_27 : decode cX7_rowGoes 27 = .ok (.invokevirtual 179, 3) := dk_0 dd_420
theorem dX7_rowGoes_30 : decode cX7_rowGoes 30 = .ok (.ifCond .ne 5, 3) := dk_1 dd_420
theorem dX7_rowGoes_33 : decode cX7_rowGoes 33 = .ok (.iconst 0, 1) := dk_2 dd_420
theorem dX7_rowGoes_34 : decode cX7_rowGoes 34 = .ok (.ireturn, 1) := dk_3 dd_420
theorem dX7_rowGoes_35 : decode cX7_rowGoes 35 = .ok (.aload_n 0, 1) := dk_4 dd_420
theorem dX7_rowGoes_36 : decode cX7_rowGoes 36 = .ok (.iload 5, 2) := dk_5 dd_420
theorem dX7_rowGoes_38 : decode cX7_rowGoes 38 = .ok (.invokevirtual 211, 3) := dk_6 dd_420
theorem dX7_rowGoes_41 : decode cX7_rowGoes 41 = .ok (.pop, 1) := dk_7 dd_420
theorem dX7_rowGoes_42 : decode cX7_rowGoes 42 = .ok (.iinc 4 1, 3) := dk_8 dd_420
theorem dX7_rowGoes_45 : decode cX7_rowGoes 45 = .ok (.goto (-37), 3) := dk_9 dd_420
theorem dX7_rowGoes_48 : decode cX7_rowGoes 48 = .ok (.iconst 1, 1) := dk_10 dd_420
theorem dX7_rowGoes_49 : decode cX7_rowGoes 49 = .ok (.ireturn, 1) := dk_11 dd_420
theorem dd_421 : fd_G cX7_best 0 [(0, .iload_n 1, 1), (1, .i2l, 1), (2, .lconst 0, 1), (3, .ldc2_w 165, 3), (6, .invokestatic 49, 3), (9, .ifCond .eq 27, 3), (12, .iload_n 2, 1), (13, .i2l, 1), (14, .lconst 0, 1), (15, .lconst 1, 1), (16, .invokestatic 49, 3), (19, .ifCond .ne 19, 3), (22, .iload_n 2, 1), (23, .i2l, 1), (24, .ldc2_w 224, 3), (27, .ldc2_w 226, 3)] = true := by decide +kernel
theorem dX7_best_0 : decode cX7_best 0 = .ok (.iload_n 1, 1) := dk_0 dd_421
theorem dX7_best_1 : decode cX7_best 1 = .ok (.i2l, 1) := dk_1 dd_421
theorem dX7_best_2 : decode cX7_best 2 = .ok (.lconst 0, 1) := dk_2 dd_421
theorem dX7_best_3 : decode cX7_best 3 = .ok (.ldc2_w 165, 3) := dk_3 dd_421
theorem dX7_best_6 : decode cX7_best 6 = .ok (.invokestatic 49, 3) := dk_4 dd_421
theorem dX7_best_9 : decode cX7_best 9 = .ok (.ifCond .eq 27, 3) := dk_5 dd_421
theorem dX7_best_12 : decode cX7_best 12 = .ok (.iload_n 2, 1) := dk_6 dd_421
theorem dX7_best_13 : decode cX7_best 13 = .ok (.i2l, 1) := dk_7 dd_421
theorem dX7_best_14 : decode cX7_best 14 = .ok (.lconst 0, 1) := dk_8 dd_421
theorem dX7_best_15 : decode cX7_best 15 = .ok (.lconst 1, 1) := dk_9 dd_421
theorem dX7_best_16 : decode cX7_best 16 = .ok (.invokestatic 49, 3) := dk_10 dd_421
theorem dX7_best_19 : decode cX7_best 19 = .ok (.ifCond .ne 19, 3) := dk_11 dd_421
theorem dX7_best_22 : decode cX7_best 22 = .ok (.iload_n 2, 1) := dk_12 dd_421
theorem dX7_best_23 : decode cX7_best 23 = .ok (.i2l, 1) := dk_13 dd_421
theorem dX7_best_24 : decode cX7_best 24 = .ok (.ldc2_w 224, 3) := dk_14 dd_421
theorem dX7_best_27 : decode cX7_best 27 = .ok (.ldc2_w 226, 3) := dk_15 dd_421
theorem dd_422 : fd_G cX7_best 30 [(30, .invokestatic 49, 3), (33, .ifCond .ne 5, 3), (36, .iconst (-1), 1), (37, .ireturn, 1), (38, .iconst (-1), 1), (39, .istore_n 3, 1), (40, .iconst (-1), 1), (41, .istore 4, 2), (43, .iconst 0, 1), (44, .istore 5, 2), (46, .iconst 0, 1), (47, .istore 6, 2), (49, .iload 6, 2), (51, .bipush 6, 2), (53, .iload_n 1, 1), (54, .invokestatic 217, 3)] = true := by decide +kernel
theorem dX7_best_30 : decode cX7_best 30 = .ok (.invokestatic 49, 3) := dk_0 dd_422
theorem dX7_best_33 : decode cX7_best 33 = .ok (.ifCond .ne 5, 3) := dk_1 dd_422
theorem dX7_best_36 : decode cX7_best 36 = .ok (.iconst (-1), 1) := dk_2 dd_422
theorem dX7_best_37 : decode cX7_best 37 = .ok (.ireturn, 1) := dk_3 dd_422
theorem dX7_best_38 : decode cX7_best 38 = .ok (.iconst (-1), 1) := dk_4 dd_422
theorem dX7_best_39 : decode cX7_best 39 = .ok (.istore_n 3, 1) := dk_5 dd_422
theorem dX7_best_40 : decode cX7_best 40 = .ok (.iconst (-1), 1) := dk_6 dd_422
theorem dX7_best_41 : decode cX7_best 41 = .ok (.istore 4, 2) := dk_7 dd_422
theorem dX7_best_43 : decode cX7_best 43 = .ok (.iconst 0, 1) := dk_8 dd_422
theorem dX7_best_44 : decode cX7_best 44 = .ok (.istore 5, 2) := dk_9 dd_422
theorem dX7_best_46 : decode cX7_best 46 = .ok (.iconst 0, 1) := dk_10 dd_422
theorem dX7_best_47 : decode cX7_best 47 = .ok (.istore 6, 2) := dk_11 dd_422
theorem dX7_best_49 : decode cX7_best 49 = .ok (.iload 6, 2) := dk_12 dd_422
theorem dX7_best_51 : decode cX7_best 51 = .ok (.bipush 6, 2) := dk_13 dd_422
theorem dX7_best_53 : decode cX7_best 53 = .ok (.iload_n 1, 1) := dk_14 dd_422
theorem dX7_best_54 : decode cX7_best 54 = .ok (.invokestatic 217, 3) := dk_15 dd_422
theorem dd_423 : fd_G cX7_best 57 [(57, .if_icmp .ge 100, 3), (60, .aload_n 0, 1), (61, .iload 6, 2), (63, .bipush 6, 2), (65, .iload_n 1, 1), (66, .invokevirtual 228, 3), (69, .ifCond .eq 82, 3), (72, .aload_n 0, 1), (73, .getfield 199, 3), (76, .invokestatic 193, 3), (79, .istore 7, 2), (81, .iload 7, 2), (83, .iload_n 3, 1), (84, .if_icmp .gt 18, 3), (87, .iload 7, 2), (89, .iload_n 3, 1)] = true := by decide +kernel
theorem dX7_best_57 : decode cX7_best 57 = .ok (.if_icmp .ge 100, 3) := dk_0 dd_423
theorem dX7_best_60 : decode cX7_best 60 = .ok (.aload_n 0, 1) := dk_1 dd_423
theorem dX7_best_61 : decode cX7_best 61 = .ok (.iload 6, 2) := dk_2 dd_423
theorem dX7_best_63 : decode cX7_best 63 = .ok (.bipush 6, 2) := dk_3 dd_423
theorem dX7_best_65 : decode cX7_best 65 = .ok (.iload_n 1, 1) := dk_4 dd_423
theorem dX7_best_66 : decode cX7_best 66 = .ok (.invokevirtual 228, 3) := dk_5 dd_423
theorem dX7_best_69 : decode cX7_best 69 = .ok (.ifCond .eq 82, 3) := dk_6 dd_423
theorem dX7_best_72 : decode cX7_best 72 = .ok (.aload_n 0, 1) := dk_7 dd_423
theorem dX7_best_73 : decode cX7_best 73 = .ok (.getfield 199, 3) := dk_8 dd_423
theorem dX7_best_76 : decode cX7_best 76 = .ok (.invokestatic 193, 3) := dk_9 dd_423
theorem dX7_best_79 : decode cX7_best 79 = .ok (.istore 7, 2) := dk_10 dd_423
theorem dX7_best_81 : decode cX7_best 81 = .ok (.iload 7, 2) := dk_11 dd_423
theorem dX7_best_83 : decode cX7_best 83 = .ok (.iload_n 3, 1) := dk_12 dd_423
theorem dX7_best_84 : decode cX7_best 84 = .ok (.if_icmp .gt 18, 3) := dk_13 dd_423
theorem dX7_best_87 : decode cX7_best 87 = .ok (.iload 7, 2) := dk_14 dd_423
theorem dX7_best_89 : decode cX7_best 89 = .ok (.iload_n 3, 1) := dk_15 dd_423
theorem dd_424 : fd_G cX7_best 90 [(90, .if_icmp .ne 16, 3), (93, .aload_n 0, 1), (94, .getfield 202, 3), (97, .iload 4, 2), (99, .if_icmp .le 7, 3), (102, .iconst 1, 1), (103, .goto 4, 3), (106, .iconst 0, 1), (107, .istore 8, 2), (109, .iload 8, 2), (111, .ifCond .eq 8, 3), (114, .iload 6, 2), (116, .goto 5, 3), (119, .iload 5, 2), (121, .istore 5, 2), (123, .iload 8, 2)] = true := by decide +kernel
theorem dX7_best_90 : decode cX7_best 90 = .ok (.if_icmp .ne 16, 3) := dk_0 dd_424
theorem dX7_best_93 : decode cX7_best 93 = .ok (.aload_n 0, 1) := dk_1 dd_424
theorem dX7_best_94 : decode cX7_best 94 = .ok (.getfield 202, 3) := dk_2 dd_424
theorem dX7_best_97 : decode cX7_best 97 = .ok (.iload 4, 2) := dk_3 dd_424
theorem dX7_best_99 : decode cX7_best 99 = .ok (.if_icmp .le 7, 3) := dk_4 dd_424
theorem dX7_best_102 : decode cX7_best 102 = .ok (.iconst 1, 1) := dk_5 dd_424
theorem dX7_best_103 : decode cX7_best 103 = .ok (.goto 4, 3) := dk_6 dd_424
theorem dX7_best_106 : decode cX7_best 106 = .ok (.iconst 0, 1) := dk_7 dd_424
theorem dX7_best_107 : decode cX7_best 107 = .ok (.istore 8, 2) := dk_8 dd_424
theorem dX7_best_109 : decode cX7_best 109 = .ok (.iload 8, 2) := dk_9 dd_424
theorem dX7_best_111 : decode cX7_best 111 = .ok (.ifCond .eq 8, 3) := dk_10 dd_424
theorem dX7_best_114 : decode cX7_best 114 = .ok (.iload 6, 2) := dk_11 dd_424
theorem dX7_best_116 : decode cX7_best 116 = .ok (.goto 5, 3) := dk_12 dd_424
theorem dX7_best_119 : decode cX7_best 119 = .ok (.iload 5, 2) := dk_13 dd_424
theorem dX7_best_121 : decode cX7_best 121 = .ok (.istore 5, 2) := dk_14 dd_424
theorem dX7_best_123 : decode cX7_best 123 = .ok (.iload 8, 2) := dk_15 dd_424
theorem dd_425 : fd_G cX7_best 125 [(125, .ifCond .eq 8, 3), (128, .iload 7, 2), (130, .goto 4, 3), (133, .iload_n 3, 1), (134, .istore_n 3, 1), (135, .iload 8, 2), (137, .ifCond .eq 10, 3), (140, .aload_n 0, 1), (141, .getfield 202, 3), (144, .goto 5, 3), (147, .iload 4, 2), (149, .istore 4, 2), (151, .iinc 6 1, 3), (154, .goto (-105), 3), (157, .iload_n 2, 1), (158, .ifCond .ne 7, 3)] = true := by decide +kernel
theorem dX7_best_125 : decode cX7_best 125 = .ok (.ifCond .eq 8, 3) := dk_0 dd_425
theorem dX7_best_128 : decode cX7_best 128 = .ok (.iload 7, 2) := dk_1 dd_425
theorem dX7_best_130 : decode cX7_best 130 = .ok (.goto 4, 3) := dk_2 dd_425
theorem dX7_best_133 : decode cX7_best 133 = .ok (.iload_n 3, 1) := dk_3 dd_425
theorem dX7_best_134 : decode cX7_best 134 = .ok (.istore_n 3, 1) := dk_4 dd_425
theorem dX7_best_135 : decode cX7_best 135 = .ok (.iload 8, 2) := dk_5 dd_425
theorem dX7_best_137 : decode cX7_best 137 = .ok (.ifCond .eq 10, 3) := dk_6 dd_425
theorem dX7_best_140 : decode cX7_best 140 = .ok (.aload_n 0, 1) := dk_7 dd_425
theorem dX7_best_141 : decode cX7_best 141 = .ok (.getfield 202, 3) := dk_8 dd_425
theorem dX7_best_144 : decode cX7_best 144 = .ok (.goto 5, 3) := dk_9 dd_425
theorem dX7_best_147 : decode cX7_best 147 = .ok (.iload 4, 2) := dk_10 dd_425
theorem dX7_best_149 : decode cX7_best 149 = .ok (.istore 4, 2) := dk_11 dd_425
theorem dX7_best_151 : decode cX7_best 151 = .ok (.iinc 6 1, 3) := dk_12 dd_425
theorem dX7_best_154 : decode cX7_best 154 = .ok (.goto (-105), 3) := dk_13 dd_425
theorem dX7_best_157 : decode cX7_best 157 = .ok (.iload_n 2, 1) := dk_14 dd_425
theorem dX7_best_158 : decode cX7_best 158 = .ok (.ifCond .ne 7, 3) := dk_15 dd_425
theorem dd_426 : fd_G cX7_best 161 [(161, .iload_n 3, 1), (162, .goto 38, 3), (165, .iload_n 2, 1), (166, .iconst 1, 1), (167, .if_icmp .ne 8, 3), (170, .iload 4, 2), (172, .goto 28, 3), (175, .iload_n 2, 1), (176, .bipush 10, 2), (178, .isub, 1), (179, .iload_n 1, 1), (180, .if_icmp .ge 18, 3), (183, .iload 5, 2), (185, .bipush 6, 2), (187, .iload_n 1, 1), (188, .iload_n 2, 1)] = true := by decide +kernel
theorem dX7_best_161 : decode cX7_best 161 = .ok (.iload_n 3, 1) := dk_0 dd_426
theorem dX7_best_162 : decode cX7_best 162 = .ok (.goto 38, 3) := dk_1 dd_426
theorem dX7_best_165 : decode cX7_best 165 = .ok (.iload_n 2, 1) := dk_2 dd_426
theorem dX7_best_166 : decode cX7_best 166 = .ok (.iconst 1, 1) := dk_3 dd_426
theorem dX7_best_167 : decode cX7_best 167 = .ok (.if_icmp .ne 8, 3) := dk_4 dd_426
theorem dX7_best_170 : decode cX7_best 170 = .ok (.iload 4, 2) := dk_5 dd_426
theorem dX7_best_172 : decode cX7_best 172 = .ok (.goto 28, 3) := dk_6 dd_426
theorem dX7_best_175 : decode cX7_best 175 = .ok (.iload_n 2, 1) := dk_7 dd_426
theorem dX7_best_176 : decode cX7_best 176 = .ok (.bipush 10, 2) := dk_8 dd_426
theorem dX7_best_178 : decode cX7_best 178 = .ok (.isub, 1) := dk_9 dd_426
theorem dX7_best_179 : decode cX7_best 179 = .ok (.iload_n 1, 1) := dk_10 dd_426
theorem dX7_best_180 : decode cX7_best 180 = .ok (.if_icmp .ge 18, 3) := dk_11 dd_426
theorem dX7_best_183 : decode cX7_best 183 = .ok (.iload 5, 2) := dk_12 dd_426
theorem dX7_best_185 : decode cX7_best 185 = .ok (.bipush 6, 2) := dk_13 dd_426
theorem dX7_best_187 : decode cX7_best 187 = .ok (.iload_n 1, 1) := dk_14 dd_426
theorem dX7_best_188 : decode cX7_best 188 = .ok (.iload_n 2, 1) := dk_15 dd_426
theorem dd_427 : fd_G cX7_best 189 [(189, .bipush 10, 2), (191, .isub, 1), (192, .invokestatic 220, 3), (195, .goto 5, 3), (198, .bipush (-4), 2), (200, .ireturn, 1)] = true := by decide +kernel
theorem dX7_best_189 : decode cX7_best 189 = .ok (.bipush 10, 2) := dk_0 dd_427
theorem dX7_best_191 : decode cX7_best 191 = .ok (.isub, 1) := dk_1 dd_427
theorem dX7_best_192 : decode cX7_best 192 = .ok (.invokestatic 220, 3) := dk_2 dd_427
theorem dX7_best_195 : decode cX7_best 195 = .ok (.goto 5, 3) := dk_3 dd_427
theorem dX7_best_198 : decode cX7_best 198 = .ok (.bipush (-4), 2) := dk_4 dd_427
theorem dX7_best_200 : decode cX7_best 200 = .ok (.ireturn, 1) := dk_5 dd_427
theorem dd_428 : fd_G cX7_home 0 [(0, .aload_n 0, 1), (1, .iload_n 1, 1), (2, .invokevirtual 158, 3), (5, .ifCond .eq 21, 3), (8, .iload_n 2, 1), (9, .ifCond .eq 19, 3), (12, .iload_n 2, 1), (13, .i2l, 1), (14, .ldc2_w 224, 3), (17, .ldc2_w 232, 3), (20, .invokestatic 49, 3), (23, .ifCond .ne 5, 3), (26, .iconst (-1), 1), (27, .ireturn, 1), (28, .aload_n 0, 1), (29, .iconst 0, 1)] = true := by decide +kernel
theorem dX7_home_0 : decode cX7_home 0 = .ok (.aload_n 0, 1) := dk_0 dd_428
theorem dX7_home_1 : decode cX7_home 1 = .ok (.iload_n 1, 1) := dk_1 dd_428
theorem dX7_home_2 : decode cX7_home 2 = .ok (.invokevirtual 158, 3) := dk_2 dd_428
theorem dX7_home_5 : decode cX7_home 5 = .ok (.ifCond .eq 21, 3) := dk_3 dd_428
theorem dX7_home_8 : decode cX7_home 8 = .ok (.iload_n 2, 1) := dk_4 dd_428
theorem dX7_home_9 : decode cX7_home 9 = .ok (.ifCond .eq 19, 3) := dk_5 dd_428
theorem dX7_home_12 : decode cX7_home 12 = .ok (.iload_n 2, 1) := dk_6 dd_428
theorem dX7_home_13 : decode cX7_home 13 = .ok (.i2l, 1) := dk_7 dd_428
theorem dX7_home_14 : decode cX7_home 14 = .ok (.ldc2_w 224, 3) := dk_8 dd_428
theorem dX7_home_17 : decode cX7_home 17 = .ok (.ldc2_w 232, 3) := dk_9 dd_428
theorem dX7_home_20 : decode cX7_home 20 = .ok (.invokestatic 49, 3) := dk_10 dd_428
theorem dX7_home_23 : decode cX7_home 23 = .ok (.ifCond .ne 5, 3) := dk_11 dd_428
theorem dX7_home_26 : decode cX7_home 26 = .ok (.iconst (-1), 1) := dk_12 dd_428
theorem dX7_home_27 : decode cX7_home 27 = .ok (.ireturn, 1) := dk_13 dd_428
theorem dX7_home_28 : decode cX7_home 28 = .ok (.aload_n 0, 1) := dk_14 dd_428
theorem dX7_home_29 : decode cX7_home 29 = .ok (.iconst 0, 1) := dk_15 dd_428
theorem dd_429 : fd_G cX7_home 30 [(30, .iload_n 1, 1), (31, .invokevirtual 131, 3), (34, .ifCond .ne 6, 3), (37, .bipush (-2), 2), (39, .ireturn, 1), (40, .iconst 0, 1), (41, .istore_n 3, 1), (42, .iload_n 3, 1), (43, .iconst 4, 1), (44, .if_icmp .ge 86, 3), (47, .iconst 0, 1), (48, .istore 4, 2), (50, .iload 4, 2), (52, .iconst 5, 1), (53, .iload_n 3, 1), (54, .invokestatic 217, 3)] = true := by decide +kernel
theorem dX7_home_30 : decode cX7_home 30 = .ok (.iload_n 1, 1) := dk_0 dd_429
theorem dX7_home_31 : decode cX7_home 31 = .ok (.invokevirtual 131, 3) := dk_1 dd_429
theorem dX7_home_34 : decode cX7_home 34 = .ok (.ifCond .ne 6, 3) := dk_2 dd_429
theorem dX7_home_37 : decode cX7_home 37 = .ok (.bipush (-2), 2) := dk_3 dd_429
theorem dX7_home_39 : decode cX7_home 39 = .ok (.ireturn, 1) := dk_4 dd_429
theorem dX7_home_40 : decode cX7_home 40 = .ok (.iconst 0, 1) := dk_5 dd_429
theorem dX7_home_41 : decode cX7_home 41 = .ok (.istore_n 3, 1) := dk_6 dd_429
theorem dX7_home_42 : decode cX7_home 42 = .ok (.iload_n 3, 1) := dk_7 dd_429
theorem dX7_home_43 : decode cX7_home 43 = .ok (.iconst 4, 1) := dk_8 dd_429
theorem dX7_home_44 : decode cX7_home 44 = .ok (.if_icmp .ge 86, 3) := dk_9 dd_429
theorem dX7_home_47 : decode cX7_home 47 = .ok (.iconst 0, 1) := dk_10 dd_429
theorem dX7_home_48 : decode cX7_home 48 = .ok (.istore 4, 2) := dk_11 dd_429
theorem dX7_home_50 : decode cX7_home 50 = .ok (.iload 4, 2) := dk_12 dd_429
theorem dX7_home_52 : decode cX7_home 52 = .ok (.iconst 5, 1) := dk_13 dd_429
theorem dX7_home_53 : decode cX7_home 53 = .ok (.iload_n 3, 1) := dk_14 dd_429
theorem dX7_home_54 : decode cX7_home 54 = .ok (.invokestatic 217, 3) := dk_15 dd_429
theorem dd_430 : fd_G cX7_home 57 [(57, .if_icmp .ge 67, 3), (60, .aload_n 0, 1), (61, .iload 4, 2), (63, .iconst 5, 1), (64, .iload_n 3, 1), (65, .invokevirtual 228, 3), (68, .ifCond .eq 50, 3), (71, .aload_n 0, 1), (72, .bipush 112, 2), (74, .invokevirtual 190, 3), (77, .iload_n 1, 1), (78, .ishr, 1), (79, .iconst 1, 1), (80, .iand, 1), (81, .iconst 1, 1), (82, .if_icmp .ne 36, 3)] = true := by decide +kernel
theorem dX7_home_57 : decode cX7_home 57 = .ok (.if_icmp .ge 67, 3) := dk_0 dd_430
theorem dX7_home_60 : decode cX7_home 60 = .ok (.aload_n 0, 1) := dk_1 dd_430
theorem dX7_home_61 : decode cX7_home 61 = .ok (.iload 4, 2) := dk_2 dd_430
theorem dX7_home_63 : decode cX7_home 63 = .ok (.iconst 5, 1) := dk_3 dd_430
theorem dX7_home_64 : decode cX7_home 64 = .ok (.iload_n 3, 1) := dk_4 dd_430
theorem dX7_home_65 : decode cX7_home 65 = .ok (.invokevirtual 228, 3) := dk_5 dd_430
theorem dX7_home_68 : decode cX7_home 68 = .ok (.ifCond .eq 50, 3) := dk_6 dd_430
theorem dX7_home_71 : decode cX7_home 71 = .ok (.aload_n 0, 1) := dk_7 dd_430
theorem dX7_home_72 : decode cX7_home 72 = .ok (.bipush 112, 2) := dk_8 dd_430
theorem dX7_home_74 : decode cX7_home 74 = .ok (.invokevirtual 190, 3) := dk_9 dd_430
theorem dX7_home_77 : decode cX7_home 77 = .ok (.iload_n 1, 1) := dk_10 dd_430
theorem dX7_home_78 : decode cX7_home 78 = .ok (.ishr, 1) := dk_11 dd_430
theorem dX7_home_79 : decode cX7_home 79 = .ok (.iconst 1, 1) := dk_12 dd_430
theorem dX7_home_80 : decode cX7_home 80 = .ok (.iand, 1) := dk_13 dd_430
theorem dX7_home_81 : decode cX7_home 81 = .ok (.iconst 1, 1) := dk_14 dd_430
theorem dX7_home_82 : decode cX7_home 82 = .ok (.if_icmp .ne 36, 3) := dk_15 dd_430
theorem dd_431 : fd_G cX7_home 85 [(85, .iload_n 2, 1), (86, .ifCond .ne 7, 3), (89, .iload_n 3, 1), (90, .goto 27, 3), (93, .iload_n 2, 1), (94, .bipush 10, 2), (96, .isub, 1), (97, .iload_n 3, 1), (98, .if_icmp .ge 17, 3), (101, .iload 4, 2), (103, .iconst 5, 1), (104, .iload_n 3, 1), (105, .iload_n 2, 1), (106, .bipush 10, 2), (108, .isub, 1), (109, .invokestatic 220, 3)] = true := by decide +kernel
theorem dX7_home_85 : decode cX7_home 85 = .ok (.iload_n 2, 1) := dk_0 dd_431
theorem dX7_home_86 : decode cX7_home 86 = .ok (.ifCond .ne 7, 3) := dk_1 dd_431
theorem dX7_home_89 : decode cX7_home 89 = .ok (.iload_n 3, 1) := dk_2 dd_431
theorem dX7_home_90 : decode cX7_home 90 = .ok (.goto 27, 3) := dk_3 dd_431
theorem dX7_home_93 : decode cX7_home 93 = .ok (.iload_n 2, 1) := dk_4 dd_431
theorem dX7_home_94 : decode cX7_home 94 = .ok (.bipush 10, 2) := dk_5 dd_431
theorem dX7_home_96 : decode cX7_home 96 = .ok (.isub, 1) := dk_6 dd_431
theorem dX7_home_97 : decode cX7_home 97 = .ok (.iload_n 3, 1) := dk_7 dd_431
theorem dX7_home_98 : decode cX7_home 98 = .ok (.if_icmp .ge 17, 3) := dk_8 dd_431
theorem dX7_home_101 : decode cX7_home 101 = .ok (.iload 4, 2) := dk_9 dd_431
theorem dX7_home_103 : decode cX7_home 103 = .ok (.iconst 5, 1) := dk_10 dd_431
theorem dX7_home_104 : decode cX7_home 104 = .ok (.iload_n 3, 1) := dk_11 dd_431
theorem dX7_home_105 : decode cX7_home 105 = .ok (.iload_n 2, 1) := dk_12 dd_431
theorem dX7_home_106 : decode cX7_home 106 = .ok (.bipush 10, 2) := dk_13 dd_431
theorem dX7_home_108 : decode cX7_home 108 = .ok (.isub, 1) := dk_14 dd_431
theorem dX7_home_109 : decode cX7_home 109 = .ok (.invokestatic 220, 3) := dk_15 dd_431
theorem dd_432 : fd_G cX7_home 112 [(112, .goto 5, 3), (115, .bipush (-4), 2), (117, .ireturn, 1), (118, .iinc 4 1, 3), (121, .goto (-71), 3), (124, .iinc 3 1, 3), (127, .goto (-85), 3), (130, .bipush (-4), 2), (132, .ireturn, 1)] = true := by decide +kernel
theorem dX7_home_112 : decode cX7_home 112 = .ok (.goto 5, 3) := dk_0 dd_432
theorem dX7_home_115 : decode cX7_home 115 = .ok (.bipush (-4), 2) := dk_1 dd_432
theorem dX7_home_117 : decode cX7_home 117 = .ok (.ireturn, 1) := dk_2 dd_432
theorem dX7_home_118 : decode cX7_home 118 = .ok (.iinc 4 1, 3) := dk_3 dd_432
theorem dX7_home_121 : decode cX7_home 121 = .ok (.goto (-71), 3) := dk_4 dd_432
theorem dX7_home_124 : decode cX7_home 124 = .ok (.iinc 3 1, 3) := dk_5 dd_432
theorem dX7_home_127 : decode cX7_home 127 = .ok (.goto (-85), 3) := dk_6 dd_432
theorem dX7_home_130 : decode cX7_home 130 = .ok (.bipush (-4), 2) := dk_7 dd_432
theorem dX7_home_132 : decode cX7_home 132 = .ok (.ireturn, 1) := dk_8 dd_432
theorem dd_433 : fd_G cX7_swap 0 [(0, .iload_n 1, 1), (1, .i2l, 1), (2, .lconst 0, 1), (3, .lconst 1, 1), (4, .invokestatic 49, 3), (7, .ifCond .ne 5, 3), (10, .iconst (-1), 1), (11, .ireturn, 1), (12, .aload_n 0, 1), (13, .iconst 0, 1), (14, .iconst 0, 1), (15, .invokevirtual 214, 3), (18, .aload_n 0, 1), (19, .invokevirtual 234, 3), (22, .istore_n 2, 1), (23, .bipush (-4), 2)] = true := by decide +kernel
theorem dX7_swap_0 : decode cX7_swap 0 = .ok (.iload_n 1, 1) := dk_0 dd_433
theorem dX7_swap_1 : decode cX7_swap 1 = .ok (.i2l, 1) := dk_1 dd_433
theorem dX7_swap_2 : decode cX7_swap 2 = .ok (.lconst 0, 1) := dk_2 dd_433
theorem dX7_swap_3 : decode cX7_swap 3 = .ok (.lconst 1, 1) := dk_3 dd_433
theorem dX7_swap_4 : decode cX7_swap 4 = .ok (.invokestatic 49, 3) := dk_4 dd_433
theorem dX7_swap_7 : decode cX7_swap 7 = .ok (.ifCond .ne 5, 3) := dk_5 dd_433
theorem dX7_swap_10 : decode cX7_swap 10 = .ok (.iconst (-1), 1) := dk_6 dd_433
theorem dX7_swap_11 : decode cX7_swap 11 = .ok (.ireturn, 1) := dk_7 dd_433
theorem dX7_swap_12 : decode cX7_swap 12 = .ok (.aload_n 0, 1) := dk_8 dd_433
theorem dX7_swap_13 : decode cX7_swap 13 = .ok (.iconst 0, 1) := dk_9 dd_433
theorem dX7_swap_14 : decode cX7_swap 14 = .ok (.iconst 0, 1) := dk_10 dd_433
theorem dX7_swap_15 : decode cX7_swap 15 = .ok (.invokevirtual 214, 3) := dk_11 dd_433
theorem dX7_swap_18 : decode cX7_swap 18 = .ok (.aload_n 0, 1) := dk_12 dd_433
theorem dX7_swap_19 : decode cX7_swap 19 = .ok (.invokevirtual 234, 3) := dk_13 dd_433
theorem dX7_swap_22 : decode cX7_swap 22 = .ok (.istore_n 2, 1) := dk_14 dd_433
theorem dX7_swap_23 : decode cX7_swap 23 = .ok (.bipush (-4), 2) := dk_15 dd_433
theorem dd_434 : fd_G cX7_swap 25 [(25, .istore_n 3, 1), (26, .iconst 0, 1), (27, .istore 4, 2), (29, .iload 4, 2), (31, .aload_n 0, 1), (32, .getfield 7, 3), (35, .bipush 27, 2), (37, .iaload, 1), (38, .if_icmp .ge 129, 3), (41, .iload 4, 2), (43, .iconst 1, 1), (44, .iadd, 1), (45, .istore 5, 2), (47, .iload 5, 2), (49, .aload_n 0, 1), (50, .getfield 7, 3)] = true := by decide +kernel
theorem dX7_swap_25 : decode cX7_swap 25 = .ok (.istore_n 3, 1) := dk_0 dd_434
theorem dX7_swap_26 : decode cX7_swap 26 = .ok (.iconst 0, 1) := dk_1 dd_434
theorem dX7_swap_27 : decode cX7_swap 27 = .ok (.istore 4, 2) := dk_2 dd_434
theorem dX7_swap_29 : decode cX7_swap 29 = .ok (.iload 4, 2) := dk_3 dd_434
theorem dX7_swap_31 : decode cX7_swap 31 = .ok (.aload_n 0, 1) := dk_4 dd_434
theorem dX7_swap_32 : decode cX7_swap 32 = .ok (.getfield 7, 3) := dk_5 dd_434
theorem dX7_swap_35 : decode cX7_swap 35 = .ok (.bipush 27, 2) := dk_6 dd_434
theorem dX7_swap_37 : decode cX7_swap 37 = .ok (.iaload, 1) := dk_7 dd_434
theorem dX7_swap_38 : decode cX7_swap 38 = .ok (.if_icmp .ge 129, 3) := dk_8 dd_434
theorem dX7_swap_41 : decode cX7_swap 41 = .ok (.iload 4, 2) := dk_9 dd_434
theorem dX7_swap_43 : decode cX7_swap 43 = .ok (.iconst 1, 1) := dk_10 dd_434
theorem dX7_swap_44 : decode cX7_swap 44 = .ok (.iadd, 1) := dk_11 dd_434
theorem dX7_swap_45 : decode cX7_swap 45 = .ok (.istore 5, 2) := dk_12 dd_434
theorem dX7_swap_47 : decode cX7_swap 47 = .ok (.iload 5, 2) := dk_13 dd_434
theorem dX7_swap_49 : decode cX7_swap 49 = .ok (.aload_n 0, 1) := dk_14 dd_434
theorem dX7_swap_50 : decode cX7_swap 50 = .ok (.getfield 7, 3) := dk_15 dd_434
theorem dd_435 : fd_G cX7_swap 53 [(53, .bipush 27, 2), (55, .iaload, 1), (56, .if_icmp .ge 105, 3), (59, .aload_n 0, 1), (60, .iconst 0, 1), (61, .sipush 140, 3), (64, .invokevirtual 196, 3), (67, .aload_n 0, 1), (68, .getfield 7, 3), (71, .sipush 159, 3), (74, .iload 4, 2), (76, .iadd, 1), (77, .aload_n 0, 1), (78, .getfield 7, 3), (81, .bipush 19, 2), (83, .iload 5, 2)] = true := by decide +kernel
theorem dX7_swap_53 : decode cX7_swap 53 = .ok (.bipush 27, 2) := dk_0 dd_435
theorem dX7_swap_55 : decode cX7_swap 55 = .ok (.iaload, 1) := dk_1 dd_435
theorem dX7_swap_56 : decode cX7_swap 56 = .ok (.if_icmp .ge 105, 3) := dk_2 dd_435
theorem dX7_swap_59 : decode cX7_swap 59 = .ok (.aload_n 0, 1) := dk_3 dd_435
theorem dX7_swap_60 : decode cX7_swap 60 = .ok (.iconst 0, 1) := dk_4 dd_435
theorem dX7_swap_61 : decode cX7_swap 61 = .ok (.sipush 140, 3) := dk_5 dd_435
theorem dX7_swap_64 : decode cX7_swap 64 = .ok (.invokevirtual 196, 3) := dk_6 dd_435
theorem dX7_swap_67 : decode cX7_swap 67 = .ok (.aload_n 0, 1) := dk_7 dd_435
theorem dX7_swap_68 : decode cX7_swap 68 = .ok (.getfield 7, 3) := dk_8 dd_435
theorem dX7_swap_71 : decode cX7_swap 71 = .ok (.sipush 159, 3) := dk_9 dd_435
theorem dX7_swap_74 : decode cX7_swap 74 = .ok (.iload 4, 2) := dk_10 dd_435
theorem dX7_swap_76 : decode cX7_swap 76 = .ok (.iadd, 1) := dk_11 dd_435
theorem dX7_swap_77 : decode cX7_swap 77 = .ok (.aload_n 0, 1) := dk_12 dd_435
theorem dX7_swap_78 : decode cX7_swap 78 = .ok (.getfield 7, 3) := dk_13 dd_435
theorem dX7_swap_81 : decode cX7_swap 81 = .ok (.bipush 19, 2) := dk_14 dd_435
theorem dX7_swap_83 : decode cX7_swap 83 = .ok (.iload 5, 2) := dk_15 dd_435
theorem dd_436 : fd_G cX7_swap 85 [(85, .iadd, 1), (86, .iaload, 1), (87, .iastore, 1), (88, .aload_n 0, 1), (89, .getfield 7, 3), (92, .sipush 159, 3), (95, .iload 5, 2), (97, .iadd, 1), (98, .aload_n 0, 1), (99, .getfield 7, 3), (102, .bipush 19, 2), (104, .iload 4, 2), (106, .iadd, 1), (107, .iaload, 1), (108, .iastore, 1), (109, .aload_n 0, 1)] = true := by decide +kernel
theorem dX7_swap_85 : decode cX7_swap 85 = .ok (.iadd, 1) := dk_0 dd_436
theorem dX7_swap_86 : decode cX7_swap 86 = .ok (.iaload, 1) := dk_1 dd_436
theorem dX7_swap_87 : decode cX7_swap 87 = .ok (.iastore, 1) := dk_2 dd_436
theorem dX7_swap_88 : decode cX7_swap 88 = .ok (.aload_n 0, 1) := dk_3 dd_436
theorem dX7_swap_89 : decode cX7_swap 89 = .ok (.getfield 7, 3) := dk_4 dd_436
theorem dX7_swap_92 : decode cX7_swap 92 = .ok (.sipush 159, 3) := dk_5 dd_436
theorem dX7_swap_95 : decode cX7_swap 95 = .ok (.iload 5, 2) := dk_6 dd_436
theorem dX7_swap_97 : decode cX7_swap 97 = .ok (.iadd, 1) := dk_7 dd_436
theorem dX7_swap_98 : decode cX7_swap 98 = .ok (.aload_n 0, 1) := dk_8 dd_436
theorem dX7_swap_99 : decode cX7_swap 99 = .ok (.getfield 7, 3) := dk_9 dd_436
theorem dX7_swap_102 : decode cX7_swap 102 = .ok (.bipush 19, 2) := dk_10 dd_436
theorem dX7_swap_104 : decode cX7_swap 104 = .ok (.iload 4, 2) := dk_11 dd_436
theorem dX7_swap_106 : decode cX7_swap 106 = .ok (.iadd, 1) := dk_12 dd_436
theorem dX7_swap_107 : decode cX7_swap 107 = .ok (.iaload, 1) := dk_13 dd_436
theorem dX7_swap_108 : decode cX7_swap 108 = .ok (.iastore, 1) := dk_14 dd_436
theorem dX7_swap_109 : decode cX7_swap 109 = .ok (.aload_n 0, 1) := dk_15 dd_436
theorem dd_437 : fd_G cX7_swap 110 [(110, .sipush 140, 3), (113, .iconst 0, 1), (114, .invokevirtual 214, 3), (117, .aload_n 0, 1), (118, .invokevirtual 234, 3), (121, .iload_n 2, 1), (122, .if_icmp .le 14, 3), (125, .bipush 10, 2), (127, .iload 4, 2), (129, .imul, 1), (130, .iload 5, 2), (132, .iadd, 1), (133, .goto 4, 3), (136, .iload_n 3, 1), (137, .istore_n 3, 1), (138, .aload_n 0, 1)] = true := by decide +kernel
theorem dX7_swap_110 : decode cX7_swap 110 = .ok (.sipush 140, 3) := dk_0 dd_437
theorem dX7_swap_113 : decode cX7_swap 113 = .ok (.iconst 0, 1) := dk_1 dd_437
theorem dX7_swap_114 : decode cX7_swap 114 = .ok (.invokevirtual 214, 3) := dk_2 dd_437
theorem dX7_swap_117 : decode cX7_swap 117 = .ok (.aload_n 0, 1) := dk_3 dd_437
theorem dX7_swap_118 : decode cX7_swap 118 = .ok (.invokevirtual 234, 3) := dk_4 dd_437
theorem dX7_swap_121 : decode cX7_swap 121 = .ok (.iload_n 2, 1) := dk_5 dd_437
theorem dX7_swap_122 : decode cX7_swap 122 = .ok (.if_icmp .le 14, 3) := dk_6 dd_437
theorem dX7_swap_125 : decode cX7_swap 125 = .ok (.bipush 10, 2) := dk_7 dd_437
theorem dX7_swap_127 : decode cX7_swap 127 = .ok (.iload 4, 2) := dk_8 dd_437
theorem dX7_swap_129 : decode cX7_swap 129 = .ok (.imul, 1) := dk_9 dd_437
theorem dX7_swap_130 : decode cX7_swap 130 = .ok (.iload 5, 2) := dk_10 dd_437
theorem dX7_swap_132 : decode cX7_swap 132 = .ok (.iadd, 1) := dk_11 dd_437
theorem dX7_swap_133 : decode cX7_swap 133 = .ok (.goto 4, 3) := dk_12 dd_437
theorem dX7_swap_136 : decode cX7_swap 136 = .ok (.iload_n 3, 1) := dk_13 dd_437
theorem dX7_swap_137 : decode cX7_swap 137 = .ok (.istore_n 3, 1) := dk_14 dd_437
theorem dX7_swap_138 : decode cX7_swap 138 = .ok (.aload_n 0, 1) := dk_15 dd_437
theorem dd_438 : fd_G cX7_swap 139 [(139, .invokevirtual 234, 3), (142, .iload_n 2, 1), (143, .if_icmp .le 10, 3), (146, .aload_n 0, 1), (147, .invokevirtual 234, 3), (150, .goto 4, 3), (153, .iload_n 2, 1), (154, .istore_n 2, 1), (155, .iinc 5 1, 3), (158, .goto (-111), 3), (161, .iinc 4 1, 3), (164, .goto (-135), 3), (167, .iload_n 3, 1), (168, .bipush (-4), 2), (170, .if_icmp .eq 7, 3), (173, .iload_n 1, 1)] = true := by decide +kernel
theorem dX7_swap_139 : decode cX7_swap 139 = .ok (.invokevirtual 234, 3) := dk_0 dd_438
theorem dX7_swap_142 : decode cX7_swap 142 = .ok (.iload_n 2, 1) := dk_1 dd_438
theorem dX7_swap_143 : decode cX7_swap 143 = .ok (.if_icmp .le 10, 3) := dk_2 dd_438
theorem dX7_swap_146 : decode cX7_swap 146 = .ok (.aload_n 0, 1) := dk_3 dd_438
theorem dX7_swap_147 : decode cX7_swap 147 = .ok (.invokevirtual 234, 3) := dk_4 dd_438
theorem dX7_swap_150 : decode cX7_swap 150 = .ok (.goto 4, 3) := dk_5 dd_438
theorem dX7_swap_153 : decode cX7_swap 153 = .ok (.iload_n 2, 1) := dk_6 dd_438
theorem dX7_swap_154 : decode cX7_swap 154 = .ok (.istore_n 2, 1) := dk_7 dd_438
theorem dX7_swap_155 : decode cX7_swap 155 = .ok (.iinc 5 1, 3) := dk_8 dd_438
theorem dX7_swap_158 : decode cX7_swap 158 = .ok (.goto (-111), 3) := dk_9 dd_438
theorem dX7_swap_161 : decode cX7_swap 161 = .ok (.iinc 4 1, 3) := dk_10 dd_438
theorem dX7_swap_164 : decode cX7_swap 164 = .ok (.goto (-135), 3) := dk_11 dd_438
theorem dX7_swap_167 : decode cX7_swap 167 = .ok (.iload_n 3, 1) := dk_12 dd_438
theorem dX7_swap_168 : decode cX7_swap 168 = .ok (.bipush (-4), 2) := dk_13 dd_438
theorem dX7_swap_170 : decode cX7_swap 170 = .ok (.if_icmp .eq 7, 3) := dk_14 dd_438
theorem dX7_swap_173 : decode cX7_swap 173 = .ok (.iload_n 1, 1) := dk_15 dd_438
theorem dd_439 : fd_G cX7_swap 174 [(174, .ifCond .ne 7, 3), (177, .iload_n 3, 1), (178, .goto 4, 3), (181, .iload_n 2, 1), (182, .ireturn, 1)] = true := by decide +kernel
theorem dX7_swap_174 : decode cX7_swap 174 = .ok (.ifCond .ne 7, 3) := dk_0 dd_439
theorem dX7_swap_177 : decode cX7_swap 177 = .ok (.iload_n 3, 1) := dk_1 dd_439
theorem dX7_swap_178 : decode cX7_swap 178 = .ok (.goto 4, 3) := dk_2 dd_439
theorem dX7_swap_181 : decode cX7_swap 181 = .ok (.iload_n 2, 1) := dk_3 dd_439
theorem dX7_swap_182 : decode cX7_swap 182 = .ok (.ireturn, 1) := dk_4 dd_439
theorem dd_440 : fd_G cX7_enough 0 [(0, .iconst 1, 1), (1, .istore_n 1, 1), (2, .iload_n 1, 1), (3, .iconst 5, 1), (4, .if_icmp .gt 47, 3), (7, .aload_n 0, 1), (8, .iconst 0, 1), (9, .sipush 140, 3), (12, .invokevirtual 196, 3), (15, .aload_n 0, 1), (16, .getfield 7, 3), (19, .sipush 157, 3), (22, .iload_n 1, 1), (23, .iconst 2, 1), (24, .isub, 1), (25, .iastore, 1)] = true := by decide +kernel
theorem dX7_enough_0 : decode cX7_enough 0 = .ok (.iconst 1, 1) := dk_0 dd_440
theorem dX7_enough_1 : decode cX7_enough 1 = .ok (.istore_n 1, 1) := dk_1 dd_440
theorem dX7_enough_2 : decode cX7_enough 2 = .ok (.iload_n 1, 1) := dk_2 dd_440
theorem dX7_enough_3 : decode cX7_enough 3 = .ok (.iconst 5, 1) := dk_3 dd_440
theorem dX7_enough_4 : decode cX7_enough 4 = .ok (.if_icmp .gt 47, 3) := dk_4 dd_440
theorem dX7_enough_7 : decode cX7_enough 7 = .ok (.aload_n 0, 1) := dk_5 dd_440
theorem dX7_enough_8 : decode cX7_enough 8 = .ok (.iconst 0, 1) := dk_6 dd_440
theorem dX7_enough_9 : decode cX7_enough 9 = .ok (.sipush 140, 3) := dk_7 dd_440
theorem dX7_enough_12 : decode cX7_enough 12 = .ok (.invokevirtual 196, 3) := dk_8 dd_440
theorem dX7_enough_15 : decode cX7_enough 15 = .ok (.aload_n 0, 1) := dk_9 dd_440
theorem dX7_enough_16 : decode cX7_enough 16 = .ok (.getfield 7, 3) := dk_10 dd_440
theorem dX7_enough_19 : decode cX7_enough 19 = .ok (.sipush 157, 3) := dk_11 dd_440
theorem dX7_enough_22 : decode cX7_enough 22 = .ok (.iload_n 1, 1) := dk_12 dd_440
theorem dX7_enough_23 : decode cX7_enough 23 = .ok (.iconst 2, 1) := dk_13 dd_440
theorem dX7_enough_24 : decode cX7_enough 24 = .ok (.isub, 1) := dk_14 dd_440
theorem dX7_enough_25 : decode cX7_enough 25 = .ok (.iastore, 1) := dk_15 dd_440
theorem dd_441 : fd_G cX7_enough 26 [(26, .aload_n 0, 1), (27, .sipush 140, 3), (30, .iconst 0, 1), (31, .invokevirtual 214, 3), (34, .aload_n 0, 1), (35, .bipush 112, 2), (37, .invokevirtual 152, 3), (40, .ifCond .ne 5, 3), (43, .iload_n 1, 1), (44, .ireturn, 1), (45, .iinc 1 1, 3), (48, .goto (-46), 3), (51, .bipush (-4), 2), (53, .ireturn, 1)] = true := by decide +kernel
theorem dX7_enough_26 : decode cX7_enough 26 = .ok (.aload_n 0, 1) := dk_0 dd_441
theorem dX7_enough_27 : decode cX7_enough 27 = .ok (.sipush 140, 3) := dk_1 dd_441
theorem dX7_enough_30 : decode cX7_enough 30 = .ok (.iconst 0, 1) := dk_2 dd_441
theorem dX7_enough_31 : decode cX7_enough 31 = .ok (.invokevirtual 214, 3) := dk_3 dd_441
theorem dX7_enough_34 : decode cX7_enough 34 = .ok (.aload_n 0, 1) := dk_4 dd_441
theorem dX7_enough_35 : decode cX7_enough 35 = .ok (.bipush 112, 2) := dk_5 dd_441
theorem dX7_enough_37 : decode cX7_enough 37 = .ok (.invokevirtual 152, 3) := dk_6 dd_441
theorem dX7_enough_40 : decode cX7_enough 40 = .ok (.ifCond .ne 5, 3) := dk_7 dd_441
theorem dX7_enough_43 : decode cX7_enough 43 = .ok (.iload_n 1, 1) := dk_8 dd_441
theorem dX7_enough_44 : decode cX7_enough 44 = .ok (.ireturn, 1) := dk_9 dd_441
theorem dX7_enough_45 : decode cX7_enough 45 = .ok (.iinc 1 1, 3) := dk_10 dd_441
theorem dX7_enough_48 : decode cX7_enough 48 = .ok (.goto (-46), 3) := dk_11 dd_441
theorem dX7_enough_51 : decode cX7_enough 51 = .ok (.bipush (-4), 2) := dk_12 dd_441
theorem dX7_enough_53 : decode cX7_enough 53 = .ok (.ireturn, 1) := dk_13 dd_441
theorem dX7_lowest_0 : decode cX7_lowest 0 = .ok (.lload_n 0, 1) := by decide +kernel
theorem dX7_lowest_9 : decode cX7_lowest 9 = .ok (.lcmp, 1) := by decide +kernel
theorem dX7_lowest_17 : decode cX7_lowest 17 = .ok (.lrem, 1) := by decide +kernel
theorem dd_442 : fd_G cX7_lowest 1 [(1, .lstore 5, 2), (3, .lload_n 2, 1), (4, .lstore 7, 2), (6, .lload 7, 2), (8, .lconst 0, 1), (10, .ifCond .eq 21, 3), (13, .lload 5, 2), (15, .lload 7, 2), (18, .lstore 9, 2), (20, .lload 7, 2), (22, .lstore 5, 2), (24, .lload 9, 2), (26, .lstore 7, 2), (28, .goto (-22), 3), (31, .iload 4, 2), (33, .ifCond .ne 7, 3)] = true := by decide +kernel
theorem dX7_lowest_1 : decode cX7_lowest 1 = .ok (.lstore 5, 2) := dk_0 dd_442
theorem dX7_lowest_3 : decode cX7_lowest 3 = .ok (.lload_n 2, 1) := dk_1 dd_442
theorem dX7_lowest_4 : decode cX7_lowest 4 = .ok (.lstore 7, 2) := dk_2 dd_442
theorem dX7_lowest_6 : decode cX7_lowest 6 = .ok (.lload 7, 2) := dk_3 dd_442
theorem dX7_lowest_8 : decode cX7_lowest 8 = .ok (.lconst 0, 1) := dk_4 dd_442
theorem dX7_lowest_10 : decode cX7_lowest 10 = .ok (.ifCond .eq 21, 3) := dk_5 dd_442
theorem dX7_lowest_13 : decode cX7_lowest 13 = .ok (.lload 5, 2) := dk_6 dd_442
theorem dX7_lowest_15 : decode cX7_lowest 15 = .ok (.lload 7, 2) := dk_7 dd_442
theorem dX7_lowest_18 : decode cX7_lowest 18 = .ok (.lstore 9, 2) := dk_8 dd_442
theorem dX7_lowest_20 : decode cX7_lowest 20 = .ok (.lload 7, 2) := dk_9 dd_442
theorem dX7_lowest_22 : decode cX7_lowest 22 = .ok (.lstore 5, 2) := dk_10 dd_442
theorem dX7_lowest_24 : decode cX7_lowest 24 = .ok (.lload 9, 2) := dk_11 dd_442
theorem dX7_lowest_26 : decode cX7_lowest 26 = .ok (.lstore 7, 2) := dk_12 dd_442
theorem dX7_lowest_28 : decode cX7_lowest 28 = .ok (.goto (-22), 3) := dk_13 dd_442
theorem dX7_lowest_31 : decode cX7_lowest 31 = .ok (.iload 4, 2) := dk_14 dd_442
theorem dX7_lowest_33 : decode cX7_lowest 33 = .ok (.ifCond .ne 7, 3) := dk_15 dd_442
theorem dX7_lowest_36 : decode cX7_lowest 36 = .ok (.lload_n 0, 1) := by decide +kernel
theorem dX7_lowest_43 : decode cX7_lowest 43 = .ok (.ldiv, 1) := by decide +kernel
theorem dd_443 : fd_G cX7_lowest 37 [(37, .goto 4, 3), (40, .lload_n 2, 1), (41, .lload 5, 2), (44, .lreturn, 1)] = true := by decide +kernel
theorem dX7_lowest_37 : decode cX7_lowest 37 = .ok (.goto 4, 3) := dk_0 dd_443
theorem dX7_lowest_40 : decode cX7_lowest 40 = .ok (.lload_n 2, 1) := dk_1 dd_443
theorem dX7_lowest_41 : decode cX7_lowest 41 = .ok (.lload 5, 2) := dk_2 dd_443
theorem dX7_lowest_44 : decode cX7_lowest 44 = .ok (.lreturn, 1) := dk_3 dd_443
theorem dd_444 : fd_G cX7_byFails 0 [(0, .iconst 0, 1), (1, .istore 4, 2), (3, .iconst 0, 1), (4, .istore 5, 2), (6, .iload 5, 2), (8, .aload_n 0, 1), (9, .getfield 7, 3), (12, .bipush 27, 2), (14, .iaload, 1), (15, .if_icmp .ge 36, 3), (18, .iload 4, 2), (20, .aload_n 0, 1), (21, .getfield 7, 3), (24, .bipush 19, 2), (26, .iload 5, 2), (28, .iadd, 1)] = true := by decide +kernel
theorem dX7_byFails_0 : decode cX7_byFails 0 = .ok (.iconst 0, 1) := dk_0 dd_444
theorem dX7_byFails_1 : decode cX7_byFails 1 = .ok (.istore 4, 2) := dk_1 dd_444
theorem dX7_byFails_3 : decode cX7_byFails 3 = .ok (.iconst 0, 1) := dk_2 dd_444
theorem dX7_byFails_4 : decode cX7_byFails 4 = .ok (.istore 5, 2) := dk_3 dd_444
theorem dX7_byFails_6 : decode cX7_byFails 6 = .ok (.iload 5, 2) := dk_4 dd_444
theorem dX7_byFails_8 : decode cX7_byFails 8 = .ok (.aload_n 0, 1) := dk_5 dd_444
theorem dX7_byFails_9 : decode cX7_byFails 9 = .ok (.getfield 7, 3) := dk_6 dd_444
theorem dX7_byFails_12 : decode cX7_byFails 12 = .ok (.bipush 27, 2) := dk_7 dd_444
theorem dX7_byFails_14 : decode cX7_byFails 14 = .ok (.iaload, 1) := dk_8 dd_444
theorem dX7_byFails_15 : decode cX7_byFails 15 = .ok (.if_icmp .ge 36, 3) := dk_9 dd_444
theorem dX7_byFails_18 : decode cX7_byFails 18 = .ok (.iload 4, 2) := dk_10 dd_444
theorem dX7_byFails_20 : decode cX7_byFails 20 = .ok (.aload_n 0, 1) := dk_11 dd_444
theorem dX7_byFails_21 : decode cX7_byFails 21 = .ok (.getfield 7, 3) := dk_12 dd_444
theorem dX7_byFails_24 : decode cX7_byFails 24 = .ok (.bipush 19, 2) := dk_13 dd_444
theorem dX7_byFails_26 : decode cX7_byFails 26 = .ok (.iload 5, 2) := dk_14 dd_444
theorem dX7_byFails_28 : decode cX7_byFails 28 = .ok (.iadd, 1) := dk_15 dd_444
theorem dd_445 : fd_G cX7_byFails 29 [(29, .iaload, 1), (30, .iconst 5, 1), (31, .if_icmp .ge 10, 3), (34, .iconst 1, 1), (35, .iload 5, 2), (37, .ishl, 1), (38, .goto 4, 3), (41, .iconst 0, 1), (42, .ior, 1), (43, .istore 4, 2), (45, .iinc 5 1, 3), (48, .goto (-42), 3), (51, .lconst 0, 1), (52, .lstore 5, 2), (54, .lconst 1, 1), (55, .lstore 7, 2)] = true := by decide +kernel
theorem dX7_byFails_29 : decode cX7_byFails 29 = .ok (.iaload, 1) := dk_0 dd_445
theorem dX7_byFails_30 : decode cX7_byFails 30 = .ok (.iconst 5, 1) := dk_1 dd_445
theorem dX7_byFails_31 : decode cX7_byFails 31 = .ok (.if_icmp .ge 10, 3) := dk_2 dd_445
theorem dX7_byFails_34 : decode cX7_byFails 34 = .ok (.iconst 1, 1) := dk_3 dd_445
theorem dX7_byFails_35 : decode cX7_byFails 35 = .ok (.iload 5, 2) := dk_4 dd_445
theorem dX7_byFails_37 : decode cX7_byFails 37 = .ok (.ishl, 1) := dk_5 dd_445
theorem dX7_byFails_38 : decode cX7_byFails 38 = .ok (.goto 4, 3) := dk_6 dd_445
theorem dX7_byFails_41 : decode cX7_byFails 41 = .ok (.iconst 0, 1) := dk_7 dd_445
theorem dX7_byFails_42 : decode cX7_byFails 42 = .ok (.ior, 1) := dk_8 dd_445
theorem dX7_byFails_43 : decode cX7_byFails 43 = .ok (.istore 4, 2) := dk_9 dd_445
theorem dX7_byFails_45 : decode cX7_byFails 45 = .ok (.iinc 5 1, 3) := dk_10 dd_445
theorem dX7_byFails_48 : decode cX7_byFails 48 = .ok (.goto (-42), 3) := dk_11 dd_445
theorem dX7_byFails_51 : decode cX7_byFails 51 = .ok (.lconst 0, 1) := dk_12 dd_445
theorem dX7_byFails_52 : decode cX7_byFails 52 = .ok (.lstore 5, 2) := dk_13 dd_445
theorem dX7_byFails_54 : decode cX7_byFails 54 = .ok (.lconst 1, 1) := dk_14 dd_445
theorem dX7_byFails_55 : decode cX7_byFails 55 = .ok (.lstore 7, 2) := dk_15 dd_445
theorem dd_446 : fd_G cX7_byFails 57 [(57, .iconst 0, 1), (58, .istore 9, 2), (60, .iload 9, 2), (62, .bipush 8, 2), (64, .if_icmp .ge 32, 3), (67, .lload 7, 2), (69, .iload 4, 2), (71, .iload 9, 2), (73, .ishr, 1), (74, .iconst 1, 1), (75, .iand, 1), (76, .iconst 1, 1), (77, .if_icmp .ne 9, 3), (80, .ldc2_w 224, 3), (83, .goto 4, 3), (86, .lconst 1, 1)] = true := by decide +kernel
theorem dX7_byFails_57 : decode cX7_byFails 57 = .ok (.iconst 0, 1) := dk_0 dd_446
theorem dX7_byFails_58 : decode cX7_byFails 58 = .ok (.istore 9, 2) := dk_1 dd_446
theorem dX7_byFails_60 : decode cX7_byFails 60 = .ok (.iload 9, 2) := dk_2 dd_446
theorem dX7_byFails_62 : decode cX7_byFails 62 = .ok (.bipush 8, 2) := dk_3 dd_446
theorem dX7_byFails_64 : decode cX7_byFails 64 = .ok (.if_icmp .ge 32, 3) := dk_4 dd_446
theorem dX7_byFails_67 : decode cX7_byFails 67 = .ok (.lload 7, 2) := dk_5 dd_446
theorem dX7_byFails_69 : decode cX7_byFails 69 = .ok (.iload 4, 2) := dk_6 dd_446
theorem dX7_byFails_71 : decode cX7_byFails 71 = .ok (.iload 9, 2) := dk_7 dd_446
theorem dX7_byFails_73 : decode cX7_byFails 73 = .ok (.ishr, 1) := dk_8 dd_446
theorem dX7_byFails_74 : decode cX7_byFails 74 = .ok (.iconst 1, 1) := dk_9 dd_446
theorem dX7_byFails_75 : decode cX7_byFails 75 = .ok (.iand, 1) := dk_10 dd_446
theorem dX7_byFails_76 : decode cX7_byFails 76 = .ok (.iconst 1, 1) := dk_11 dd_446
theorem dX7_byFails_77 : decode cX7_byFails 77 = .ok (.if_icmp .ne 9, 3) := dk_12 dd_446
theorem dX7_byFails_80 : decode cX7_byFails 80 = .ok (.ldc2_w 224, 3) := dk_13 dd_446
theorem dX7_byFails_83 : decode cX7_byFails 83 = .ok (.goto 4, 3) := dk_14 dd_446
theorem dX7_byFails_86 : decode cX7_byFails 86 = .ok (.lconst 1, 1) := dk_15 dd_446
theorem dX7_byFails_87 : decode cX7_byFails 87 = .ok (.lmul, 1) := by decide +kernel
theorem dX7_byFails_112 : decode cX7_byFails 112 = .ok (.ixor, 1) := by decide +kernel
theorem dd_447 : fd_G cX7_byFails 88 [(88, .lstore 7, 2), (90, .iinc 9 1, 3), (93, .goto (-33), 3), (96, .iconst 0, 1), (97, .istore 9, 2), (99, .iload 9, 2), (101, .sipush 256, 3), (104, .if_icmp .ge 118, 3), (107, .iload 9, 2), (109, .iload 4, 2), (111, .iconst (-1), 1), (113, .iand, 1), (114, .ifCond .ne 102, 3), (117, .lconst 1, 1), (118, .lstore 10, 2), (120, .iconst 0, 1)] = true := by decide +kernel
theorem dX7_byFails_88 : decode cX7_byFails 88 = .ok (.lstore 7, 2) := dk_0 dd_447
theorem dX7_byFails_90 : decode cX7_byFails 90 = .ok (.iinc 9 1, 3) := dk_1 dd_447
theorem dX7_byFails_93 : decode cX7_byFails 93 = .ok (.goto (-33), 3) := dk_2 dd_447
theorem dX7_byFails_96 : decode cX7_byFails 96 = .ok (.iconst 0, 1) := dk_3 dd_447
theorem dX7_byFails_97 : decode cX7_byFails 97 = .ok (.istore 9, 2) := dk_4 dd_447
theorem dX7_byFails_99 : decode cX7_byFails 99 = .ok (.iload 9, 2) := dk_5 dd_447
theorem dX7_byFails_101 : decode cX7_byFails 101 = .ok (.sipush 256, 3) := dk_6 dd_447
theorem dX7_byFails_104 : decode cX7_byFails 104 = .ok (.if_icmp .ge 118, 3) := dk_7 dd_447
theorem dX7_byFails_107 : decode cX7_byFails 107 = .ok (.iload 9, 2) := dk_8 dd_447
theorem dX7_byFails_109 : decode cX7_byFails 109 = .ok (.iload 4, 2) := dk_9 dd_447
theorem dX7_byFails_111 : decode cX7_byFails 111 = .ok (.iconst (-1), 1) := dk_10 dd_447
theorem dX7_byFails_113 : decode cX7_byFails 113 = .ok (.iand, 1) := dk_11 dd_447
theorem dX7_byFails_114 : decode cX7_byFails 114 = .ok (.ifCond .ne 102, 3) := dk_12 dd_447
theorem dX7_byFails_117 : decode cX7_byFails 117 = .ok (.lconst 1, 1) := dk_13 dd_447
theorem dX7_byFails_118 : decode cX7_byFails 118 = .ok (.lstore 10, 2) := dk_14 dd_447
theorem dX7_byFails_120 : decode cX7_byFails 120 = .ok (.iconst 0, 1) := dk_15 dd_447
theorem dd_448 : fd_G cX7_byFails 121 [(121, .istore 12, 2), (123, .iload 12, 2), (125, .bipush 8, 2), (127, .if_icmp .ge 49, 3), (130, .lload 10, 2), (132, .iload 4, 2), (134, .iload 12, 2), (136, .ishr, 1), (137, .iconst 1, 1), (138, .iand, 1), (139, .ifCond .ne 7, 3), (142, .lconst 1, 1), (143, .goto 24, 3), (146, .iload 9, 2), (148, .iload 12, 2), (150, .ishr, 1)] = true := by decide +kernel
theorem dX7_byFails_121 : decode cX7_byFails 121 = .ok (.istore 12, 2) := dk_0 dd_448
theorem dX7_byFails_123 : decode cX7_byFails 123 = .ok (.iload 12, 2) := dk_1 dd_448
theorem dX7_byFails_125 : decode cX7_byFails 125 = .ok (.bipush 8, 2) := dk_2 dd_448
theorem dX7_byFails_127 : decode cX7_byFails 127 = .ok (.if_icmp .ge 49, 3) := dk_3 dd_448
theorem dX7_byFails_130 : decode cX7_byFails 130 = .ok (.lload 10, 2) := dk_4 dd_448
theorem dX7_byFails_132 : decode cX7_byFails 132 = .ok (.iload 4, 2) := dk_5 dd_448
theorem dX7_byFails_134 : decode cX7_byFails 134 = .ok (.iload 12, 2) := dk_6 dd_448
theorem dX7_byFails_136 : decode cX7_byFails 136 = .ok (.ishr, 1) := dk_7 dd_448
theorem dX7_byFails_137 : decode cX7_byFails 137 = .ok (.iconst 1, 1) := dk_8 dd_448
theorem dX7_byFails_138 : decode cX7_byFails 138 = .ok (.iand, 1) := dk_9 dd_448
theorem dX7_byFails_139 : decode cX7_byFails 139 = .ok (.ifCond .ne 7, 3) := dk_10 dd_448
theorem dX7_byFails_142 : decode cX7_byFails 142 = .ok (.lconst 1, 1) := dk_11 dd_448
theorem dX7_byFails_143 : decode cX7_byFails 143 = .ok (.goto 24, 3) := dk_12 dd_448
theorem dX7_byFails_146 : decode cX7_byFails 146 = .ok (.iload 9, 2) := dk_13 dd_448
theorem dX7_byFails_148 : decode cX7_byFails 148 = .ok (.iload 12, 2) := dk_14 dd_448
theorem dX7_byFails_150 : decode cX7_byFails 150 = .ok (.ishr, 1) := dk_15 dd_448
theorem dX7_byFails_167 : decode cX7_byFails 167 = .ok (.lmul, 1) := by decide +kernel
theorem dd_449 : fd_G cX7_byFails 151 [(151, .iconst 1, 1), (152, .iand, 1), (153, .iconst 1, 1), (154, .if_icmp .ne 8, 3), (157, .iload_n 1, 1), (158, .i2l, 1), (159, .goto 8, 3), (162, .bipush 10, 2), (164, .iload_n 1, 1), (165, .isub, 1), (166, .i2l, 1), (168, .lstore 10, 2), (170, .iinc 12 1, 3), (173, .goto (-50), 3), (176, .aload_n 0, 1), (177, .iconst 0, 1)] = true := by decide +kernel
theorem dX7_byFails_151 : decode cX7_byFails 151 = .ok (.iconst 1, 1) := dk_0 dd_449
theorem dX7_byFails_152 : decode cX7_byFails 152 = .ok (.iand, 1) := dk_1 dd_449
theorem dX7_byFails_153 : decode cX7_byFails 153 = .ok (.iconst 1, 1) := dk_2 dd_449
theorem dX7_byFails_154 : decode cX7_byFails 154 = .ok (.if_icmp .ne 8, 3) := dk_3 dd_449
theorem dX7_byFails_157 : decode cX7_byFails 157 = .ok (.iload_n 1, 1) := dk_4 dd_449
theorem dX7_byFails_158 : decode cX7_byFails 158 = .ok (.i2l, 1) := dk_5 dd_449
theorem dX7_byFails_159 : decode cX7_byFails 159 = .ok (.goto 8, 3) := dk_6 dd_449
theorem dX7_byFails_162 : decode cX7_byFails 162 = .ok (.bipush 10, 2) := dk_7 dd_449
theorem dX7_byFails_164 : decode cX7_byFails 164 = .ok (.iload_n 1, 1) := dk_8 dd_449
theorem dX7_byFails_165 : decode cX7_byFails 165 = .ok (.isub, 1) := dk_9 dd_449
theorem dX7_byFails_166 : decode cX7_byFails 166 = .ok (.i2l, 1) := dk_10 dd_449
theorem dX7_byFails_168 : decode cX7_byFails 168 = .ok (.lstore 10, 2) := dk_11 dd_449
theorem dX7_byFails_170 : decode cX7_byFails 170 = .ok (.iinc 12 1, 3) := dk_12 dd_449
theorem dX7_byFails_173 : decode cX7_byFails 173 = .ok (.goto (-50), 3) := dk_13 dd_449
theorem dX7_byFails_176 : decode cX7_byFails 176 = .ok (.aload_n 0, 1) := dk_14 dd_449
theorem dX7_byFails_177 : decode cX7_byFails 177 = .ok (.iconst 0, 1) := dk_15 dd_449
theorem dd_450 : fd_G cX7_byFails 178 [(178, .iload 9, 2), (180, .invokevirtual 214, 3), (183, .lload 5, 2), (185, .lload 10, 2), (187, .iload_n 2, 1), (188, .bipush (-4), 2), (190, .if_icmp .ne 10, 3), (193, .aload_n 0, 1), (194, .invokevirtual 234, 3), (197, .goto 14, 3), (200, .aload_n 0, 1), (201, .getfield 7, 3), (204, .bipush 127, 2), (206, .iaload, 1), (207, .iload_n 2, 1), (208, .ishr, 1)] = true := by decide +kernel
theorem dX7_byFails_178 : decode cX7_byFails 178 = .ok (.iload 9, 2) := dk_0 dd_450
theorem dX7_byFails_180 : decode cX7_byFails 180 = .ok (.invokevirtual 214, 3) := dk_1 dd_450
theorem dX7_byFails_183 : decode cX7_byFails 183 = .ok (.lload 5, 2) := dk_2 dd_450
theorem dX7_byFails_185 : decode cX7_byFails 185 = .ok (.lload 10, 2) := dk_3 dd_450
theorem dX7_byFails_187 : decode cX7_byFails 187 = .ok (.iload_n 2, 1) := dk_4 dd_450
theorem dX7_byFails_188 : decode cX7_byFails 188 = .ok (.bipush (-4), 2) := dk_5 dd_450
theorem dX7_byFails_190 : decode cX7_byFails 190 = .ok (.if_icmp .ne 10, 3) := dk_6 dd_450
theorem dX7_byFails_193 : decode cX7_byFails 193 = .ok (.aload_n 0, 1) := dk_7 dd_450
theorem dX7_byFails_194 : decode cX7_byFails 194 = .ok (.invokevirtual 234, 3) := dk_8 dd_450
theorem dX7_byFails_197 : decode cX7_byFails 197 = .ok (.goto 14, 3) := dk_9 dd_450
theorem dX7_byFails_200 : decode cX7_byFails 200 = .ok (.aload_n 0, 1) := dk_10 dd_450
theorem dX7_byFails_201 : decode cX7_byFails 201 = .ok (.getfield 7, 3) := dk_11 dd_450
theorem dX7_byFails_204 : decode cX7_byFails 204 = .ok (.bipush 127, 2) := dk_12 dd_450
theorem dX7_byFails_206 : decode cX7_byFails 206 = .ok (.iaload, 1) := dk_13 dd_450
theorem dX7_byFails_207 : decode cX7_byFails 207 = .ok (.iload_n 2, 1) := dk_14 dd_450
theorem dX7_byFails_208 : decode cX7_byFails 208 = .ok (.ishr, 1) := dk_15 dd_450
theorem dX7_byFails_212 : decode cX7_byFails 212 = .ok (.lmul, 1) := by decide +kernel
theorem dX7_byFails_213 : decode cX7_byFails 213 = .ok (.ladd, 1) := by decide +kernel
theorem dd_451 : fd_G cX7_byFails 209 [(209, .iconst 1, 1), (210, .iand, 1), (211, .i2l, 1), (214, .lstore 5, 2), (216, .iinc 9 1, 3), (219, .goto (-120), 3), (222, .lload 5, 2), (224, .lload 7, 2), (226, .iload_n 3, 1), (227, .invokestatic 237, 3), (230, .lreturn, 1)] = true := by decide +kernel
theorem dX7_byFails_209 : decode cX7_byFails 209 = .ok (.iconst 1, 1) := dk_0 dd_451
theorem dX7_byFails_210 : decode cX7_byFails 210 = .ok (.iand, 1) := dk_1 dd_451
theorem dX7_byFails_211 : decode cX7_byFails 211 = .ok (.i2l, 1) := dk_2 dd_451
theorem dX7_byFails_214 : decode cX7_byFails 214 = .ok (.lstore 5, 2) := dk_3 dd_451
theorem dX7_byFails_216 : decode cX7_byFails 216 = .ok (.iinc 9 1, 3) := dk_4 dd_451
theorem dX7_byFails_219 : decode cX7_byFails 219 = .ok (.goto (-120), 3) := dk_5 dd_451
theorem dX7_byFails_222 : decode cX7_byFails 222 = .ok (.lload 5, 2) := dk_6 dd_451
theorem dX7_byFails_224 : decode cX7_byFails 224 = .ok (.lload 7, 2) := dk_7 dd_451
theorem dX7_byFails_226 : decode cX7_byFails 226 = .ok (.iload_n 3, 1) := dk_8 dd_451
theorem dX7_byFails_227 : decode cX7_byFails 227 = .ok (.invokestatic 237, 3) := dk_9 dd_451
theorem dX7_byFails_230 : decode cX7_byFails 230 = .ok (.lreturn, 1) := dk_10 dd_451
theorem dd_452 : fd_G cX7_luck 0 [(0, .iload_n 1, 1), (1, .i2l, 1), (2, .lconst 0, 1), (3, .ldc2_w 224, 3), (6, .invokestatic 49, 3), (9, .ifCond .eq 31, 3), (12, .aload_n 0, 1), (13, .iload_n 2, 1), (14, .invokevirtual 158, 3), (17, .ifCond .eq 23, 3), (20, .iload_n 3, 1), (21, .i2l, 1), (22, .lconst 0, 1), (23, .lconst 1, 1), (24, .invokestatic 49, 3), (27, .ifCond .eq 13, 3)] = true := by decide +kernel
theorem dX7_luck_0 : decode cX7_luck 0 = .ok (.iload_n 1, 1) := dk_0 dd_452
theorem dX7_luck_1 : decode cX7_luck 1 = .ok (.i2l, 1) := dk_1 dd_452
theorem dX7_luck_2 : decode cX7_luck 2 = .ok (.lconst 0, 1) := dk_2 dd_452
theorem dX7_luck_3 : decode cX7_luck 3 = .ok (.ldc2_w 224, 3) := dk_3 dd_452
theorem dX7_luck_6 : decode cX7_luck 6 = .ok (.invokestatic 49, 3) := dk_4 dd_452
theorem dX7_luck_9 : decode cX7_luck 9 = .ok (.ifCond .eq 31, 3) := dk_5 dd_452
theorem dX7_luck_12 : decode cX7_luck 12 = .ok (.aload_n 0, 1) := dk_6 dd_452
theorem dX7_luck_13 : decode cX7_luck 13 = .ok (.iload_n 2, 1) := dk_7 dd_452
theorem dX7_luck_14 : decode cX7_luck 14 = .ok (.invokevirtual 158, 3) := dk_8 dd_452
theorem dX7_luck_17 : decode cX7_luck 17 = .ok (.ifCond .eq 23, 3) := dk_9 dd_452
theorem dX7_luck_20 : decode cX7_luck 20 = .ok (.iload_n 3, 1) := dk_10 dd_452
theorem dX7_luck_21 : decode cX7_luck 21 = .ok (.i2l, 1) := dk_11 dd_452
theorem dX7_luck_22 : decode cX7_luck 22 = .ok (.lconst 0, 1) := dk_12 dd_452
theorem dX7_luck_23 : decode cX7_luck 23 = .ok (.lconst 1, 1) := dk_13 dd_452
theorem dX7_luck_24 : decode cX7_luck 24 = .ok (.invokestatic 49, 3) := dk_14 dd_452
theorem dX7_luck_27 : decode cX7_luck 27 = .ok (.ifCond .eq 13, 3) := dk_15 dd_452
theorem dd_453 : fd_G cX7_luck 30 [(30, .aload_n 0, 1), (31, .iload_n 1, 1), (32, .iload_n 2, 1), (33, .iload_n 3, 1), (34, .invokevirtual 241, 3), (37, .goto 6, 3), (40, .ldc2_w 245, 3), (43, .lreturn, 1)] = true := by decide +kernel
theorem dX7_luck_30 : decode cX7_luck 30 = .ok (.aload_n 0, 1) := dk_0 dd_453
theorem dX7_luck_31 : decode cX7_luck 31 = .ok (.iload_n 1, 1) := dk_1 dd_453
theorem dX7_luck_32 : decode cX7_luck 32 = .ok (.iload_n 2, 1) := dk_2 dd_453
theorem dX7_luck_33 : decode cX7_luck 33 = .ok (.iload_n 3, 1) := dk_3 dd_453
theorem dX7_luck_34 : decode cX7_luck 34 = .ok (.invokevirtual 241, 3) := dk_4 dd_453
theorem dX7_luck_37 : decode cX7_luck 37 = .ok (.goto 6, 3) := dk_5 dd_453
theorem dX7_luck_40 : decode cX7_luck 40 = .ok (.ldc2_w 245, 3) := dk_6 dd_453
theorem dX7_luck_43 : decode cX7_luck 43 = .ok (.lreturn, 1) := dk_7 dd_453
theorem dd_454 : fd_G cX7_mean 0 [(0, .iload_n 1, 1), (1, .i2l, 1), (2, .lconst 0, 1), (3, .ldc2_w 224, 3), (6, .invokestatic 49, 3), (9, .ifCond .eq 24, 3), (12, .iload_n 2, 1), (13, .i2l, 1), (14, .lconst 0, 1), (15, .lconst 1, 1), (16, .invokestatic 49, 3), (19, .ifCond .eq 14, 3), (22, .aload_n 0, 1), (23, .iload_n 1, 1), (24, .bipush (-4), 2), (26, .iload_n 2, 1)] = true := by decide +kernel
theorem dX7_mean_0 : decode cX7_mean 0 = .ok (.iload_n 1, 1) := dk_0 dd_454
theorem dX7_mean_1 : decode cX7_mean 1 = .ok (.i2l, 1) := dk_1 dd_454
theorem dX7_mean_2 : decode cX7_mean 2 = .ok (.lconst 0, 1) := dk_2 dd_454
theorem dX7_mean_3 : decode cX7_mean 3 = .ok (.ldc2_w 224, 3) := dk_3 dd_454
theorem dX7_mean_6 : decode cX7_mean 6 = .ok (.invokestatic 49, 3) := dk_4 dd_454
theorem dX7_mean_9 : decode cX7_mean 9 = .ok (.ifCond .eq 24, 3) := dk_5 dd_454
theorem dX7_mean_12 : decode cX7_mean 12 = .ok (.iload_n 2, 1) := dk_6 dd_454
theorem dX7_mean_13 : decode cX7_mean 13 = .ok (.i2l, 1) := dk_7 dd_454
theorem dX7_mean_14 : decode cX7_mean 14 = .ok (.lconst 0, 1) := dk_8 dd_454
theorem dX7_mean_15 : decode cX7_mean 15 = .ok (.lconst 1, 1) := dk_9 dd_454
theorem dX7_mean_16 : decode cX7_mean 16 = .ok (.invokestatic 49, 3) := dk_10 dd_454
theorem dX7_mean_19 : decode cX7_mean 19 = .ok (.ifCond .eq 14, 3) := dk_11 dd_454
theorem dX7_mean_22 : decode cX7_mean 22 = .ok (.aload_n 0, 1) := dk_12 dd_454
theorem dX7_mean_23 : decode cX7_mean 23 = .ok (.iload_n 1, 1) := dk_13 dd_454
theorem dX7_mean_24 : decode cX7_mean 24 = .ok (.bipush (-4), 2) := dk_14 dd_454
theorem dX7_mean_26 : decode cX7_mean 26 = .ok (.iload_n 2, 1) := dk_15 dd_454
theorem dd_455 : fd_G cX7_mean 27 [(27, .invokevirtual 241, 3), (30, .goto 6, 3), (33, .ldc2_w 245, 3), (36, .lreturn, 1)] = true := by decide +kernel
theorem dX7_mean_27 : decode cX7_mean 27 = .ok (.invokevirtual 241, 3) := dk_0 dd_455
theorem dX7_mean_30 : decode cX7_mean 30 = .ok (.goto 6, 3) := dk_1 dd_455
theorem dX7_mean_33 : decode cX7_mean 33 = .ok (.ldc2_w 245, 3) := dk_2 dd_455
theorem dX7_mean_36 : decode cX7_mean 36 = .ok (.lreturn, 1) := dk_3 dd_455
theorem dd_456 : fd_G cX7_see 0 [(0, .aload_n 0, 1), (1, .iload_n 1, 1), (2, .invokevirtual 158, 3), (5, .ifCond .ne 5, 3), (8, .iconst (-1), 1), (9, .ireturn, 1), (10, .aload_n 0, 1), (11, .getfield 128, 3), (14, .bipush 6, 2), (16, .if_icmp .ne 6, 3), (19, .bipush (-3), 2), (21, .ireturn, 1), (22, .aload_n 0, 1), (23, .getfield 28, 3), (26, .iconst 2, 1), (27, .aload_n 0, 1)] = true := by decide +kernel
theorem dX7_see_0 : decode cX7_see 0 = .ok (.aload_n 0, 1) := dk_0 dd_456
theorem dX7_see_1 : decode cX7_see 1 = .ok (.iload_n 1, 1) := dk_1 dd_456
theorem dX7_see_2 : decode cX7_see 2 = .ok (.invokevirtual 158, 3) := dk_2 dd_456
theorem dX7_see_5 : decode cX7_see 5 = .ok (.ifCond .ne 5, 3) := dk_3 dd_456
theorem dX7_see_8 : decode cX7_see 8 = .ok (.iconst (-1), 1) := dk_4 dd_456
theorem dX7_see_9 : decode cX7_see 9 = .ok (.ireturn, 1) := dk_5 dd_456
theorem dX7_see_10 : decode cX7_see 10 = .ok (.aload_n 0, 1) := dk_6 dd_456
theorem dX7_see_11 : decode cX7_see 11 = .ok (.getfield 128, 3) := dk_7 dd_456
theorem dX7_see_14 : decode cX7_see 14 = .ok (.bipush 6, 2) := dk_8 dd_456
theorem dX7_see_16 : decode cX7_see 16 = .ok (.if_icmp .ne 6, 3) := dk_9 dd_456
theorem dX7_see_19 : decode cX7_see 19 = .ok (.bipush (-3), 2) := dk_10 dd_456
theorem dX7_see_21 : decode cX7_see 21 = .ok (.ireturn, 1) := dk_11 dd_456
theorem dX7_see_22 : decode cX7_see 22 = .ok (.aload_n 0, 1) := dk_12 dd_456
theorem dX7_see_23 : decode cX7_see 23 = .ok (.getfield 28, 3) := dk_13 dd_456
theorem dX7_see_26 : decode cX7_see 26 = .ok (.iconst 2, 1) := dk_14 dd_456
theorem dX7_see_27 : decode cX7_see 27 = .ok (.aload_n 0, 1) := dk_15 dd_456
theorem dd_457 : fd_G cX7_see 28 [(28, .getfield 128, 3), (31, .imul, 1), (32, .iload_n 1, 1), (33, .iastore, 1), (34, .aload_n 0, 1), (35, .getfield 28, 3), (38, .iconst 2, 1), (39, .aload_n 0, 1), (40, .getfield 128, 3), (43, .imul, 1), (44, .iconst 1, 1), (45, .iadd, 1), (46, .iload_n 2, 1), (47, .ifCond .eq 7, 3), (50, .iconst 1, 1), (51, .goto 4, 3)] = true := by decide +kernel
theorem dX7_see_28 : decode cX7_see 28 = .ok (.getfield 128, 3) := dk_0 dd_457
theorem dX7_see_31 : decode cX7_see 31 = .ok (.imul, 1) := dk_1 dd_457
theorem dX7_see_32 : decode cX7_see 32 = .ok (.iload_n 1, 1) := dk_2 dd_457
theorem dX7_see_33 : decode cX7_see 33 = .ok (.iastore, 1) := dk_3 dd_457
theorem dX7_see_34 : decode cX7_see 34 = .ok (.aload_n 0, 1) := dk_4 dd_457
theorem dX7_see_35 : decode cX7_see 35 = .ok (.getfield 28, 3) := dk_5 dd_457
theorem dX7_see_38 : decode cX7_see 38 = .ok (.iconst 2, 1) := dk_6 dd_457
theorem dX7_see_39 : decode cX7_see 39 = .ok (.aload_n 0, 1) := dk_7 dd_457
theorem dX7_see_40 : decode cX7_see 40 = .ok (.getfield 128, 3) := dk_8 dd_457
theorem dX7_see_43 : decode cX7_see 43 = .ok (.imul, 1) := dk_9 dd_457
theorem dX7_see_44 : decode cX7_see 44 = .ok (.iconst 1, 1) := dk_10 dd_457
theorem dX7_see_45 : decode cX7_see 45 = .ok (.iadd, 1) := dk_11 dd_457
theorem dX7_see_46 : decode cX7_see 46 = .ok (.iload_n 2, 1) := dk_12 dd_457
theorem dX7_see_47 : decode cX7_see 47 = .ok (.ifCond .eq 7, 3) := dk_13 dd_457
theorem dX7_see_50 : decode cX7_see 50 = .ok (.iconst 1, 1) := dk_14 dd_457
theorem dX7_see_51 : decode cX7_see 51 = .ok (.goto 4, 3) := dk_15 dd_457
theorem dd_458 : fd_G cX7_see 54 [(54, .iconst 0, 1), (55, .iastore, 1), (56, .aload_n 0, 1), (57, .dup, 1), (58, .getfield 128, 3), (61, .iconst 1, 1), (62, .iadd, 1), (63, .putfield 128, 3), (66, .aload_n 0, 1), (67, .getfield 128, 3), (70, .ireturn, 1)] = true := by decide +kernel
theorem dX7_see_54 : decode cX7_see 54 = .ok (.iconst 0, 1) := dk_0 dd_458
theorem dX7_see_55 : decode cX7_see 55 = .ok (.iastore, 1) := dk_1 dd_458
theorem dX7_see_56 : decode cX7_see 56 = .ok (.aload_n 0, 1) := dk_2 dd_458
theorem dX7_see_57 : decode cX7_see 57 = .ok (.dup, 1) := dk_3 dd_458
theorem dX7_see_58 : decode cX7_see 58 = .ok (.getfield 128, 3) := dk_4 dd_458
theorem dX7_see_61 : decode cX7_see 61 = .ok (.iconst 1, 1) := dk_5 dd_458
theorem dX7_see_62 : decode cX7_see 62 = .ok (.iadd, 1) := dk_6 dd_458
theorem dX7_see_63 : decode cX7_see 63 = .ok (.putfield 128, 3) := dk_7 dd_458
theorem dX7_see_66 : decode cX7_see 66 = .ok (.aload_n 0, 1) := dk_8 dd_458
theorem dX7_see_67 : decode cX7_see 67 = .ok (.getfield 128, 3) := dk_9 dd_458
theorem dX7_see_70 : decode cX7_see 70 = .ok (.ireturn, 1) := dk_10 dd_458
theorem dd_459 : fd_G cX7_forget 0 [(0, .iload_n 1, 1), (1, .i2l, 1), (2, .lconst 0, 1), (3, .aload_n 0, 1), (4, .getfield 128, 3), (7, .i2l, 1), (8, .invokestatic 49, 3), (11, .ifCond .ne 5, 3), (14, .iconst (-1), 1), (15, .ireturn, 1), (16, .aload_n 0, 1), (17, .getfield 128, 3), (20, .istore_n 2, 1), (21, .aload_n 0, 1), (22, .iload_n 1, 1), (23, .putfield 128, 3)] = true := by decide +kernel
theorem dX7_forget_0 : decode cX7_forget 0 = .ok (.iload_n 1, 1) := dk_0 dd_459
theorem dX7_forget_1 : decode cX7_forget 1 = .ok (.i2l, 1) := dk_1 dd_459
theorem dX7_forget_2 : decode cX7_forget 2 = .ok (.lconst 0, 1) := dk_2 dd_459
theorem dX7_forget_3 : decode cX7_forget 3 = .ok (.aload_n 0, 1) := dk_3 dd_459
theorem dX7_forget_4 : decode cX7_forget 4 = .ok (.getfield 128, 3) := dk_4 dd_459
theorem dX7_forget_7 : decode cX7_forget 7 = .ok (.i2l, 1) := dk_5 dd_459
theorem dX7_forget_8 : decode cX7_forget 8 = .ok (.invokestatic 49, 3) := dk_6 dd_459
theorem dX7_forget_11 : decode cX7_forget 11 = .ok (.ifCond .ne 5, 3) := dk_7 dd_459
theorem dX7_forget_14 : decode cX7_forget 14 = .ok (.iconst (-1), 1) := dk_8 dd_459
theorem dX7_forget_15 : decode cX7_forget 15 = .ok (.ireturn, 1) := dk_9 dd_459
theorem dX7_forget_16 : decode cX7_forget 16 = .ok (.aload_n 0, 1) := dk_10 dd_459
theorem dX7_forget_17 : decode cX7_forget 17 = .ok (.getfield 128, 3) := dk_11 dd_459
theorem dX7_forget_20 : decode cX7_forget 20 = .ok (.istore_n 2, 1) := dk_12 dd_459
theorem dX7_forget_21 : decode cX7_forget 21 = .ok (.aload_n 0, 1) := dk_13 dd_459
theorem dX7_forget_22 : decode cX7_forget 22 = .ok (.iload_n 1, 1) := dk_14 dd_459
theorem dX7_forget_23 : decode cX7_forget 23 = .ok (.putfield 128, 3) := dk_15 dd_459
theorem dd_460 : fd_G cX7_forget 26 [(26, .iload_n 2, 1), (27, .ireturn, 1)] = true := by decide +kernel
theorem dX7_forget_26 : decode cX7_forget 26 = .ok (.iload_n 2, 1) := dk_0 dd_460
theorem dX7_forget_27 : decode cX7_forget 27 = .ok (.ireturn, 1) := dk_1 dd_460
theorem dd_461 : fd_G cX7_isAsSeen 0 [(0, .aload_n 0, 1), (1, .iconst 0, 1), (2, .iconst 0, 1), (3, .invokevirtual 214, 3), (6, .iconst 1, 1), (7, .istore_n 1, 1), (8, .iconst 0, 1), (9, .istore_n 2, 1), (10, .iload_n 2, 1), (11, .aload_n 0, 1), (12, .getfield 128, 3), (15, .if_icmp .ge 50, 3), (18, .iload_n 1, 1), (19, .ifCond .eq 38, 3), (22, .aload_n 0, 1), (23, .getfield 7, 3)] = true := by decide +kernel
theorem dX7_isAsSeen_0 : decode cX7_isAsSeen 0 = .ok (.aload_n 0, 1) := dk_0 dd_461
theorem dX7_isAsSeen_1 : decode cX7_isAsSeen 1 = .ok (.iconst 0, 1) := dk_1 dd_461
theorem dX7_isAsSeen_2 : decode cX7_isAsSeen 2 = .ok (.iconst 0, 1) := dk_2 dd_461
theorem dX7_isAsSeen_3 : decode cX7_isAsSeen 3 = .ok (.invokevirtual 214, 3) := dk_3 dd_461
theorem dX7_isAsSeen_6 : decode cX7_isAsSeen 6 = .ok (.iconst 1, 1) := dk_4 dd_461
theorem dX7_isAsSeen_7 : decode cX7_isAsSeen 7 = .ok (.istore_n 1, 1) := dk_5 dd_461
theorem dX7_isAsSeen_8 : decode cX7_isAsSeen 8 = .ok (.iconst 0, 1) := dk_6 dd_461
theorem dX7_isAsSeen_9 : decode cX7_isAsSeen 9 = .ok (.istore_n 2, 1) := dk_7 dd_461
theorem dX7_isAsSeen_10 : decode cX7_isAsSeen 10 = .ok (.iload_n 2, 1) := dk_8 dd_461
theorem dX7_isAsSeen_11 : decode cX7_isAsSeen 11 = .ok (.aload_n 0, 1) := dk_9 dd_461
theorem dX7_isAsSeen_12 : decode cX7_isAsSeen 12 = .ok (.getfield 128, 3) := dk_10 dd_461
theorem dX7_isAsSeen_15 : decode cX7_isAsSeen 15 = .ok (.if_icmp .ge 50, 3) := dk_11 dd_461
theorem dX7_isAsSeen_18 : decode cX7_isAsSeen 18 = .ok (.iload_n 1, 1) := dk_12 dd_461
theorem dX7_isAsSeen_19 : decode cX7_isAsSeen 19 = .ok (.ifCond .eq 38, 3) := dk_13 dd_461
theorem dX7_isAsSeen_22 : decode cX7_isAsSeen 22 = .ok (.aload_n 0, 1) := dk_14 dd_461
theorem dX7_isAsSeen_23 : decode cX7_isAsSeen 23 = .ok (.getfield 7, 3) := dk_15 dd_461
theorem dd_462 : fd_G cX7_isAsSeen 26 [(26, .bipush 127, 2), (28, .iaload, 1), (29, .aload_n 0, 1), (30, .getfield 28, 3), (33, .iconst 2, 1), (34, .iload_n 2, 1), (35, .imul, 1), (36, .iaload, 1), (37, .ishr, 1), (38, .iconst 1, 1), (39, .iand, 1), (40, .aload_n 0, 1), (41, .getfield 28, 3), (44, .iconst 2, 1), (45, .iload_n 2, 1), (46, .imul, 1)] = true := by decide +kernel
theorem dX7_isAsSeen_26 : decode cX7_isAsSeen 26 = .ok (.bipush 127, 2) := dk_0 dd_462
theorem dX7_isAsSeen_28 : decode cX7_isAsSeen 28 = .ok (.iaload, 1) := dk_1 dd_462
theorem dX7_isAsSeen_29 : decode cX7_isAsSeen 29 = .ok (.aload_n 0, 1) := dk_2 dd_462
theorem dX7_isAsSeen_30 : decode cX7_isAsSeen 30 = .ok (.getfield 28, 3) := dk_3 dd_462
theorem dX7_isAsSeen_33 : decode cX7_isAsSeen 33 = .ok (.iconst 2, 1) := dk_4 dd_462
theorem dX7_isAsSeen_34 : decode cX7_isAsSeen 34 = .ok (.iload_n 2, 1) := dk_5 dd_462
theorem dX7_isAsSeen_35 : decode cX7_isAsSeen 35 = .ok (.imul, 1) := dk_6 dd_462
theorem dX7_isAsSeen_36 : decode cX7_isAsSeen 36 = .ok (.iaload, 1) := dk_7 dd_462
theorem dX7_isAsSeen_37 : decode cX7_isAsSeen 37 = .ok (.ishr, 1) := dk_8 dd_462
theorem dX7_isAsSeen_38 : decode cX7_isAsSeen 38 = .ok (.iconst 1, 1) := dk_9 dd_462
theorem dX7_isAsSeen_39 : decode cX7_isAsSeen 39 = .ok (.iand, 1) := dk_10 dd_462
theorem dX7_isAsSeen_40 : decode cX7_isAsSeen 40 = .ok (.aload_n 0, 1) := dk_11 dd_462
theorem dX7_isAsSeen_41 : decode cX7_isAsSeen 41 = .ok (.getfield 28, 3) := dk_12 dd_462
theorem dX7_isAsSeen_44 : decode cX7_isAsSeen 44 = .ok (.iconst 2, 1) := dk_13 dd_462
theorem dX7_isAsSeen_45 : decode cX7_isAsSeen 45 = .ok (.iload_n 2, 1) := dk_14 dd_462
theorem dX7_isAsSeen_46 : decode cX7_isAsSeen 46 = .ok (.imul, 1) := dk_15 dd_462
theorem dd_463 : fd_G cX7_isAsSeen 47 [(47, .iconst 1, 1), (48, .iadd, 1), (49, .iaload, 1), (50, .if_icmp .ne 7, 3), (53, .iconst 1, 1), (54, .goto 4, 3), (57, .iconst 0, 1), (58, .istore_n 1, 1), (59, .iinc 2 1, 3), (62, .goto (-52), 3), (65, .iload_n 1, 1), (66, .ireturn, 1)] = true := by decide +kernel
theorem dX7_isAsSeen_47 : decode cX7_isAsSeen 47 = .ok (.iconst 1, 1) := dk_0 dd_463
theorem dX7_isAsSeen_48 : decode cX7_isAsSeen 48 = .ok (.iadd, 1) := dk_1 dd_463
theorem dX7_isAsSeen_49 : decode cX7_isAsSeen 49 = .ok (.iaload, 1) := dk_2 dd_463
theorem dX7_isAsSeen_50 : decode cX7_isAsSeen 50 = .ok (.if_icmp .ne 7, 3) := dk_3 dd_463
theorem dX7_isAsSeen_53 : decode cX7_isAsSeen 53 = .ok (.iconst 1, 1) := dk_4 dd_463
theorem dX7_isAsSeen_54 : decode cX7_isAsSeen 54 = .ok (.goto 4, 3) := dk_5 dd_463
theorem dX7_isAsSeen_57 : decode cX7_isAsSeen 57 = .ok (.iconst 0, 1) := dk_6 dd_463
theorem dX7_isAsSeen_58 : decode cX7_isAsSeen 58 = .ok (.istore_n 1, 1) := dk_7 dd_463
theorem dX7_isAsSeen_59 : decode cX7_isAsSeen 59 = .ok (.iinc 2 1, 3) := dk_8 dd_463
theorem dX7_isAsSeen_62 : decode cX7_isAsSeen 62 = .ok (.goto (-52), 3) := dk_9 dd_463
theorem dX7_isAsSeen_65 : decode cX7_isAsSeen 65 = .ok (.iload_n 1, 1) := dk_10 dd_463
theorem dX7_isAsSeen_66 : decode cX7_isAsSeen 66 = .ok (.ireturn, 1) := dk_11 dd_463
theorem dd_464 : fd_G cX7_kinds 0 [(0, .aload_n 0, 1), (1, .iload_n 1, 1), (2, .invokevirtual 158, 3), (5, .ifCond .ne 5, 3), (8, .iconst (-1), 1), (9, .ireturn, 1), (10, .aload_n 0, 1), (11, .getfield 7, 3), (14, .iload_n 1, 1), (15, .iaload, 1), (16, .istore_n 2, 1), (17, .iconst 0, 1), (18, .istore_n 3, 1), (19, .iconst 0, 1), (20, .istore 4, 2), (22, .iload 4, 2)] = true := by decide +kernel
theorem dX7_kinds_0 : decode cX7_kinds 0 = .ok (.aload_n 0, 1) := dk_0 dd_464
theorem dX7_kinds_1 : decode cX7_kinds 1 = .ok (.iload_n 1, 1) := dk_1 dd_464
theorem dX7_kinds_2 : decode cX7_kinds 2 = .ok (.invokevirtual 158, 3) := dk_2 dd_464
theorem dX7_kinds_5 : decode cX7_kinds 5 = .ok (.ifCond .ne 5, 3) := dk_3 dd_464
theorem dX7_kinds_8 : decode cX7_kinds 8 = .ok (.iconst (-1), 1) := dk_4 dd_464
theorem dX7_kinds_9 : decode cX7_kinds 9 = .ok (.ireturn, 1) := dk_5 dd_464
theorem dX7_kinds_10 : decode cX7_kinds 10 = .ok (.aload_n 0, 1) := dk_6 dd_464
theorem dX7_kinds_11 : decode cX7_kinds 11 = .ok (.getfield 7, 3) := dk_7 dd_464
theorem dX7_kinds_14 : decode cX7_kinds 14 = .ok (.iload_n 1, 1) := dk_8 dd_464
theorem dX7_kinds_15 : decode cX7_kinds 15 = .ok (.iaload, 1) := dk_9 dd_464
theorem dX7_kinds_16 : decode cX7_kinds 16 = .ok (.istore_n 2, 1) := dk_10 dd_464
theorem dX7_kinds_17 : decode cX7_kinds 17 = .ok (.iconst 0, 1) := dk_11 dd_464
theorem dX7_kinds_18 : decode cX7_kinds 18 = .ok (.istore_n 3, 1) := dk_12 dd_464
theorem dX7_kinds_19 : decode cX7_kinds 19 = .ok (.iconst 0, 1) := dk_13 dd_464
theorem dX7_kinds_20 : decode cX7_kinds 20 = .ok (.istore 4, 2) := dk_14 dd_464
theorem dX7_kinds_22 : decode cX7_kinds 22 = .ok (.iload 4, 2) := dk_15 dd_464
theorem dd_465 : fd_G cX7_kinds 24 [(24, .iconst 4, 1), (25, .if_icmp .ge 35, 3), (28, .aload_n 0, 1), (29, .getfield 7, 3), (32, .iload_n 1, 1), (33, .iload 4, 2), (35, .iastore, 1), (36, .iload_n 3, 1), (37, .aload_n 0, 1), (38, .invokevirtual 247, 3), (41, .ifCond .eq 10, 3), (44, .iconst 1, 1), (45, .iload 4, 2), (47, .ishl, 1), (48, .goto 4, 3), (51, .iconst 0, 1)] = true := by decide +kernel
theorem dX7_kinds_24 : decode cX7_kinds 24 = .ok (.iconst 4, 1) := dk_0 dd_465
theorem dX7_kinds_25 : decode cX7_kinds 25 = .ok (.if_icmp .ge 35, 3) := dk_1 dd_465
theorem dX7_kinds_28 : decode cX7_kinds 28 = .ok (.aload_n 0, 1) := dk_2 dd_465
theorem dX7_kinds_29 : decode cX7_kinds 29 = .ok (.getfield 7, 3) := dk_3 dd_465
theorem dX7_kinds_32 : decode cX7_kinds 32 = .ok (.iload_n 1, 1) := dk_4 dd_465
theorem dX7_kinds_33 : decode cX7_kinds 33 = .ok (.iload 4, 2) := dk_5 dd_465
theorem dX7_kinds_35 : decode cX7_kinds 35 = .ok (.iastore, 1) := dk_6 dd_465
theorem dX7_kinds_36 : decode cX7_kinds 36 = .ok (.iload_n 3, 1) := dk_7 dd_465
theorem dX7_kinds_37 : decode cX7_kinds 37 = .ok (.aload_n 0, 1) := dk_8 dd_465
theorem dX7_kinds_38 : decode cX7_kinds 38 = .ok (.invokevirtual 247, 3) := dk_9 dd_465
theorem dX7_kinds_41 : decode cX7_kinds 41 = .ok (.ifCond .eq 10, 3) := dk_10 dd_465
theorem dX7_kinds_44 : decode cX7_kinds 44 = .ok (.iconst 1, 1) := dk_11 dd_465
theorem dX7_kinds_45 : decode cX7_kinds 45 = .ok (.iload 4, 2) := dk_12 dd_465
theorem dX7_kinds_47 : decode cX7_kinds 47 = .ok (.ishl, 1) := dk_13 dd_465
theorem dX7_kinds_48 : decode cX7_kinds 48 = .ok (.goto 4, 3) := dk_14 dd_465
theorem dX7_kinds_51 : decode cX7_kinds 51 = .ok (.iconst 0, 1) := dk_15 dd_465
theorem dd_466 : fd_G cX7_kinds 52 [(52, .ior, 1), (53, .istore_n 3, 1), (54, .iinc 4 1, 3), (57, .goto (-35), 3), (60, .aload_n 0, 1), (61, .getfield 7, 3), (64, .iload_n 1, 1), (65, .iload_n 2, 1), (66, .iastore, 1), (67, .iload_n 3, 1), (68, .ireturn, 1)] = true := by decide +kernel
theorem dX7_kinds_52 : decode cX7_kinds 52 = .ok (.ior, 1) := dk_0 dd_466
theorem dX7_kinds_53 : decode cX7_kinds 53 = .ok (.istore_n 3, 1) := dk_1 dd_466
theorem dX7_kinds_54 : decode cX7_kinds 54 = .ok (.iinc 4 1, 3) := dk_2 dd_466
theorem dX7_kinds_57 : decode cX7_kinds 57 = .ok (.goto (-35), 3) := dk_3 dd_466
theorem dX7_kinds_60 : decode cX7_kinds 60 = .ok (.aload_n 0, 1) := dk_4 dd_466
theorem dX7_kinds_61 : decode cX7_kinds 61 = .ok (.getfield 7, 3) := dk_5 dd_466
theorem dX7_kinds_64 : decode cX7_kinds 64 = .ok (.iload_n 1, 1) := dk_6 dd_466
theorem dX7_kinds_65 : decode cX7_kinds 65 = .ok (.iload_n 2, 1) := dk_7 dd_466
theorem dX7_kinds_66 : decode cX7_kinds 66 = .ok (.iastore, 1) := dk_8 dd_466
theorem dX7_kinds_67 : decode cX7_kinds 67 = .ok (.iload_n 3, 1) := dk_9 dd_466
theorem dX7_kinds_68 : decode cX7_kinds 68 = .ok (.ireturn, 1) := dk_10 dd_466
theorem dd_467 : fd_G cX7_sorrowsOf 0 [(0, .aload_n 0, 1), (1, .getfield 7, 3), (4, .iconst 5, 1), (5, .iload_n 1, 1), (6, .iadd, 1), (7, .iaload, 1), (8, .istore_n 2, 1), (9, .iconst 0, 1), (10, .istore_n 3, 1), (11, .iconst 0, 1), (12, .istore 4, 2), (14, .iload 4, 2), (16, .bipush 20, 2), (18, .if_icmp .gt 51, 3), (21, .aload_n 0, 1), (22, .getfield 7, 3)] = true := by decide +kernel
theorem dX7_sorrowsOf_0 : decode cX7_sorrowsOf 0 = .ok (.aload_n 0, 1) := dk_0 dd_467
theorem dX7_sorrowsOf_1 : decode cX7_sorrowsOf 1 = .ok (.getfield 7, 3) := dk_1 dd_467
theorem dX7_sorrowsOf_4 : decode cX7_sorrowsOf 4 = .ok (.iconst 5, 1) := dk_2 dd_467
theorem dX7_sorrowsOf_5 : decode cX7_sorrowsOf 5 = .ok (.iload_n 1, 1) := dk_3 dd_467
theorem dX7_sorrowsOf_6 : decode cX7_sorrowsOf 6 = .ok (.iadd, 1) := dk_4 dd_467
theorem dX7_sorrowsOf_7 : decode cX7_sorrowsOf 7 = .ok (.iaload, 1) := dk_5 dd_467
theorem dX7_sorrowsOf_8 : decode cX7_sorrowsOf 8 = .ok (.istore_n 2, 1) := dk_6 dd_467
theorem dX7_sorrowsOf_9 : decode cX7_sorrowsOf 9 = .ok (.iconst 0, 1) := dk_7 dd_467
theorem dX7_sorrowsOf_10 : decode cX7_sorrowsOf 10 = .ok (.istore_n 3, 1) := dk_8 dd_467
theorem dX7_sorrowsOf_11 : decode cX7_sorrowsOf 11 = .ok (.iconst 0, 1) := dk_9 dd_467
theorem dX7_sorrowsOf_12 : decode cX7_sorrowsOf 12 = .ok (.istore 4, 2) := dk_10 dd_467
theorem dX7_sorrowsOf_14 : decode cX7_sorrowsOf 14 = .ok (.iload 4, 2) := dk_11 dd_467
theorem dX7_sorrowsOf_16 : decode cX7_sorrowsOf 16 = .ok (.bipush 20, 2) := dk_12 dd_467
theorem dX7_sorrowsOf_18 : decode cX7_sorrowsOf 18 = .ok (.if_icmp .gt 51, 3) := dk_13 dd_467
theorem dX7_sorrowsOf_21 : decode cX7_sorrowsOf 21 = .ok (.aload_n 0, 1) := dk_14 dd_467
theorem dX7_sorrowsOf_22 : decode cX7_sorrowsOf 22 = .ok (.getfield 7, 3) := dk_15 dd_467
theorem dd_468 : fd_G cX7_sorrowsOf 25 [(25, .iconst 5, 1), (26, .iload_n 1, 1), (27, .iadd, 1), (28, .iload 4, 2), (30, .iastore, 1), (31, .iload_n 3, 1), (32, .aload_n 0, 1), (33, .invokevirtual 247, 3), (36, .ifCond .eq 10, 3), (39, .iconst 1, 1), (40, .iload 4, 2), (42, .ishl, 1), (43, .goto 4, 3), (46, .iconst 0, 1), (47, .ior, 1), (48, .istore_n 3, 1)] = true := by decide +kernel
theorem dX7_sorrowsOf_25 : decode cX7_sorrowsOf 25 = .ok (.iconst 5, 1) := dk_0 dd_468
theorem dX7_sorrowsOf_26 : decode cX7_sorrowsOf 26 = .ok (.iload_n 1, 1) := dk_1 dd_468
theorem dX7_sorrowsOf_27 : decode cX7_sorrowsOf 27 = .ok (.iadd, 1) := dk_2 dd_468
theorem dX7_sorrowsOf_28 : decode cX7_sorrowsOf 28 = .ok (.iload 4, 2) := dk_3 dd_468
theorem dX7_sorrowsOf_30 : decode cX7_sorrowsOf 30 = .ok (.iastore, 1) := dk_4 dd_468
theorem dX7_sorrowsOf_31 : decode cX7_sorrowsOf 31 = .ok (.iload_n 3, 1) := dk_5 dd_468
theorem dX7_sorrowsOf_32 : decode cX7_sorrowsOf 32 = .ok (.aload_n 0, 1) := dk_6 dd_468
theorem dX7_sorrowsOf_33 : decode cX7_sorrowsOf 33 = .ok (.invokevirtual 247, 3) := dk_7 dd_468
theorem dX7_sorrowsOf_36 : decode cX7_sorrowsOf 36 = .ok (.ifCond .eq 10, 3) := dk_8 dd_468
theorem dX7_sorrowsOf_39 : decode cX7_sorrowsOf 39 = .ok (.iconst 1, 1) := dk_9 dd_468
theorem dX7_sorrowsOf_40 : decode cX7_sorrowsOf 40 = .ok (.iload 4, 2) := dk_10 dd_468
theorem dX7_sorrowsOf_42 : decode cX7_sorrowsOf 42 = .ok (.ishl, 1) := dk_11 dd_468
theorem dX7_sorrowsOf_43 : decode cX7_sorrowsOf 43 = .ok (.goto 4, 3) := dk_12 dd_468
theorem dX7_sorrowsOf_46 : decode cX7_sorrowsOf 46 = .ok (.iconst 0, 1) := dk_13 dd_468
theorem dX7_sorrowsOf_47 : decode cX7_sorrowsOf 47 = .ok (.ior, 1) := dk_14 dd_468
theorem dX7_sorrowsOf_48 : decode cX7_sorrowsOf 48 = .ok (.istore_n 3, 1) := dk_15 dd_468
theorem dd_469 : fd_G cX7_sorrowsOf 49 [(49, .aload_n 0, 1), (50, .getfield 31, 3), (53, .iload 4, 2), (55, .aload_n 0, 1), (56, .getfield 7, 3), (59, .bipush 127, 2), (61, .iaload, 1), (62, .iastore, 1), (63, .iinc 4 1, 3), (66, .goto (-52), 3), (69, .aload_n 0, 1), (70, .getfield 7, 3), (73, .iconst 5, 1), (74, .iload_n 1, 1), (75, .iadd, 1), (76, .iload_n 2, 1)] = true := by decide +kernel
theorem dX7_sorrowsOf_49 : decode cX7_sorrowsOf 49 = .ok (.aload_n 0, 1) := dk_0 dd_469
theorem dX7_sorrowsOf_50 : decode cX7_sorrowsOf 50 = .ok (.getfield 31, 3) := dk_1 dd_469
theorem dX7_sorrowsOf_53 : decode cX7_sorrowsOf 53 = .ok (.iload 4, 2) := dk_2 dd_469
theorem dX7_sorrowsOf_55 : decode cX7_sorrowsOf 55 = .ok (.aload_n 0, 1) := dk_3 dd_469
theorem dX7_sorrowsOf_56 : decode cX7_sorrowsOf 56 = .ok (.getfield 7, 3) := dk_4 dd_469
theorem dX7_sorrowsOf_59 : decode cX7_sorrowsOf 59 = .ok (.bipush 127, 2) := dk_5 dd_469
theorem dX7_sorrowsOf_61 : decode cX7_sorrowsOf 61 = .ok (.iaload, 1) := dk_6 dd_469
theorem dX7_sorrowsOf_62 : decode cX7_sorrowsOf 62 = .ok (.iastore, 1) := dk_7 dd_469
theorem dX7_sorrowsOf_63 : decode cX7_sorrowsOf 63 = .ok (.iinc 4 1, 3) := dk_8 dd_469
theorem dX7_sorrowsOf_66 : decode cX7_sorrowsOf 66 = .ok (.goto (-52), 3) := dk_9 dd_469
theorem dX7_sorrowsOf_69 : decode cX7_sorrowsOf 69 = .ok (.aload_n 0, 1) := dk_10 dd_469
theorem dX7_sorrowsOf_70 : decode cX7_sorrowsOf 70 = .ok (.getfield 7, 3) := dk_11 dd_469
theorem dX7_sorrowsOf_73 : decode cX7_sorrowsOf 73 = .ok (.iconst 5, 1) := dk_12 dd_469
theorem dX7_sorrowsOf_74 : decode cX7_sorrowsOf 74 = .ok (.iload_n 1, 1) := dk_13 dd_469
theorem dX7_sorrowsOf_75 : decode cX7_sorrowsOf 75 = .ok (.iadd, 1) := dk_14 dd_469
theorem dX7_sorrowsOf_76 : decode cX7_sorrowsOf 76 = .ok (.iload_n 2, 1) := dk_15 dd_469
theorem dd_470 : fd_G cX7_sorrowsOf 77 [(77, .iastore, 1), (78, .iload_n 3, 1), (79, .ireturn, 1)] = true := by decide +kernel
theorem dX7_sorrowsOf_77 : decode cX7_sorrowsOf 77 = .ok (.iastore, 1) := dk_0 dd_470
theorem dX7_sorrowsOf_78 : decode cX7_sorrowsOf 78 = .ok (.iload_n 3, 1) := dk_1 dd_470
theorem dX7_sorrowsOf_79 : decode cX7_sorrowsOf 79 = .ok (.ireturn, 1) := dk_2 dd_470
theorem dd_471 : fd_G cX7_sorrows 0 [(0, .aload_n 0, 1), (1, .iload_n 1, 1), (2, .invokevirtual 158, 3), (5, .ifCond .eq 11, 3), (8, .aload_n 0, 1), (9, .iload_n 1, 1), (10, .invokevirtual 251, 3), (13, .goto 4, 3), (16, .iconst (-1), 1), (17, .ireturn, 1)] = true := by decide +kernel
theorem dX7_sorrows_0 : decode cX7_sorrows 0 = .ok (.aload_n 0, 1) := dk_0 dd_471
theorem dX7_sorrows_1 : decode cX7_sorrows 1 = .ok (.iload_n 1, 1) := dk_1 dd_471
theorem dX7_sorrows_2 : decode cX7_sorrows 2 = .ok (.invokevirtual 158, 3) := dk_2 dd_471
theorem dX7_sorrows_5 : decode cX7_sorrows 5 = .ok (.ifCond .eq 11, 3) := dk_3 dd_471
theorem dX7_sorrows_8 : decode cX7_sorrows 8 = .ok (.aload_n 0, 1) := dk_4 dd_471
theorem dX7_sorrows_9 : decode cX7_sorrows 9 = .ok (.iload_n 1, 1) := dk_5 dd_471
theorem dX7_sorrows_10 : decode cX7_sorrows 10 = .ok (.invokevirtual 251, 3) := dk_6 dd_471
theorem dX7_sorrows_13 : decode cX7_sorrows 13 = .ok (.goto 4, 3) := dk_7 dd_471
theorem dX7_sorrows_16 : decode cX7_sorrows 16 = .ok (.iconst (-1), 1) := dk_8 dd_471
theorem dX7_sorrows_17 : decode cX7_sorrows 17 = .ok (.ireturn, 1) := dk_9 dd_471
theorem dd_472 : fd_G cX7_ask 0 [(0, .aload_n 0, 1), (1, .iload_n 1, 1), (2, .invokevirtual 158, 3), (5, .ifCond .eq 13, 3), (8, .iload_n 2, 1), (9, .i2l, 1), (10, .lconst 0, 1), (11, .lconst 1, 1), (12, .invokestatic 49, 3), (15, .ifCond .ne 5, 3), (18, .iconst (-1), 1), (19, .ireturn, 1), (20, .aload_n 0, 1), (21, .iload_n 1, 1), (22, .invokevirtual 251, 3), (25, .istore_n 3, 1)] = true := by decide +kernel
theorem dX7_ask_0 : decode cX7_ask 0 = .ok (.aload_n 0, 1) := dk_0 dd_472
theorem dX7_ask_1 : decode cX7_ask 1 = .ok (.iload_n 1, 1) := dk_1 dd_472
theorem dX7_ask_2 : decode cX7_ask 2 = .ok (.invokevirtual 158, 3) := dk_2 dd_472
theorem dX7_ask_5 : decode cX7_ask 5 = .ok (.ifCond .eq 13, 3) := dk_3 dd_472
theorem dX7_ask_8 : decode cX7_ask 8 = .ok (.iload_n 2, 1) := dk_4 dd_472
theorem dX7_ask_9 : decode cX7_ask 9 = .ok (.i2l, 1) := dk_5 dd_472
theorem dX7_ask_10 : decode cX7_ask 10 = .ok (.lconst 0, 1) := dk_6 dd_472
theorem dX7_ask_11 : decode cX7_ask 11 = .ok (.lconst 1, 1) := dk_7 dd_472
theorem dX7_ask_12 : decode cX7_ask 12 = .ok (.invokestatic 49, 3) := dk_8 dd_472
theorem dX7_ask_15 : decode cX7_ask 15 = .ok (.ifCond .ne 5, 3) := dk_9 dd_472
theorem dX7_ask_18 : decode cX7_ask 18 = .ok (.iconst (-1), 1) := dk_10 dd_472
theorem dX7_ask_19 : decode cX7_ask 19 = .ok (.ireturn, 1) := dk_11 dd_472
theorem dX7_ask_20 : decode cX7_ask 20 = .ok (.aload_n 0, 1) := dk_12 dd_472
theorem dX7_ask_21 : decode cX7_ask 21 = .ok (.iload_n 1, 1) := dk_13 dd_472
theorem dX7_ask_22 : decode cX7_ask 22 = .ok (.invokevirtual 251, 3) := dk_14 dd_472
theorem dX7_ask_25 : decode cX7_ask 25 = .ok (.istore_n 3, 1) := dk_15 dd_472
theorem dd_473 : fd_G cX7_ask 26 [(26, .iload_n 3, 1), (27, .invokestatic 193, 3), (30, .istore 4, 2), (32, .iload 4, 2), (34, .istore 5, 2), (36, .bipush (-4), 2), (38, .istore 6, 2), (40, .iconst 0, 1), (41, .istore 7, 2), (43, .iload 7, 2), (45, .aload_n 0, 1), (46, .getfield 125, 3), (49, .if_icmp .ge 113, 3), (52, .iconst 0, 1), (53, .istore 8, 2), (55, .iconst 0, 1)] = true := by decide +kernel
theorem dX7_ask_26 : decode cX7_ask 26 = .ok (.iload_n 3, 1) := dk_0 dd_473
theorem dX7_ask_27 : decode cX7_ask 27 = .ok (.invokestatic 193, 3) := dk_1 dd_473
theorem dX7_ask_30 : decode cX7_ask 30 = .ok (.istore 4, 2) := dk_2 dd_473
theorem dX7_ask_32 : decode cX7_ask 32 = .ok (.iload 4, 2) := dk_3 dd_473
theorem dX7_ask_34 : decode cX7_ask 34 = .ok (.istore 5, 2) := dk_4 dd_473
theorem dX7_ask_36 : decode cX7_ask 36 = .ok (.bipush (-4), 2) := dk_5 dd_473
theorem dX7_ask_38 : decode cX7_ask 38 = .ok (.istore 6, 2) := dk_6 dd_473
theorem dX7_ask_40 : decode cX7_ask 40 = .ok (.iconst 0, 1) := dk_7 dd_473
theorem dX7_ask_41 : decode cX7_ask 41 = .ok (.istore 7, 2) := dk_8 dd_473
theorem dX7_ask_43 : decode cX7_ask 43 = .ok (.iload 7, 2) := dk_9 dd_473
theorem dX7_ask_45 : decode cX7_ask 45 = .ok (.aload_n 0, 1) := dk_10 dd_473
theorem dX7_ask_46 : decode cX7_ask 46 = .ok (.getfield 125, 3) := dk_11 dd_473
theorem dX7_ask_49 : decode cX7_ask 49 = .ok (.if_icmp .ge 113, 3) := dk_12 dd_473
theorem dX7_ask_52 : decode cX7_ask 52 = .ok (.iconst 0, 1) := dk_13 dd_473
theorem dX7_ask_53 : decode cX7_ask 53 = .ok (.istore 8, 2) := dk_14 dd_473
theorem dX7_ask_55 : decode cX7_ask 55 = .ok (.iconst 0, 1) := dk_15 dd_473
theorem dd_474 : fd_G cX7_ask 56 [(56, .istore 9, 2), (58, .iload 9, 2), (60, .bipush 20, 2), (62, .if_icmp .gt 40, 3), (65, .iload 8, 2), (67, .iload_n 3, 1), (68, .iload 9, 2), (70, .ishr, 1), (71, .iconst 1, 1), (72, .iand, 1), (73, .iconst 1, 1), (74, .if_icmp .ne 18, 3), (77, .aload_n 0, 1), (78, .getfield 31, 3), (81, .iload 9, 2), (83, .iaload, 1)] = true := by decide +kernel
theorem dX7_ask_56 : decode cX7_ask 56 = .ok (.istore 9, 2) := dk_0 dd_474
theorem dX7_ask_58 : decode cX7_ask 58 = .ok (.iload 9, 2) := dk_1 dd_474
theorem dX7_ask_60 : decode cX7_ask 60 = .ok (.bipush 20, 2) := dk_2 dd_474
theorem dX7_ask_62 : decode cX7_ask 62 = .ok (.if_icmp .gt 40, 3) := dk_3 dd_474
theorem dX7_ask_65 : decode cX7_ask 65 = .ok (.iload 8, 2) := dk_4 dd_474
theorem dX7_ask_67 : decode cX7_ask 67 = .ok (.iload_n 3, 1) := dk_5 dd_474
theorem dX7_ask_68 : decode cX7_ask 68 = .ok (.iload 9, 2) := dk_6 dd_474
theorem dX7_ask_70 : decode cX7_ask 70 = .ok (.ishr, 1) := dk_7 dd_474
theorem dX7_ask_71 : decode cX7_ask 71 = .ok (.iconst 1, 1) := dk_8 dd_474
theorem dX7_ask_72 : decode cX7_ask 72 = .ok (.iand, 1) := dk_9 dd_474
theorem dX7_ask_73 : decode cX7_ask 73 = .ok (.iconst 1, 1) := dk_10 dd_474
theorem dX7_ask_74 : decode cX7_ask 74 = .ok (.if_icmp .ne 18, 3) := dk_11 dd_474
theorem dX7_ask_77 : decode cX7_ask 77 = .ok (.aload_n 0, 1) := dk_12 dd_474
theorem dX7_ask_78 : decode cX7_ask 78 = .ok (.getfield 31, 3) := dk_13 dd_474
theorem dX7_ask_81 : decode cX7_ask 81 = .ok (.iload 9, 2) := dk_14 dd_474
theorem dX7_ask_83 : decode cX7_ask 83 = .ok (.iaload, 1) := dk_15 dd_474
theorem dd_475 : fd_G cX7_ask 84 [(84, .iload 7, 2), (86, .ishr, 1), (87, .iconst 1, 1), (88, .iand, 1), (89, .goto 4, 3), (92, .iconst 0, 1), (93, .iadd, 1), (94, .istore 8, 2), (96, .iinc 9 1, 3), (99, .goto (-41), 3), (102, .iload 8, 2), (104, .iload 4, 2), (106, .iload 8, 2), (108, .isub, 1), (109, .if_icmp .le 8, 3), (112, .iload 8, 2)] = true := by decide +kernel
theorem dX7_ask_84 : decode cX7_ask 84 = .ok (.iload 7, 2) := dk_0 dd_475
theorem dX7_ask_86 : decode cX7_ask 86 = .ok (.ishr, 1) := dk_1 dd_475
theorem dX7_ask_87 : decode cX7_ask 87 = .ok (.iconst 1, 1) := dk_2 dd_475
theorem dX7_ask_88 : decode cX7_ask 88 = .ok (.iand, 1) := dk_3 dd_475
theorem dX7_ask_89 : decode cX7_ask 89 = .ok (.goto 4, 3) := dk_4 dd_475
theorem dX7_ask_92 : decode cX7_ask 92 = .ok (.iconst 0, 1) := dk_5 dd_475
theorem dX7_ask_93 : decode cX7_ask 93 = .ok (.iadd, 1) := dk_6 dd_475
theorem dX7_ask_94 : decode cX7_ask 94 = .ok (.istore 8, 2) := dk_7 dd_475
theorem dX7_ask_96 : decode cX7_ask 96 = .ok (.iinc 9 1, 3) := dk_8 dd_475
theorem dX7_ask_99 : decode cX7_ask 99 = .ok (.goto (-41), 3) := dk_9 dd_475
theorem dX7_ask_102 : decode cX7_ask 102 = .ok (.iload 8, 2) := dk_10 dd_475
theorem dX7_ask_104 : decode cX7_ask 104 = .ok (.iload 4, 2) := dk_11 dd_475
theorem dX7_ask_106 : decode cX7_ask 106 = .ok (.iload 8, 2) := dk_12 dd_475
theorem dX7_ask_108 : decode cX7_ask 108 = .ok (.isub, 1) := dk_13 dd_475
theorem dX7_ask_109 : decode cX7_ask 109 = .ok (.if_icmp .le 8, 3) := dk_14 dd_475
theorem dX7_ask_112 : decode cX7_ask 112 = .ok (.iload 8, 2) := dk_15 dd_475
theorem dd_476 : fd_G cX7_ask 114 [(114, .goto 8, 3), (117, .iload 4, 2), (119, .iload 8, 2), (121, .isub, 1), (122, .istore 9, 2), (124, .iload 9, 2), (126, .iload 5, 2), (128, .if_icmp .ge 8, 3), (131, .iload 7, 2), (133, .goto 5, 3), (136, .iload 6, 2), (138, .istore 6, 2), (140, .iload 9, 2), (142, .iload 5, 2), (144, .if_icmp .ge 8, 3), (147, .iload 9, 2)] = true := by decide +kernel
theorem dX7_ask_114 : decode cX7_ask 114 = .ok (.goto 8, 3) := dk_0 dd_476
theorem dX7_ask_117 : decode cX7_ask 117 = .ok (.iload 4, 2) := dk_1 dd_476
theorem dX7_ask_119 : decode cX7_ask 119 = .ok (.iload 8, 2) := dk_2 dd_476
theorem dX7_ask_121 : decode cX7_ask 121 = .ok (.isub, 1) := dk_3 dd_476
theorem dX7_ask_122 : decode cX7_ask 122 = .ok (.istore 9, 2) := dk_4 dd_476
theorem dX7_ask_124 : decode cX7_ask 124 = .ok (.iload 9, 2) := dk_5 dd_476
theorem dX7_ask_126 : decode cX7_ask 126 = .ok (.iload 5, 2) := dk_6 dd_476
theorem dX7_ask_128 : decode cX7_ask 128 = .ok (.if_icmp .ge 8, 3) := dk_7 dd_476
theorem dX7_ask_131 : decode cX7_ask 131 = .ok (.iload 7, 2) := dk_8 dd_476
theorem dX7_ask_133 : decode cX7_ask 133 = .ok (.goto 5, 3) := dk_9 dd_476
theorem dX7_ask_136 : decode cX7_ask 136 = .ok (.iload 6, 2) := dk_10 dd_476
theorem dX7_ask_138 : decode cX7_ask 138 = .ok (.istore 6, 2) := dk_11 dd_476
theorem dX7_ask_140 : decode cX7_ask 140 = .ok (.iload 9, 2) := dk_12 dd_476
theorem dX7_ask_142 : decode cX7_ask 142 = .ok (.iload 5, 2) := dk_13 dd_476
theorem dX7_ask_144 : decode cX7_ask 144 = .ok (.if_icmp .ge 8, 3) := dk_14 dd_476
theorem dX7_ask_147 : decode cX7_ask 147 = .ok (.iload 9, 2) := dk_15 dd_476
theorem dd_477 : fd_G cX7_ask 149 [(149, .goto 5, 3), (152, .iload 5, 2), (154, .istore 5, 2), (156, .iinc 7 1, 3), (159, .goto (-116), 3), (162, .iload 6, 2), (164, .bipush (-4), 2), (166, .if_icmp .eq 7, 3), (169, .iload_n 2, 1), (170, .ifCond .ne 8, 3), (173, .iload 6, 2), (175, .goto 5, 3), (178, .iload 5, 2), (180, .ireturn, 1)] = true := by decide +kernel
theorem dX7_ask_149 : decode cX7_ask 149 = .ok (.goto 5, 3) := dk_0 dd_477
theorem dX7_ask_152 : decode cX7_ask 152 = .ok (.iload 5, 2) := dk_1 dd_477
theorem dX7_ask_154 : decode cX7_ask 154 = .ok (.istore 5, 2) := dk_2 dd_477
theorem dX7_ask_156 : decode cX7_ask 156 = .ok (.iinc 7 1, 3) := dk_3 dd_477
theorem dX7_ask_159 : decode cX7_ask 159 = .ok (.goto (-116), 3) := dk_4 dd_477
theorem dX7_ask_162 : decode cX7_ask 162 = .ok (.iload 6, 2) := dk_5 dd_477
theorem dX7_ask_164 : decode cX7_ask 164 = .ok (.bipush (-4), 2) := dk_6 dd_477
theorem dX7_ask_166 : decode cX7_ask 166 = .ok (.if_icmp .eq 7, 3) := dk_7 dd_477
theorem dX7_ask_169 : decode cX7_ask 169 = .ok (.iload_n 2, 1) := dk_8 dd_477
theorem dX7_ask_170 : decode cX7_ask 170 = .ok (.ifCond .ne 8, 3) := dk_9 dd_477
theorem dX7_ask_173 : decode cX7_ask 173 = .ok (.iload 6, 2) := dk_10 dd_477
theorem dX7_ask_175 : decode cX7_ask 175 = .ok (.goto 5, 3) := dk_11 dd_477
theorem dX7_ask_178 : decode cX7_ask 178 = .ok (.iload 5, 2) := dk_12 dd_477
theorem dX7_ask_180 : decode cX7_ask 180 = .ok (.ireturn, 1) := dk_13 dd_477
theorem dd_478 : fd_G cX7_drift 0 [(0, .iload_n 2, 1), (1, .i2l, 1), (2, .lconst 1, 1), (3, .ldc2_w 185, 3), (6, .invokestatic 49, 3), (9, .ifCond .eq 13, 3), (12, .iload_n 3, 1), (13, .i2l, 1), (14, .lconst 0, 1), (15, .lconst 1, 1), (16, .invokestatic 49, 3), (19, .ifCond .ne 5, 3), (22, .iconst (-1), 1), (23, .ireturn, 1), (24, .aload_n 0, 1), (25, .getfield 125, 3)] = true := by decide +kernel
theorem dX7_drift_0 : decode cX7_drift 0 = .ok (.iload_n 2, 1) := dk_0 dd_478
theorem dX7_drift_1 : decode cX7_drift 1 = .ok (.i2l, 1) := dk_1 dd_478
theorem dX7_drift_2 : decode cX7_drift 2 = .ok (.lconst 1, 1) := dk_2 dd_478
theorem dX7_drift_3 : decode cX7_drift 3 = .ok (.ldc2_w 185, 3) := dk_3 dd_478
theorem dX7_drift_6 : decode cX7_drift 6 = .ok (.invokestatic 49, 3) := dk_4 dd_478
theorem dX7_drift_9 : decode cX7_drift 9 = .ok (.ifCond .eq 13, 3) := dk_5 dd_478
theorem dX7_drift_12 : decode cX7_drift 12 = .ok (.iload_n 3, 1) := dk_6 dd_478
theorem dX7_drift_13 : decode cX7_drift 13 = .ok (.i2l, 1) := dk_7 dd_478
theorem dX7_drift_14 : decode cX7_drift 14 = .ok (.lconst 0, 1) := dk_8 dd_478
theorem dX7_drift_15 : decode cX7_drift 15 = .ok (.lconst 1, 1) := dk_9 dd_478
theorem dX7_drift_16 : decode cX7_drift 16 = .ok (.invokestatic 49, 3) := dk_10 dd_478
theorem dX7_drift_19 : decode cX7_drift 19 = .ok (.ifCond .ne 5, 3) := dk_11 dd_478
theorem dX7_drift_22 : decode cX7_drift 22 = .ok (.iconst (-1), 1) := dk_12 dd_478
theorem dX7_drift_23 : decode cX7_drift 23 = .ok (.ireturn, 1) := dk_13 dd_478
theorem dX7_drift_24 : decode cX7_drift 24 = .ok (.aload_n 0, 1) := dk_14 dd_478
theorem dX7_drift_25 : decode cX7_drift 25 = .ok (.getfield 125, 3) := dk_15 dd_478
theorem dd_479 : fd_G cX7_drift 28 [(28, .ifCond .ne 6, 3), (31, .bipush (-2), 2), (33, .ireturn, 1), (34, .aload_n 0, 1), (35, .iconst 0, 1), (36, .invokevirtual 208, 3), (39, .iload_n 1, 1), (40, .istore 4, 2), (42, .iconst 0, 1), (43, .istore 5, 2), (45, .iload 5, 2), (47, .iload_n 2, 1), (48, .if_icmp .ge 58, 3), (51, .iload 4, 2), (53, .ldc 254, 2), (55, .imul, 1)] = true := by decide +kernel
theorem dX7_drift_28 : decode cX7_drift 28 = .ok (.ifCond .ne 6, 3) := dk_0 dd_479
theorem dX7_drift_31 : decode cX7_drift 31 = .ok (.bipush (-2), 2) := dk_1 dd_479
theorem dX7_drift_33 : decode cX7_drift 33 = .ok (.ireturn, 1) := dk_2 dd_479
theorem dX7_drift_34 : decode cX7_drift 34 = .ok (.aload_n 0, 1) := dk_3 dd_479
theorem dX7_drift_35 : decode cX7_drift 35 = .ok (.iconst 0, 1) := dk_4 dd_479
theorem dX7_drift_36 : decode cX7_drift 36 = .ok (.invokevirtual 208, 3) := dk_5 dd_479
theorem dX7_drift_39 : decode cX7_drift 39 = .ok (.iload_n 1, 1) := dk_6 dd_479
theorem dX7_drift_40 : decode cX7_drift 40 = .ok (.istore 4, 2) := dk_7 dd_479
theorem dX7_drift_42 : decode cX7_drift 42 = .ok (.iconst 0, 1) := dk_8 dd_479
theorem dX7_drift_43 : decode cX7_drift 43 = .ok (.istore 5, 2) := dk_9 dd_479
theorem dX7_drift_45 : decode cX7_drift 45 = .ok (.iload 5, 2) := dk_10 dd_479
theorem dX7_drift_47 : decode cX7_drift 47 = .ok (.iload_n 2, 1) := dk_11 dd_479
theorem dX7_drift_48 : decode cX7_drift 48 = .ok (.if_icmp .ge 58, 3) := dk_12 dd_479
theorem dX7_drift_51 : decode cX7_drift 51 = .ok (.iload 4, 2) := dk_13 dd_479
theorem dX7_drift_53 : decode cX7_drift 53 = .ok (.ldc 254, 2) := dk_14 dd_479
theorem dX7_drift_55 : decode cX7_drift 55 = .ok (.imul, 1) := dk_15 dd_479
theorem dX7_drift_77 : decode cX7_drift 77 = .ok (.irem, 1) := by decide +kernel
theorem dd_480 : fd_G cX7_drift 56 [(56, .sipush 12345, 3), (59, .iadd, 1), (60, .istore 4, 2), (62, .iload 4, 2), (64, .bipush 16, 2), (66, .ishr, 1), (67, .sipush 32767, 3), (70, .iand, 1), (71, .aload_n 0, 1), (72, .getfield 125, 3), (75, .iconst 1, 1), (76, .iadd, 1), (78, .istore 6, 2), (80, .aload_n 0, 1), (81, .iload 6, 2), (83, .aload_n 0, 1)] = true := by decide +kernel
theorem dX7_drift_56 : decode cX7_drift 56 = .ok (.sipush 12345, 3) := dk_0 dd_480
theorem dX7_drift_59 : decode cX7_drift 59 = .ok (.iadd, 1) := dk_1 dd_480
theorem dX7_drift_60 : decode cX7_drift 60 = .ok (.istore 4, 2) := dk_2 dd_480
theorem dX7_drift_62 : decode cX7_drift 62 = .ok (.iload 4, 2) := dk_3 dd_480
theorem dX7_drift_64 : decode cX7_drift 64 = .ok (.bipush 16, 2) := dk_4 dd_480
theorem dX7_drift_66 : decode cX7_drift 66 = .ok (.ishr, 1) := dk_5 dd_480
theorem dX7_drift_67 : decode cX7_drift 67 = .ok (.sipush 32767, 3) := dk_6 dd_480
theorem dX7_drift_70 : decode cX7_drift 70 = .ok (.iand, 1) := dk_7 dd_480
theorem dX7_drift_71 : decode cX7_drift 71 = .ok (.aload_n 0, 1) := dk_8 dd_480
theorem dX7_drift_72 : decode cX7_drift 72 = .ok (.getfield 125, 3) := dk_9 dd_480
theorem dX7_drift_75 : decode cX7_drift 75 = .ok (.iconst 1, 1) := dk_10 dd_480
theorem dX7_drift_76 : decode cX7_drift 76 = .ok (.iadd, 1) := dk_11 dd_480
theorem dX7_drift_78 : decode cX7_drift 78 = .ok (.istore 6, 2) := dk_12 dd_480
theorem dX7_drift_80 : decode cX7_drift 80 = .ok (.aload_n 0, 1) := dk_13 dd_480
theorem dX7_drift_81 : decode cX7_drift 81 = .ok (.iload 6, 2) := dk_14 dd_480
theorem dX7_drift_83 : decode cX7_drift 83 = .ok (.aload_n 0, 1) := dk_15 dd_480
theorem dd_481 : fd_G cX7_drift 84 [(84, .getfield 125, 3), (87, .if_icmp .ne 7, 3), (90, .iconst 5, 1), (91, .goto 5, 3), (94, .iload 6, 2), (96, .invokevirtual 211, 3), (99, .pop, 1), (100, .iinc 5 1, 3), (103, .goto (-58), 3), (106, .iload_n 3, 1), (107, .ifCond .ne 10, 3), (110, .aload_n 0, 1), (111, .getfield 202, 3), (114, .goto 10, 3), (117, .aload_n 0, 1), (118, .bipush 112, 2)] = true := by decide +kernel
theorem dX7_drift_84 : decode cX7_drift 84 = .ok (.getfield 125, 3) := dk_0 dd_481
theorem dX7_drift_87 : decode cX7_drift 87 = .ok (.if_icmp .ne 7, 3) := dk_1 dd_481
theorem dX7_drift_90 : decode cX7_drift 90 = .ok (.iconst 5, 1) := dk_2 dd_481
theorem dX7_drift_91 : decode cX7_drift 91 = .ok (.goto 5, 3) := dk_3 dd_481
theorem dX7_drift_94 : decode cX7_drift 94 = .ok (.iload 6, 2) := dk_4 dd_481
theorem dX7_drift_96 : decode cX7_drift 96 = .ok (.invokevirtual 211, 3) := dk_5 dd_481
theorem dX7_drift_99 : decode cX7_drift 99 = .ok (.pop, 1) := dk_6 dd_481
theorem dX7_drift_100 : decode cX7_drift 100 = .ok (.iinc 5 1, 3) := dk_7 dd_481
theorem dX7_drift_103 : decode cX7_drift 103 = .ok (.goto (-58), 3) := dk_8 dd_481
theorem dX7_drift_106 : decode cX7_drift 106 = .ok (.iload_n 3, 1) := dk_9 dd_481
theorem dX7_drift_107 : decode cX7_drift 107 = .ok (.ifCond .ne 10, 3) := dk_10 dd_481
theorem dX7_drift_110 : decode cX7_drift 110 = .ok (.aload_n 0, 1) := dk_11 dd_481
theorem dX7_drift_111 : decode cX7_drift 111 = .ok (.getfield 202, 3) := dk_12 dd_481
theorem dX7_drift_114 : decode cX7_drift 114 = .ok (.goto 10, 3) := dk_13 dd_481
theorem dX7_drift_117 : decode cX7_drift 117 = .ok (.aload_n 0, 1) := dk_14 dd_481
theorem dX7_drift_118 : decode cX7_drift 118 = .ok (.bipush 112, 2) := dk_15 dd_481
theorem dd_482 : fd_G cX7_drift 120 [(120, .iconst 0, 1), (121, .invokevirtual 149, 3), (124, .ireturn, 1)] = true := by decide +kernel
theorem dX7_drift_120 : decode cX7_drift 120 = .ok (.iconst 0, 1) := dk_0 dd_482
theorem dX7_drift_121 : decode cX7_drift 121 = .ok (.invokevirtual 149, 3) := dk_1 dd_482
theorem dX7_drift_124 : decode cX7_drift 124 = .ok (.ireturn, 1) := dk_2 dd_482
theorem dd_483 : fd_G cX7_keep 0 [(0, .iload_n 1, 1), (1, .i2l, 1), (2, .lconst 0, 1), (3, .lconst 1, 1), (4, .invokestatic 49, 3), (7, .ifCond .ne 5, 3), (10, .iconst (-1), 1), (11, .ireturn, 1), (12, .aload_n 0, 1), (13, .iconst 0, 1), (14, .bipush 28, 2), (16, .iload_n 1, 1), (17, .iconst 1, 1), (18, .iadd, 1), (19, .imul, 1), (20, .invokevirtual 196, 3)] = true := by decide +kernel
theorem dX7_keep_0 : decode cX7_keep 0 = .ok (.iload_n 1, 1) := dk_0 dd_483
theorem dX7_keep_1 : decode cX7_keep 1 = .ok (.i2l, 1) := dk_1 dd_483
theorem dX7_keep_2 : decode cX7_keep 2 = .ok (.lconst 0, 1) := dk_2 dd_483
theorem dX7_keep_3 : decode cX7_keep 3 = .ok (.lconst 1, 1) := dk_3 dd_483
theorem dX7_keep_4 : decode cX7_keep 4 = .ok (.invokestatic 49, 3) := dk_4 dd_483
theorem dX7_keep_7 : decode cX7_keep 7 = .ok (.ifCond .ne 5, 3) := dk_5 dd_483
theorem dX7_keep_10 : decode cX7_keep 10 = .ok (.iconst (-1), 1) := dk_6 dd_483
theorem dX7_keep_11 : decode cX7_keep 11 = .ok (.ireturn, 1) := dk_7 dd_483
theorem dX7_keep_12 : decode cX7_keep 12 = .ok (.aload_n 0, 1) := dk_8 dd_483
theorem dX7_keep_13 : decode cX7_keep 13 = .ok (.iconst 0, 1) := dk_9 dd_483
theorem dX7_keep_14 : decode cX7_keep 14 = .ok (.bipush 28, 2) := dk_10 dd_483
theorem dX7_keep_16 : decode cX7_keep 16 = .ok (.iload_n 1, 1) := dk_11 dd_483
theorem dX7_keep_17 : decode cX7_keep 17 = .ok (.iconst 1, 1) := dk_12 dd_483
theorem dX7_keep_18 : decode cX7_keep 18 = .ok (.iadd, 1) := dk_13 dd_483
theorem dX7_keep_19 : decode cX7_keep 19 = .ok (.imul, 1) := dk_14 dd_483
theorem dX7_keep_20 : decode cX7_keep 20 = .ok (.invokevirtual 196, 3) := dk_15 dd_483
theorem dX7_keep_44 : decode cX7_keep 44 = .ok (.bastore, 1) := by decide +kernel
theorem dd_484 : fd_G cX7_keep 23 [(23, .aload_n 0, 1), (24, .getfield 34, 3), (27, .iload_n 1, 1), (28, .baload, 1), (29, .ifCond .eq 7, 3), (32, .iconst 1, 1), (33, .goto 4, 3), (36, .iconst 0, 1), (37, .istore_n 2, 1), (38, .aload_n 0, 1), (39, .getfield 34, 3), (42, .iload_n 1, 1), (43, .iconst 1, 1), (45, .iload_n 2, 1), (46, .ireturn, 1)] = true := by decide +kernel
theorem dX7_keep_23 : decode cX7_keep 23 = .ok (.aload_n 0, 1) := dk_0 dd_484
theorem dX7_keep_24 : decode cX7_keep 24 = .ok (.getfield 34, 3) := dk_1 dd_484
theorem dX7_keep_27 : decode cX7_keep 27 = .ok (.iload_n 1, 1) := dk_2 dd_484
theorem dX7_keep_28 : decode cX7_keep 28 = .ok (.baload, 1) := dk_3 dd_484
theorem dX7_keep_29 : decode cX7_keep 29 = .ok (.ifCond .eq 7, 3) := dk_4 dd_484
theorem dX7_keep_32 : decode cX7_keep 32 = .ok (.iconst 1, 1) := dk_5 dd_484
theorem dX7_keep_33 : decode cX7_keep 33 = .ok (.goto 4, 3) := dk_6 dd_484
theorem dX7_keep_36 : decode cX7_keep 36 = .ok (.iconst 0, 1) := dk_7 dd_484
theorem dX7_keep_37 : decode cX7_keep 37 = .ok (.istore_n 2, 1) := dk_8 dd_484
theorem dX7_keep_38 : decode cX7_keep 38 = .ok (.aload_n 0, 1) := dk_9 dd_484
theorem dX7_keep_39 : decode cX7_keep 39 = .ok (.getfield 34, 3) := dk_10 dd_484
theorem dX7_keep_42 : decode cX7_keep 42 = .ok (.iload_n 1, 1) := dk_11 dd_484
theorem dX7_keep_43 : decode cX7_keep 43 = .ok (.iconst 1, 1) := dk_12 dd_484
theorem dX7_keep_45 : decode cX7_keep 45 = .ok (.iload_n 2, 1) := dk_13 dd_484
theorem dX7_keep_46 : decode cX7_keep 46 = .ok (.ireturn, 1) := dk_14 dd_484
theorem dd_485 : fd_G cX7_back 0 [(0, .iload_n 1, 1), (1, .i2l, 1), (2, .lconst 0, 1), (3, .lconst 1, 1), (4, .invokestatic 49, 3), (7, .ifCond .ne 5, 3), (10, .iconst (-1), 1), (11, .ireturn, 1), (12, .aload_n 0, 1), (13, .getfield 34, 3), (16, .iload_n 1, 1), (17, .baload, 1), (18, .ifCond .ne 6, 3), (21, .bipush (-2), 2), (23, .ireturn, 1), (24, .aload_n 0, 1)] = true := by decide +kernel
theorem dX7_back_0 : decode cX7_back 0 = .ok (.iload_n 1, 1) := dk_0 dd_485
theorem dX7_back_1 : decode cX7_back 1 = .ok (.i2l, 1) := dk_1 dd_485
theorem dX7_back_2 : decode cX7_back 2 = .ok (.lconst 0, 1) := dk_2 dd_485
theorem dX7_back_3 : decode cX7_back 3 = .ok (.lconst 1, 1) := dk_3 dd_485
theorem dX7_back_4 : decode cX7_back 4 = .ok (.invokestatic 49, 3) := dk_4 dd_485
theorem dX7_back_7 : decode cX7_back 7 = .ok (.ifCond .ne 5, 3) := dk_5 dd_485
theorem dX7_back_10 : decode cX7_back 10 = .ok (.iconst (-1), 1) := dk_6 dd_485
theorem dX7_back_11 : decode cX7_back 11 = .ok (.ireturn, 1) := dk_7 dd_485
theorem dX7_back_12 : decode cX7_back 12 = .ok (.aload_n 0, 1) := dk_8 dd_485
theorem dX7_back_13 : decode cX7_back 13 = .ok (.getfield 34, 3) := dk_9 dd_485
theorem dX7_back_16 : decode cX7_back 16 = .ok (.iload_n 1, 1) := dk_10 dd_485
theorem dX7_back_17 : decode cX7_back 17 = .ok (.baload, 1) := dk_11 dd_485
theorem dX7_back_18 : decode cX7_back 18 = .ok (.ifCond .ne 6, 3) := dk_12 dd_485
theorem dX7_back_21 : decode cX7_back 21 = .ok (.bipush (-2), 2) := dk_13 dd_485
theorem dX7_back_23 : decode cX7_back 23 = .ok (.ireturn, 1) := dk_14 dd_485
theorem dX7_back_24 : decode cX7_back 24 = .ok (.aload_n 0, 1) := dk_15 dd_485
theorem dd_486 : fd_G cX7_back 25 [(25, .bipush 28, 2), (27, .iload_n 1, 1), (28, .iconst 1, 1), (29, .iadd, 1), (30, .imul, 1), (31, .iconst 0, 1), (32, .invokevirtual 196, 3), (35, .aload_n 0, 1), (36, .getfield 7, 3), (39, .bipush 16, 2), (41, .iaload, 1), (42, .ireturn, 1)] = true := by decide +kernel
theorem dX7_back_25 : decode cX7_back 25 = .ok (.bipush 28, 2) := dk_0 dd_486
theorem dX7_back_27 : decode cX7_back 27 = .ok (.iload_n 1, 1) := dk_1 dd_486
theorem dX7_back_28 : decode cX7_back 28 = .ok (.iconst 1, 1) := dk_2 dd_486
theorem dX7_back_29 : decode cX7_back 29 = .ok (.iadd, 1) := dk_3 dd_486
theorem dX7_back_30 : decode cX7_back 30 = .ok (.imul, 1) := dk_4 dd_486
theorem dX7_back_31 : decode cX7_back 31 = .ok (.iconst 0, 1) := dk_5 dd_486
theorem dX7_back_32 : decode cX7_back 32 = .ok (.invokevirtual 196, 3) := dk_6 dd_486
theorem dX7_back_35 : decode cX7_back 35 = .ok (.aload_n 0, 1) := dk_7 dd_486
theorem dX7_back_36 : decode cX7_back 36 = .ok (.getfield 7, 3) := dk_8 dd_486
theorem dX7_back_39 : decode cX7_back 39 = .ok (.bipush 16, 2) := dk_9 dd_486
theorem dX7_back_41 : decode cX7_back 41 = .ok (.iaload, 1) := dk_10 dd_486
theorem dX7_back_42 : decode cX7_back 42 = .ok (.ireturn, 1) := dk_11 dd_486
theorem dd_487 : fd_G cX7_sheet 0 [(0, .iload_n 1, 1), (1, .i2l, 1), (2, .lconst 0, 1), (3, .ldc2_w 167, 3), (6, .invokestatic 49, 3), (9, .ifCond .eq 21, 3), (12, .iload_n 2, 1), (13, .i2l, 1), (14, .lconst 0, 1), (15, .ldc2_w 255, 3), (18, .invokestatic 49, 3), (21, .ifCond .eq 9, 3), (24, .iload_n 3, 1), (25, .bipush 40, 2), (27, .if_icmp .le 5, 3), (30, .iconst (-1), 1)] = true := by decide +kernel
theorem dX7_sheet_0 : decode cX7_sheet 0 = .ok (.iload_n 1, 1) := dk_0 dd_487
theorem dX7_sheet_1 : decode cX7_sheet 1 = .ok (.i2l, 1) := dk_1 dd_487
theorem dX7_sheet_2 : decode cX7_sheet 2 = .ok (.lconst 0, 1) := dk_2 dd_487
theorem dX7_sheet_3 : decode cX7_sheet 3 = .ok (.ldc2_w 167, 3) := dk_3 dd_487
theorem dX7_sheet_6 : decode cX7_sheet 6 = .ok (.invokestatic 49, 3) := dk_4 dd_487
theorem dX7_sheet_9 : decode cX7_sheet 9 = .ok (.ifCond .eq 21, 3) := dk_5 dd_487
theorem dX7_sheet_12 : decode cX7_sheet 12 = .ok (.iload_n 2, 1) := dk_6 dd_487
theorem dX7_sheet_13 : decode cX7_sheet 13 = .ok (.i2l, 1) := dk_7 dd_487
theorem dX7_sheet_14 : decode cX7_sheet 14 = .ok (.lconst 0, 1) := dk_8 dd_487
theorem dX7_sheet_15 : decode cX7_sheet 15 = .ok (.ldc2_w 255, 3) := dk_9 dd_487
theorem dX7_sheet_18 : decode cX7_sheet 18 = .ok (.invokestatic 49, 3) := dk_10 dd_487
theorem dX7_sheet_21 : decode cX7_sheet 21 = .ok (.ifCond .eq 9, 3) := dk_11 dd_487
theorem dX7_sheet_24 : decode cX7_sheet 24 = .ok (.iload_n 3, 1) := dk_12 dd_487
theorem dX7_sheet_25 : decode cX7_sheet 25 = .ok (.bipush 40, 2) := dk_13 dd_487
theorem dX7_sheet_27 : decode cX7_sheet 27 = .ok (.if_icmp .le 5, 3) := dk_14 dd_487
theorem dX7_sheet_30 : decode cX7_sheet 30 = .ok (.iconst (-1), 1) := dk_15 dd_487
theorem dX7_sheet_33 : decode cX7_sheet 33 = .ok (.ifCond .ge 6, 3) := by decide +kernel
theorem dd_488 : fd_G cX7_sheet 31 [(31, .ireturn, 1), (32, .iload_n 3, 1), (36, .bipush (-14), 2), (38, .ireturn, 1), (39, .aload_n 0, 1), (40, .getfield 38, 3), (43, .iload_n 1, 1), (44, .iload_n 2, 1), (45, .iastore, 1), (46, .aload_n 0, 1), (47, .getfield 41, 3), (50, .iload_n 1, 1), (51, .iload_n 3, 1), (52, .iastore, 1), (53, .iconst 0, 1), (54, .istore 4, 2)] = true := by decide +kernel
theorem dX7_sheet_31 : decode cX7_sheet 31 = .ok (.ireturn, 1) := dk_0 dd_488
theorem dX7_sheet_32 : decode cX7_sheet 32 = .ok (.iload_n 3, 1) := dk_1 dd_488
theorem dX7_sheet_36 : decode cX7_sheet 36 = .ok (.bipush (-14), 2) := dk_2 dd_488
theorem dX7_sheet_38 : decode cX7_sheet 38 = .ok (.ireturn, 1) := dk_3 dd_488
theorem dX7_sheet_39 : decode cX7_sheet 39 = .ok (.aload_n 0, 1) := dk_4 dd_488
theorem dX7_sheet_40 : decode cX7_sheet 40 = .ok (.getfield 38, 3) := dk_5 dd_488
theorem dX7_sheet_43 : decode cX7_sheet 43 = .ok (.iload_n 1, 1) := dk_6 dd_488
theorem dX7_sheet_44 : decode cX7_sheet 44 = .ok (.iload_n 2, 1) := dk_7 dd_488
theorem dX7_sheet_45 : decode cX7_sheet 45 = .ok (.iastore, 1) := dk_8 dd_488
theorem dX7_sheet_46 : decode cX7_sheet 46 = .ok (.aload_n 0, 1) := dk_9 dd_488
theorem dX7_sheet_47 : decode cX7_sheet 47 = .ok (.getfield 41, 3) := dk_10 dd_488
theorem dX7_sheet_50 : decode cX7_sheet 50 = .ok (.iload_n 1, 1) := dk_11 dd_488
theorem dX7_sheet_51 : decode cX7_sheet 51 = .ok (.iload_n 3, 1) := dk_12 dd_488
theorem dX7_sheet_52 : decode cX7_sheet 52 = .ok (.iastore, 1) := dk_13 dd_488
theorem dX7_sheet_53 : decode cX7_sheet 53 = .ok (.iconst 0, 1) := dk_14 dd_488
theorem dX7_sheet_54 : decode cX7_sheet 54 = .ok (.istore 4, 2) := dk_15 dd_488
theorem dd_489 : fd_G cX7_sheet 56 [(56, .iload 4, 2), (58, .bipush 40, 2), (60, .if_icmp .ge 22, 3), (63, .aload_n 0, 1), (64, .getfield 44, 3), (67, .bipush 40, 2), (69, .iload_n 1, 1), (70, .imul, 1), (71, .iload 4, 2), (73, .iadd, 1), (74, .iconst 0, 1), (75, .iastore, 1), (76, .iinc 4 1, 3), (79, .goto (-23), 3), (82, .iconst 1, 1), (83, .ireturn, 1)] = true := by decide +kernel
theorem dX7_sheet_56 : decode cX7_sheet 56 = .ok (.iload 4, 2) := dk_0 dd_489
theorem dX7_sheet_58 : decode cX7_sheet 58 = .ok (.bipush 40, 2) := dk_1 dd_489
theorem dX7_sheet_60 : decode cX7_sheet 60 = .ok (.if_icmp .ge 22, 3) := dk_2 dd_489
theorem dX7_sheet_63 : decode cX7_sheet 63 = .ok (.aload_n 0, 1) := dk_3 dd_489
theorem dX7_sheet_64 : decode cX7_sheet 64 = .ok (.getfield 44, 3) := dk_4 dd_489
theorem dX7_sheet_67 : decode cX7_sheet 67 = .ok (.bipush 40, 2) := dk_5 dd_489
theorem dX7_sheet_69 : decode cX7_sheet 69 = .ok (.iload_n 1, 1) := dk_6 dd_489
theorem dX7_sheet_70 : decode cX7_sheet 70 = .ok (.imul, 1) := dk_7 dd_489
theorem dX7_sheet_71 : decode cX7_sheet 71 = .ok (.iload 4, 2) := dk_8 dd_489
theorem dX7_sheet_73 : decode cX7_sheet 73 = .ok (.iadd, 1) := dk_9 dd_489
theorem dX7_sheet_74 : decode cX7_sheet 74 = .ok (.iconst 0, 1) := dk_10 dd_489
theorem dX7_sheet_75 : decode cX7_sheet 75 = .ok (.iastore, 1) := dk_11 dd_489
theorem dX7_sheet_76 : decode cX7_sheet 76 = .ok (.iinc 4 1, 3) := dk_12 dd_489
theorem dX7_sheet_79 : decode cX7_sheet 79 = .ok (.goto (-23), 3) := dk_13 dd_489
theorem dX7_sheet_82 : decode cX7_sheet 82 = .ok (.iconst 1, 1) := dk_14 dd_489
theorem dX7_sheet_83 : decode cX7_sheet 83 = .ok (.ireturn, 1) := dk_15 dd_489
theorem dd_490 : fd_G cX7_lay 0 [(0, .iload_n 1, 1), (1, .i2l, 1), (2, .lconst 0, 1), (3, .ldc2_w 167, 3), (6, .invokestatic 49, 3), (9, .ifCond .ne 5, 3), (12, .iconst (-1), 1), (13, .ireturn, 1), (14, .aload_n 0, 1), (15, .getfield 38, 3), (18, .iload_n 1, 1), (19, .iaload, 1), (20, .bipush (-4), 2), (22, .if_icmp .ne 6, 3), (25, .bipush (-11), 2), (27, .ireturn, 1)] = true := by decide +kernel
theorem dX7_lay_0 : decode cX7_lay 0 = .ok (.iload_n 1, 1) := dk_0 dd_490
theorem dX7_lay_1 : decode cX7_lay 1 = .ok (.i2l, 1) := dk_1 dd_490
theorem dX7_lay_2 : decode cX7_lay 2 = .ok (.lconst 0, 1) := dk_2 dd_490
theorem dX7_lay_3 : decode cX7_lay 3 = .ok (.ldc2_w 167, 3) := dk_3 dd_490
theorem dX7_lay_6 : decode cX7_lay 6 = .ok (.invokestatic 49, 3) := dk_4 dd_490
theorem dX7_lay_9 : decode cX7_lay 9 = .ok (.ifCond .ne 5, 3) := dk_5 dd_490
theorem dX7_lay_12 : decode cX7_lay 12 = .ok (.iconst (-1), 1) := dk_6 dd_490
theorem dX7_lay_13 : decode cX7_lay 13 = .ok (.ireturn, 1) := dk_7 dd_490
theorem dX7_lay_14 : decode cX7_lay 14 = .ok (.aload_n 0, 1) := dk_8 dd_490
theorem dX7_lay_15 : decode cX7_lay 15 = .ok (.getfield 38, 3) := dk_9 dd_490
theorem dX7_lay_18 : decode cX7_lay 18 = .ok (.iload_n 1, 1) := dk_10 dd_490
theorem dX7_lay_19 : decode cX7_lay 19 = .ok (.iaload, 1) := dk_11 dd_490
theorem dX7_lay_20 : decode cX7_lay 20 = .ok (.bipush (-4), 2) := dk_12 dd_490
theorem dX7_lay_22 : decode cX7_lay 22 = .ok (.if_icmp .ne 6, 3) := dk_13 dd_490
theorem dX7_lay_25 : decode cX7_lay 25 = .ok (.bipush (-11), 2) := dk_14 dd_490
theorem dX7_lay_27 : decode cX7_lay 27 = .ok (.ireturn, 1) := dk_15 dd_490
theorem dd_491 : fd_G cX7_lay 28 [(28, .iload_n 2, 1), (29, .i2l, 1), (30, .lconst 0, 1), (31, .aload_n 0, 1), (32, .getfield 41, 3), (35, .iload_n 1, 1), (36, .iaload, 1), (37, .iconst 1, 1), (38, .isub, 1), (39, .i2l, 1), (40, .invokestatic 49, 3), (43, .ifCond .ne 6, 3), (46, .bipush (-12), 2), (48, .ireturn, 1), (49, .aload_n 0, 1), (50, .getfield 44, 3)] = true := by decide +kernel
theorem dX7_lay_28 : decode cX7_lay 28 = .ok (.iload_n 2, 1) := dk_0 dd_491
theorem dX7_lay_29 : decode cX7_lay 29 = .ok (.i2l, 1) := dk_1 dd_491
theorem dX7_lay_30 : decode cX7_lay 30 = .ok (.lconst 0, 1) := dk_2 dd_491
theorem dX7_lay_31 : decode cX7_lay 31 = .ok (.aload_n 0, 1) := dk_3 dd_491
theorem dX7_lay_32 : decode cX7_lay 32 = .ok (.getfield 41, 3) := dk_4 dd_491
theorem dX7_lay_35 : decode cX7_lay 35 = .ok (.iload_n 1, 1) := dk_5 dd_491
theorem dX7_lay_36 : decode cX7_lay 36 = .ok (.iaload, 1) := dk_6 dd_491
theorem dX7_lay_37 : decode cX7_lay 37 = .ok (.iconst 1, 1) := dk_7 dd_491
theorem dX7_lay_38 : decode cX7_lay 38 = .ok (.isub, 1) := dk_8 dd_491
theorem dX7_lay_39 : decode cX7_lay 39 = .ok (.i2l, 1) := dk_9 dd_491
theorem dX7_lay_40 : decode cX7_lay 40 = .ok (.invokestatic 49, 3) := dk_10 dd_491
theorem dX7_lay_43 : decode cX7_lay 43 = .ok (.ifCond .ne 6, 3) := dk_11 dd_491
theorem dX7_lay_46 : decode cX7_lay 46 = .ok (.bipush (-12), 2) := dk_12 dd_491
theorem dX7_lay_48 : decode cX7_lay 48 = .ok (.ireturn, 1) := dk_13 dd_491
theorem dX7_lay_49 : decode cX7_lay 49 = .ok (.aload_n 0, 1) := dk_14 dd_491
theorem dX7_lay_50 : decode cX7_lay 50 = .ok (.getfield 44, 3) := dk_15 dd_491
theorem dd_492 : fd_G cX7_lay 53 [(53, .bipush 40, 2), (55, .iload_n 1, 1), (56, .imul, 1), (57, .iload_n 2, 1), (58, .iadd, 1), (59, .aload_n 0, 1), (60, .getfield 38, 3), (63, .iload_n 1, 1), (64, .iaload, 1), (65, .ifCond .ne 13, 3), (68, .iload_n 3, 1), (69, .bipush 24, 2), (71, .ishl, 1), (72, .bipush 24, 2), (74, .ishr, 1), (75, .goto 24, 3)] = true := by decide +kernel
theorem dX7_lay_53 : decode cX7_lay 53 = .ok (.bipush 40, 2) := dk_0 dd_492
theorem dX7_lay_55 : decode cX7_lay 55 = .ok (.iload_n 1, 1) := dk_1 dd_492
theorem dX7_lay_56 : decode cX7_lay 56 = .ok (.imul, 1) := dk_2 dd_492
theorem dX7_lay_57 : decode cX7_lay 57 = .ok (.iload_n 2, 1) := dk_3 dd_492
theorem dX7_lay_58 : decode cX7_lay 58 = .ok (.iadd, 1) := dk_4 dd_492
theorem dX7_lay_59 : decode cX7_lay 59 = .ok (.aload_n 0, 1) := dk_5 dd_492
theorem dX7_lay_60 : decode cX7_lay 60 = .ok (.getfield 38, 3) := dk_6 dd_492
theorem dX7_lay_63 : decode cX7_lay 63 = .ok (.iload_n 1, 1) := dk_7 dd_492
theorem dX7_lay_64 : decode cX7_lay 64 = .ok (.iaload, 1) := dk_8 dd_492
theorem dX7_lay_65 : decode cX7_lay 65 = .ok (.ifCond .ne 13, 3) := dk_9 dd_492
theorem dX7_lay_68 : decode cX7_lay 68 = .ok (.iload_n 3, 1) := dk_10 dd_492
theorem dX7_lay_69 : decode cX7_lay 69 = .ok (.bipush 24, 2) := dk_11 dd_492
theorem dX7_lay_71 : decode cX7_lay 71 = .ok (.ishl, 1) := dk_12 dd_492
theorem dX7_lay_72 : decode cX7_lay 72 = .ok (.bipush 24, 2) := dk_13 dd_492
theorem dX7_lay_74 : decode cX7_lay 74 = .ok (.ishr, 1) := dk_14 dd_492
theorem dX7_lay_75 : decode cX7_lay 75 = .ok (.goto 24, 3) := dk_15 dd_492
theorem dd_493 : fd_G cX7_lay 78 [(78, .aload_n 0, 1), (79, .getfield 38, 3), (82, .iload_n 1, 1), (83, .iaload, 1), (84, .iconst 1, 1), (85, .if_icmp .ne 13, 3), (88, .iload_n 3, 1), (89, .bipush 16, 2), (91, .ishl, 1), (92, .bipush 16, 2), (94, .ishr, 1), (95, .goto 4, 3), (98, .iload_n 3, 1), (99, .iastore, 1), (100, .iconst 1, 1), (101, .ireturn, 1)] = true := by decide +kernel
theorem dX7_lay_78 : decode cX7_lay 78 = .ok (.aload_n 0, 1) := dk_0 dd_493
theorem dX7_lay_79 : decode cX7_lay 79 = .ok (.getfield 38, 3) := dk_1 dd_493
theorem dX7_lay_82 : decode cX7_lay 82 = .ok (.iload_n 1, 1) := dk_2 dd_493
theorem dX7_lay_83 : decode cX7_lay 83 = .ok (.iaload, 1) := dk_3 dd_493
theorem dX7_lay_84 : decode cX7_lay 84 = .ok (.iconst 1, 1) := dk_4 dd_493
theorem dX7_lay_85 : decode cX7_lay 85 = .ok (.if_icmp .ne 13, 3) := dk_5 dd_493
theorem dX7_lay_88 : decode cX7_lay 88 = .ok (.iload_n 3, 1) := dk_6 dd_493
theorem dX7_lay_89 : decode cX7_lay 89 = .ok (.bipush 16, 2) := dk_7 dd_493
theorem dX7_lay_91 : decode cX7_lay 91 = .ok (.ishl, 1) := dk_8 dd_493
theorem dX7_lay_92 : decode cX7_lay 92 = .ok (.bipush 16, 2) := dk_9 dd_493
theorem dX7_lay_94 : decode cX7_lay 94 = .ok (.ishr, 1) := dk_10 dd_493
theorem dX7_lay_95 : decode cX7_lay 95 = .ok (.goto 4, 3) := dk_11 dd_493
theorem dX7_lay_98 : decode cX7_lay 98 = .ok (.iload_n 3, 1) := dk_12 dd_493
theorem dX7_lay_99 : decode cX7_lay 99 = .ok (.iastore, 1) := dk_13 dd_493
theorem dX7_lay_100 : decode cX7_lay 100 = .ok (.iconst 1, 1) := dk_14 dd_493
theorem dX7_lay_101 : decode cX7_lay 101 = .ok (.ireturn, 1) := dk_15 dd_493
theorem dd_494 : fd_G cX7_does 0 [(0, .aload_n 0, 1), (1, .iload_n 1, 1), (2, .invokevirtual 179, 3), (5, .ifCond .eq 17, 3), (8, .iload_n 1, 1), (9, .iconst 5, 1), (10, .if_icmp .ge 14, 3), (13, .aload_n 0, 1), (14, .iconst 0, 1), (15, .iload_n 1, 1), (16, .invokevirtual 131, 3), (19, .ifCond .ne 5, 3), (22, .iconst 0, 1), (23, .ireturn, 1), (24, .iload_n 1, 1), (25, .iconst 5, 1)] = true := by decide +kernel
theorem dX7_does_0 : decode cX7_does 0 = .ok (.aload_n 0, 1) := dk_0 dd_494
theorem dX7_does_1 : decode cX7_does 1 = .ok (.iload_n 1, 1) := dk_1 dd_494
theorem dX7_does_2 : decode cX7_does 2 = .ok (.invokevirtual 179, 3) := dk_2 dd_494
theorem dX7_does_5 : decode cX7_does 5 = .ok (.ifCond .eq 17, 3) := dk_3 dd_494
theorem dX7_does_8 : decode cX7_does 8 = .ok (.iload_n 1, 1) := dk_4 dd_494
theorem dX7_does_9 : decode cX7_does 9 = .ok (.iconst 5, 1) := dk_5 dd_494
theorem dX7_does_10 : decode cX7_does 10 = .ok (.if_icmp .ge 14, 3) := dk_6 dd_494
theorem dX7_does_13 : decode cX7_does 13 = .ok (.aload_n 0, 1) := dk_7 dd_494
theorem dX7_does_14 : decode cX7_does 14 = .ok (.iconst 0, 1) := dk_8 dd_494
theorem dX7_does_15 : decode cX7_does 15 = .ok (.iload_n 1, 1) := dk_9 dd_494
theorem dX7_does_16 : decode cX7_does 16 = .ok (.invokevirtual 131, 3) := dk_10 dd_494
theorem dX7_does_19 : decode cX7_does 19 = .ok (.ifCond .ne 5, 3) := dk_11 dd_494
theorem dX7_does_22 : decode cX7_does 22 = .ok (.iconst 0, 1) := dk_12 dd_494
theorem dX7_does_23 : decode cX7_does 23 = .ok (.ireturn, 1) := dk_13 dd_494
theorem dX7_does_24 : decode cX7_does 24 = .ok (.iload_n 1, 1) := dk_14 dd_494
theorem dX7_does_25 : decode cX7_does 25 = .ok (.iconst 5, 1) := dk_15 dd_494
theorem dd_495 : fd_G cX7_does 26 [(26, .if_icmp .ne 11, 3), (29, .aload_n 0, 1), (30, .iconst 0, 1), (31, .invokevirtual 187, 3), (34, .goto 25, 3), (37, .iload_n 1, 1), (38, .bipush 6, 2), (40, .if_icmp .ne 12, 3), (43, .aload_n 0, 1), (44, .iconst 0, 1), (45, .invokevirtual 190, 3), (48, .pop, 1), (49, .goto 10, 3), (52, .aload_n 0, 1), (53, .iconst 0, 1), (54, .iload_n 1, 1)] = true := by decide +kernel
theorem dX7_does_26 : decode cX7_does 26 = .ok (.if_icmp .ne 11, 3) := dk_0 dd_495
theorem dX7_does_29 : decode cX7_does 29 = .ok (.aload_n 0, 1) := dk_1 dd_495
theorem dX7_does_30 : decode cX7_does 30 = .ok (.iconst 0, 1) := dk_2 dd_495
theorem dX7_does_31 : decode cX7_does 31 = .ok (.invokevirtual 187, 3) := dk_3 dd_495
theorem dX7_does_34 : decode cX7_does 34 = .ok (.goto 25, 3) := dk_4 dd_495
theorem dX7_does_37 : decode cX7_does 37 = .ok (.iload_n 1, 1) := dk_5 dd_495
theorem dX7_does_38 : decode cX7_does 38 = .ok (.bipush 6, 2) := dk_6 dd_495
theorem dX7_does_40 : decode cX7_does 40 = .ok (.if_icmp .ne 12, 3) := dk_7 dd_495
theorem dX7_does_43 : decode cX7_does 43 = .ok (.aload_n 0, 1) := dk_8 dd_495
theorem dX7_does_44 : decode cX7_does 44 = .ok (.iconst 0, 1) := dk_9 dd_495
theorem dX7_does_45 : decode cX7_does 45 = .ok (.invokevirtual 190, 3) := dk_10 dd_495
theorem dX7_does_48 : decode cX7_does 48 = .ok (.pop, 1) := dk_11 dd_495
theorem dX7_does_49 : decode cX7_does 49 = .ok (.goto 10, 3) := dk_12 dd_495
theorem dX7_does_52 : decode cX7_does 52 = .ok (.aload_n 0, 1) := dk_13 dd_495
theorem dX7_does_53 : decode cX7_does 53 = .ok (.iconst 0, 1) := dk_14 dd_495
theorem dX7_does_54 : decode cX7_does 54 = .ok (.iload_n 1, 1) := dk_15 dd_495
theorem dd_496 : fd_G cX7_does 55 [(55, .invokevirtual 182, 3), (58, .pop, 1), (59, .iconst 1, 1), (60, .ireturn, 1)] = true := by decide +kernel
theorem dX7_does_55 : decode cX7_does 55 = .ok (.invokevirtual 182, 3) := dk_0 dd_496
theorem dX7_does_58 : decode cX7_does 58 = .ok (.pop, 1) := dk_1 dd_496
theorem dX7_does_59 : decode cX7_does 59 = .ok (.iconst 1, 1) := dk_2 dd_496
theorem dX7_does_60 : decode cX7_does 60 = .ok (.ireturn, 1) := dk_3 dd_496
theorem dd_497 : fd_G cX7_read 0 [(0, .iload_n 1, 1), (1, .i2l, 1), (2, .lconst 0, 1), (3, .ldc2_w 167, 3), (6, .invokestatic 49, 3), (9, .ifCond .eq 28, 3), (12, .iload_n 2, 1), (13, .i2l, 1), (14, .lconst 0, 1), (15, .ldc2_w 255, 3), (18, .invokestatic 49, 3), (21, .ifCond .eq 16, 3), (24, .iload 4, 2), (26, .i2l, 1), (27, .lconst 0, 1), (28, .ldc2_w 257, 3)] = true := by decide +kernel
theorem dX7_read_0 : decode cX7_read 0 = .ok (.iload_n 1, 1) := dk_0 dd_497
theorem dX7_read_1 : decode cX7_read 1 = .ok (.i2l, 1) := dk_1 dd_497
theorem dX7_read_2 : decode cX7_read 2 = .ok (.lconst 0, 1) := dk_2 dd_497
theorem dX7_read_3 : decode cX7_read 3 = .ok (.ldc2_w 167, 3) := dk_3 dd_497
theorem dX7_read_6 : decode cX7_read 6 = .ok (.invokestatic 49, 3) := dk_4 dd_497
theorem dX7_read_9 : decode cX7_read 9 = .ok (.ifCond .eq 28, 3) := dk_5 dd_497
theorem dX7_read_12 : decode cX7_read 12 = .ok (.iload_n 2, 1) := dk_6 dd_497
theorem dX7_read_13 : decode cX7_read 13 = .ok (.i2l, 1) := dk_7 dd_497
theorem dX7_read_14 : decode cX7_read 14 = .ok (.lconst 0, 1) := dk_8 dd_497
theorem dX7_read_15 : decode cX7_read 15 = .ok (.ldc2_w 255, 3) := dk_9 dd_497
theorem dX7_read_18 : decode cX7_read 18 = .ok (.invokestatic 49, 3) := dk_10 dd_497
theorem dX7_read_21 : decode cX7_read 21 = .ok (.ifCond .eq 16, 3) := dk_11 dd_497
theorem dX7_read_24 : decode cX7_read 24 = .ok (.iload 4, 2) := dk_12 dd_497
theorem dX7_read_26 : decode cX7_read 26 = .ok (.i2l, 1) := dk_13 dd_497
theorem dX7_read_27 : decode cX7_read 27 = .ok (.lconst 0, 1) := dk_14 dd_497
theorem dX7_read_28 : decode cX7_read 28 = .ok (.ldc2_w 257, 3) := dk_15 dd_497
theorem dd_498 : fd_G cX7_read 31 [(31, .invokestatic 49, 3), (34, .ifCond .ne 5, 3), (37, .iconst (-1), 1), (38, .ireturn, 1), (39, .aload_n 0, 1), (40, .iconst 0, 1), (41, .bipush 84, 2), (43, .invokevirtual 196, 3), (46, .iconst 0, 1), (47, .istore 5, 2), (49, .iconst 0, 1), (50, .istore 6, 2), (52, .iconst 0, 1), (53, .istore 7, 2), (55, .iload 7, 2), (57, .iload 4, 2)] = true := by decide +kernel
theorem dX7_read_31 : decode cX7_read 31 = .ok (.invokestatic 49, 3) := dk_0 dd_498
theorem dX7_read_34 : decode cX7_read 34 = .ok (.ifCond .ne 5, 3) := dk_1 dd_498
theorem dX7_read_37 : decode cX7_read 37 = .ok (.iconst (-1), 1) := dk_2 dd_498
theorem dX7_read_38 : decode cX7_read 38 = .ok (.ireturn, 1) := dk_3 dd_498
theorem dX7_read_39 : decode cX7_read 39 = .ok (.aload_n 0, 1) := dk_4 dd_498
theorem dX7_read_40 : decode cX7_read 40 = .ok (.iconst 0, 1) := dk_5 dd_498
theorem dX7_read_41 : decode cX7_read 41 = .ok (.bipush 84, 2) := dk_6 dd_498
theorem dX7_read_43 : decode cX7_read 43 = .ok (.invokevirtual 196, 3) := dk_7 dd_498
theorem dX7_read_46 : decode cX7_read 46 = .ok (.iconst 0, 1) := dk_8 dd_498
theorem dX7_read_47 : decode cX7_read 47 = .ok (.istore 5, 2) := dk_9 dd_498
theorem dX7_read_49 : decode cX7_read 49 = .ok (.iconst 0, 1) := dk_10 dd_498
theorem dX7_read_50 : decode cX7_read 50 = .ok (.istore 6, 2) := dk_11 dd_498
theorem dX7_read_52 : decode cX7_read 52 = .ok (.iconst 0, 1) := dk_12 dd_498
theorem dX7_read_53 : decode cX7_read 53 = .ok (.istore 7, 2) := dk_13 dd_498
theorem dX7_read_55 : decode cX7_read 55 = .ok (.iload 7, 2) := dk_14 dd_498
theorem dX7_read_57 : decode cX7_read 57 = .ok (.iload 4, 2) := dk_15 dd_498
theorem dd_499 : fd_G cX7_read 59 [(59, .if_icmp .ge 114, 3), (62, .iload 5, 2), (64, .ifCond .ne 109, 3), (67, .aload_n 0, 1), (68, .getfield 38, 3), (71, .iload_n 1, 1), (72, .iaload, 1), (73, .bipush (-4), 2), (75, .if_icmp .ne 7, 3), (78, .iconst 1, 1), (79, .goto 44, 3), (82, .aload_n 0, 1), (83, .getfield 38, 3), (86, .iload_n 1, 1), (87, .iaload, 1), (88, .iload_n 2, 1)] = true := by decide +kernel
theorem dX7_read_59 : decode cX7_read 59 = .ok (.if_icmp .ge 114, 3) := dk_0 dd_499
theorem dX7_read_62 : decode cX7_read 62 = .ok (.iload 5, 2) := dk_1 dd_499
theorem dX7_read_64 : decode cX7_read 64 = .ok (.ifCond .ne 109, 3) := dk_2 dd_499
theorem dX7_read_67 : decode cX7_read 67 = .ok (.aload_n 0, 1) := dk_3 dd_499
theorem dX7_read_68 : decode cX7_read 68 = .ok (.getfield 38, 3) := dk_4 dd_499
theorem dX7_read_71 : decode cX7_read 71 = .ok (.iload_n 1, 1) := dk_5 dd_499
theorem dX7_read_72 : decode cX7_read 72 = .ok (.iaload, 1) := dk_6 dd_499
theorem dX7_read_73 : decode cX7_read 73 = .ok (.bipush (-4), 2) := dk_7 dd_499
theorem dX7_read_75 : decode cX7_read 75 = .ok (.if_icmp .ne 7, 3) := dk_8 dd_499
theorem dX7_read_78 : decode cX7_read 78 = .ok (.iconst 1, 1) := dk_9 dd_499
theorem dX7_read_79 : decode cX7_read 79 = .ok (.goto 44, 3) := dk_10 dd_499
theorem dX7_read_82 : decode cX7_read 82 = .ok (.aload_n 0, 1) := dk_11 dd_499
theorem dX7_read_83 : decode cX7_read 83 = .ok (.getfield 38, 3) := dk_12 dd_499
theorem dX7_read_86 : decode cX7_read 86 = .ok (.iload_n 1, 1) := dk_13 dd_499
theorem dX7_read_87 : decode cX7_read 87 = .ok (.iaload, 1) := dk_14 dd_499
theorem dX7_read_88 : decode cX7_read 88 = .ok (.iload_n 2, 1) := dk_15 dd_499
theorem dX7_read_101 : decode cX7_read 101 = .ok (.ladd, 1) := by decide +kernel
theorem dd_500 : fd_G cX7_read 89 [(89, .if_icmp .eq 7, 3), (92, .iconst 3, 1), (93, .goto 30, 3), (96, .iload_n 3, 1), (97, .i2l, 1), (98, .iload 7, 2), (100, .i2l, 1), (102, .lconst 0, 1), (103, .aload_n 0, 1), (104, .getfield 41, 3), (107, .iload_n 1, 1), (108, .iaload, 1), (109, .iconst 1, 1), (110, .isub, 1), (111, .i2l, 1), (112, .invokestatic 49, 3)] = true := by decide +kernel
theorem dX7_read_89 : decode cX7_read 89 = .ok (.if_icmp .eq 7, 3) := dk_0 dd_500
theorem dX7_read_92 : decode cX7_read 92 = .ok (.iconst 3, 1) := dk_1 dd_500
theorem dX7_read_93 : decode cX7_read 93 = .ok (.goto 30, 3) := dk_2 dd_500
theorem dX7_read_96 : decode cX7_read 96 = .ok (.iload_n 3, 1) := dk_3 dd_500
theorem dX7_read_97 : decode cX7_read 97 = .ok (.i2l, 1) := dk_4 dd_500
theorem dX7_read_98 : decode cX7_read 98 = .ok (.iload 7, 2) := dk_5 dd_500
theorem dX7_read_100 : decode cX7_read 100 = .ok (.i2l, 1) := dk_6 dd_500
theorem dX7_read_102 : decode cX7_read 102 = .ok (.lconst 0, 1) := dk_7 dd_500
theorem dX7_read_103 : decode cX7_read 103 = .ok (.aload_n 0, 1) := dk_8 dd_500
theorem dX7_read_104 : decode cX7_read 104 = .ok (.getfield 41, 3) := dk_9 dd_500
theorem dX7_read_107 : decode cX7_read 107 = .ok (.iload_n 1, 1) := dk_10 dd_500
theorem dX7_read_108 : decode cX7_read 108 = .ok (.iaload, 1) := dk_11 dd_500
theorem dX7_read_109 : decode cX7_read 109 = .ok (.iconst 1, 1) := dk_12 dd_500
theorem dX7_read_110 : decode cX7_read 110 = .ok (.isub, 1) := dk_13 dd_500
theorem dX7_read_111 : decode cX7_read 111 = .ok (.i2l, 1) := dk_14 dd_500
theorem dX7_read_112 : decode cX7_read 112 = .ok (.invokestatic 49, 3) := dk_15 dd_500
theorem dd_501 : fd_G cX7_read 115 [(115, .ifCond .ne 7, 3), (118, .iconst 2, 1), (119, .goto 4, 3), (122, .iconst 0, 1), (123, .istore 5, 2), (125, .iload 5, 2), (127, .ifCond .ne 40, 3), (130, .aload_n 0, 1), (131, .aload_n 0, 1), (132, .getfield 44, 3), (135, .bipush 40, 2), (137, .iload_n 1, 1), (138, .imul, 1), (139, .iload_n 3, 1), (140, .iadd, 1), (141, .iload 7, 2)] = true := by decide +kernel
theorem dX7_read_115 : decode cX7_read 115 = .ok (.ifCond .ne 7, 3) := dk_0 dd_501
theorem dX7_read_118 : decode cX7_read 118 = .ok (.iconst 2, 1) := dk_1 dd_501
theorem dX7_read_119 : decode cX7_read 119 = .ok (.goto 4, 3) := dk_2 dd_501
theorem dX7_read_122 : decode cX7_read 122 = .ok (.iconst 0, 1) := dk_3 dd_501
theorem dX7_read_123 : decode cX7_read 123 = .ok (.istore 5, 2) := dk_4 dd_501
theorem dX7_read_125 : decode cX7_read 125 = .ok (.iload 5, 2) := dk_5 dd_501
theorem dX7_read_127 : decode cX7_read 127 = .ok (.ifCond .ne 40, 3) := dk_6 dd_501
theorem dX7_read_130 : decode cX7_read 130 = .ok (.aload_n 0, 1) := dk_7 dd_501
theorem dX7_read_131 : decode cX7_read 131 = .ok (.aload_n 0, 1) := dk_8 dd_501
theorem dX7_read_132 : decode cX7_read 132 = .ok (.getfield 44, 3) := dk_9 dd_501
theorem dX7_read_135 : decode cX7_read 135 = .ok (.bipush 40, 2) := dk_10 dd_501
theorem dX7_read_137 : decode cX7_read 137 = .ok (.iload_n 1, 1) := dk_11 dd_501
theorem dX7_read_138 : decode cX7_read 138 = .ok (.imul, 1) := dk_12 dd_501
theorem dX7_read_139 : decode cX7_read 139 = .ok (.iload_n 3, 1) := dk_13 dd_501
theorem dX7_read_140 : decode cX7_read 140 = .ok (.iadd, 1) := dk_14 dd_501
theorem dX7_read_141 : decode cX7_read 141 = .ok (.iload 7, 2) := dk_15 dd_501
theorem dd_502 : fd_G cX7_read 143 [(143, .iadd, 1), (144, .iaload, 1), (145, .invokevirtual 259, 3), (148, .ifCond .ne 16, 3), (151, .aload_n 0, 1), (152, .bipush 84, 2), (154, .iconst 0, 1), (155, .invokevirtual 196, 3), (158, .bipush (-20), 2), (160, .iload 6, 2), (162, .isub, 1), (163, .ireturn, 1), (164, .iinc 6 1, 3), (167, .iinc 7 1, 3), (170, .goto (-115), 3), (173, .aload_n 0, 1)] = true := by decide +kernel
theorem dX7_read_143 : decode cX7_read 143 = .ok (.iadd, 1) := dk_0 dd_502
theorem dX7_read_144 : decode cX7_read 144 = .ok (.iaload, 1) := dk_1 dd_502
theorem dX7_read_145 : decode cX7_read 145 = .ok (.invokevirtual 259, 3) := dk_2 dd_502
theorem dX7_read_148 : decode cX7_read 148 = .ok (.ifCond .ne 16, 3) := dk_3 dd_502
theorem dX7_read_151 : decode cX7_read 151 = .ok (.aload_n 0, 1) := dk_4 dd_502
theorem dX7_read_152 : decode cX7_read 152 = .ok (.bipush 84, 2) := dk_5 dd_502
theorem dX7_read_154 : decode cX7_read 154 = .ok (.iconst 0, 1) := dk_6 dd_502
theorem dX7_read_155 : decode cX7_read 155 = .ok (.invokevirtual 196, 3) := dk_7 dd_502
theorem dX7_read_158 : decode cX7_read 158 = .ok (.bipush (-20), 2) := dk_8 dd_502
theorem dX7_read_160 : decode cX7_read 160 = .ok (.iload 6, 2) := dk_9 dd_502
theorem dX7_read_162 : decode cX7_read 162 = .ok (.isub, 1) := dk_10 dd_502
theorem dX7_read_163 : decode cX7_read 163 = .ok (.ireturn, 1) := dk_11 dd_502
theorem dX7_read_164 : decode cX7_read 164 = .ok (.iinc 6 1, 3) := dk_12 dd_502
theorem dX7_read_167 : decode cX7_read 167 = .ok (.iinc 7 1, 3) := dk_13 dd_502
theorem dX7_read_170 : decode cX7_read 170 = .ok (.goto (-115), 3) := dk_14 dd_502
theorem dX7_read_173 : decode cX7_read 173 = .ok (.aload_n 0, 1) := dk_15 dd_502
theorem dd_503 : fd_G cX7_read 174 [(174, .iload 5, 2), (176, .putfield 262, 3), (179, .iload 6, 2), (181, .ireturn, 1)] = true := by decide +kernel
theorem dX7_read_174 : decode cX7_read 174 = .ok (.iload 5, 2) := dk_0 dd_503
theorem dX7_read_176 : decode cX7_read 176 = .ok (.putfield 262, 3) := dk_1 dd_503
theorem dX7_read_179 : decode cX7_read 179 = .ok (.iload 6, 2) := dk_2 dd_503
theorem dX7_read_181 : decode cX7_read 181 = .ok (.ireturn, 1) := dk_3 dd_503
theorem dd_504 : fd_G cX7_torn 0 [(0, .aload_n 0, 1), (1, .getfield 262, 3), (4, .ireturn, 1)] = true := by decide +kernel
theorem dX7_torn_0 : decode cX7_torn 0 = .ok (.aload_n 0, 1) := dk_0 dd_504
theorem dX7_torn_1 : decode cX7_torn 1 = .ok (.getfield 262, 3) := dk_1 dd_504
theorem dX7_torn_4 : decode cX7_torn 4 = .ok (.ireturn, 1) := dk_2 dd_504
theorem dd_505 : fd_G cX7_count 0 [(0, .iconst 0, 1), (1, .istore_n 2, 1), (2, .iconst 0, 1), (3, .istore_n 3, 1), (4, .iconst 0, 1), (5, .istore 4, 2), (7, .iload 4, 2), (9, .aload_n 0, 1), (10, .getfield 125, 3), (13, .if_icmp .ge 30, 3), (16, .iload_n 2, 1), (17, .aload_n 0, 1), (18, .getfield 7, 3), (21, .bipush 10, 2), (23, .iload 4, 2), (25, .iadd, 1)] = true := by decide +kernel
theorem dX7_count_0 : decode cX7_count 0 = .ok (.iconst 0, 1) := dk_0 dd_505
theorem dX7_count_1 : decode cX7_count 1 = .ok (.istore_n 2, 1) := dk_1 dd_505
theorem dX7_count_2 : decode cX7_count 2 = .ok (.iconst 0, 1) := dk_2 dd_505
theorem dX7_count_3 : decode cX7_count 3 = .ok (.istore_n 3, 1) := dk_3 dd_505
theorem dX7_count_4 : decode cX7_count 4 = .ok (.iconst 0, 1) := dk_4 dd_505
theorem dX7_count_5 : decode cX7_count 5 = .ok (.istore 4, 2) := dk_5 dd_505
theorem dX7_count_7 : decode cX7_count 7 = .ok (.iload 4, 2) := dk_6 dd_505
theorem dX7_count_9 : decode cX7_count 9 = .ok (.aload_n 0, 1) := dk_7 dd_505
theorem dX7_count_10 : decode cX7_count 10 = .ok (.getfield 125, 3) := dk_8 dd_505
theorem dX7_count_13 : decode cX7_count 13 = .ok (.if_icmp .ge 30, 3) := dk_9 dd_505
theorem dX7_count_16 : decode cX7_count 16 = .ok (.iload_n 2, 1) := dk_10 dd_505
theorem dX7_count_17 : decode cX7_count 17 = .ok (.aload_n 0, 1) := dk_11 dd_505
theorem dX7_count_18 : decode cX7_count 18 = .ok (.getfield 7, 3) := dk_12 dd_505
theorem dX7_count_21 : decode cX7_count 21 = .ok (.bipush 10, 2) := dk_13 dd_505
theorem dX7_count_23 : decode cX7_count 23 = .ok (.iload 4, 2) := dk_14 dd_505
theorem dX7_count_25 : decode cX7_count 25 = .ok (.iadd, 1) := dk_15 dd_505
theorem dX7_count_27 : decode cX7_count 27 = .ok (.ifCond .le 7, 3) := by decide +kernel
theorem dd_506 : fd_G cX7_count 26 [(26, .iaload, 1), (30, .iconst 1, 1), (31, .goto 4, 3), (34, .iconst 0, 1), (35, .iadd, 1), (36, .istore_n 2, 1), (37, .iinc 4 1, 3), (40, .goto (-33), 3), (43, .iconst 0, 1), (44, .istore 4, 2), (46, .iload 4, 2), (48, .aload_n 0, 1), (49, .getfield 7, 3), (52, .bipush 27, 2), (54, .iaload, 1), (55, .if_icmp .ge 32, 3)] = true := by decide +kernel
theorem dX7_count_26 : decode cX7_count 26 = .ok (.iaload, 1) := dk_0 dd_506
theorem dX7_count_30 : decode cX7_count 30 = .ok (.iconst 1, 1) := dk_1 dd_506
theorem dX7_count_31 : decode cX7_count 31 = .ok (.goto 4, 3) := dk_2 dd_506
theorem dX7_count_34 : decode cX7_count 34 = .ok (.iconst 0, 1) := dk_3 dd_506
theorem dX7_count_35 : decode cX7_count 35 = .ok (.iadd, 1) := dk_4 dd_506
theorem dX7_count_36 : decode cX7_count 36 = .ok (.istore_n 2, 1) := dk_5 dd_506
theorem dX7_count_37 : decode cX7_count 37 = .ok (.iinc 4 1, 3) := dk_6 dd_506
theorem dX7_count_40 : decode cX7_count 40 = .ok (.goto (-33), 3) := dk_7 dd_506
theorem dX7_count_43 : decode cX7_count 43 = .ok (.iconst 0, 1) := dk_8 dd_506
theorem dX7_count_44 : decode cX7_count 44 = .ok (.istore 4, 2) := dk_9 dd_506
theorem dX7_count_46 : decode cX7_count 46 = .ok (.iload 4, 2) := dk_10 dd_506
theorem dX7_count_48 : decode cX7_count 48 = .ok (.aload_n 0, 1) := dk_11 dd_506
theorem dX7_count_49 : decode cX7_count 49 = .ok (.getfield 7, 3) := dk_12 dd_506
theorem dX7_count_52 : decode cX7_count 52 = .ok (.bipush 27, 2) := dk_13 dd_506
theorem dX7_count_54 : decode cX7_count 54 = .ok (.iaload, 1) := dk_14 dd_506
theorem dX7_count_55 : decode cX7_count 55 = .ok (.if_icmp .ge 32, 3) := dk_15 dd_506
theorem dd_507 : fd_G cX7_count 58 [(58, .iload_n 3, 1), (59, .aload_n 0, 1), (60, .getfield 7, 3), (63, .bipush 19, 2), (65, .iload 4, 2), (67, .iadd, 1), (68, .iaload, 1), (69, .bipush 6, 2), (71, .if_icmp .ne 7, 3), (74, .iconst 1, 1), (75, .goto 4, 3), (78, .iconst 0, 1), (79, .iadd, 1), (80, .istore_n 3, 1), (81, .iinc 4 1, 3), (84, .goto (-38), 3)] = true := by decide +kernel
theorem dX7_count_58 : decode cX7_count 58 = .ok (.iload_n 3, 1) := dk_0 dd_507
theorem dX7_count_59 : decode cX7_count 59 = .ok (.aload_n 0, 1) := dk_1 dd_507
theorem dX7_count_60 : decode cX7_count 60 = .ok (.getfield 7, 3) := dk_2 dd_507
theorem dX7_count_63 : decode cX7_count 63 = .ok (.bipush 19, 2) := dk_3 dd_507
theorem dX7_count_65 : decode cX7_count 65 = .ok (.iload 4, 2) := dk_4 dd_507
theorem dX7_count_67 : decode cX7_count 67 = .ok (.iadd, 1) := dk_5 dd_507
theorem dX7_count_68 : decode cX7_count 68 = .ok (.iaload, 1) := dk_6 dd_507
theorem dX7_count_69 : decode cX7_count 69 = .ok (.bipush 6, 2) := dk_7 dd_507
theorem dX7_count_71 : decode cX7_count 71 = .ok (.if_icmp .ne 7, 3) := dk_8 dd_507
theorem dX7_count_74 : decode cX7_count 74 = .ok (.iconst 1, 1) := dk_9 dd_507
theorem dX7_count_75 : decode cX7_count 75 = .ok (.goto 4, 3) := dk_10 dd_507
theorem dX7_count_78 : decode cX7_count 78 = .ok (.iconst 0, 1) := dk_11 dd_507
theorem dX7_count_79 : decode cX7_count 79 = .ok (.iadd, 1) := dk_12 dd_507
theorem dX7_count_80 : decode cX7_count 80 = .ok (.istore_n 3, 1) := dk_13 dd_507
theorem dX7_count_81 : decode cX7_count 81 = .ok (.iinc 4 1, 3) := dk_14 dd_507
theorem dX7_count_84 : decode cX7_count 84 = .ok (.goto (-38), 3) := dk_15 dd_507
theorem dX7_count_88 : decode cX7_count 88 = .ok (.tableswitch 107 0 5 #[40, 45, 75, 80, 103, 105], 40) := by decide +kernel
theorem dd_508 : fd_G cX7_count 87 [(87, .iload_n 1, 1), (128, .aload_n 0, 1), (129, .getfield 128, 3), (132, .ireturn, 1), (133, .aload_n 0, 1), (134, .getfield 34, 3), (137, .iconst 0, 1), (138, .baload, 1), (139, .ifCond .eq 7, 3), (142, .iconst 1, 1), (143, .goto 4, 3), (146, .iconst 0, 1), (147, .aload_n 0, 1), (148, .getfield 34, 3), (151, .iconst 1, 1), (152, .baload, 1)] = true := by decide +kernel
theorem dX7_count_87 : decode cX7_count 87 = .ok (.iload_n 1, 1) := dk_0 dd_508
theorem dX7_count_128 : decode cX7_count 128 = .ok (.aload_n 0, 1) := dk_1 dd_508
theorem dX7_count_129 : decode cX7_count 129 = .ok (.getfield 128, 3) := dk_2 dd_508
theorem dX7_count_132 : decode cX7_count 132 = .ok (.ireturn, 1) := dk_3 dd_508
theorem dX7_count_133 : decode cX7_count 133 = .ok (.aload_n 0, 1) := dk_4 dd_508
theorem dX7_count_134 : decode cX7_count 134 = .ok (.getfield 34, 3) := dk_5 dd_508
theorem dX7_count_137 : decode cX7_count 137 = .ok (.iconst 0, 1) := dk_6 dd_508
theorem dX7_count_138 : decode cX7_count 138 = .ok (.baload, 1) := dk_7 dd_508
theorem dX7_count_139 : decode cX7_count 139 = .ok (.ifCond .eq 7, 3) := dk_8 dd_508
theorem dX7_count_142 : decode cX7_count 142 = .ok (.iconst 1, 1) := dk_9 dd_508
theorem dX7_count_143 : decode cX7_count 143 = .ok (.goto 4, 3) := dk_10 dd_508
theorem dX7_count_146 : decode cX7_count 146 = .ok (.iconst 0, 1) := dk_11 dd_508
theorem dX7_count_147 : decode cX7_count 147 = .ok (.aload_n 0, 1) := dk_12 dd_508
theorem dX7_count_148 : decode cX7_count 148 = .ok (.getfield 34, 3) := dk_13 dd_508
theorem dX7_count_151 : decode cX7_count 151 = .ok (.iconst 1, 1) := dk_14 dd_508
theorem dX7_count_152 : decode cX7_count 152 = .ok (.baload, 1) := dk_15 dd_508
theorem dd_509 : fd_G cX7_count 153 [(153, .ifCond .eq 7, 3), (156, .iconst 1, 1), (157, .goto 4, 3), (160, .iconst 0, 1), (161, .iadd, 1), (162, .ireturn, 1), (163, .aload_n 0, 1), (164, .getfield 53, 3), (167, .ireturn, 1), (168, .aload_n 0, 1), (169, .getfield 38, 3), (172, .iconst 0, 1), (173, .iaload, 1), (174, .bipush (-4), 2), (176, .if_icmp .ne 8, 3), (179, .bipush (-4), 2)] = true := by decide +kernel
theorem dX7_count_153 : decode cX7_count 153 = .ok (.ifCond .eq 7, 3) := dk_0 dd_509
theorem dX7_count_156 : decode cX7_count 156 = .ok (.iconst 1, 1) := dk_1 dd_509
theorem dX7_count_157 : decode cX7_count 157 = .ok (.goto 4, 3) := dk_2 dd_509
theorem dX7_count_160 : decode cX7_count 160 = .ok (.iconst 0, 1) := dk_3 dd_509
theorem dX7_count_161 : decode cX7_count 161 = .ok (.iadd, 1) := dk_4 dd_509
theorem dX7_count_162 : decode cX7_count 162 = .ok (.ireturn, 1) := dk_5 dd_509
theorem dX7_count_163 : decode cX7_count 163 = .ok (.aload_n 0, 1) := dk_6 dd_509
theorem dX7_count_164 : decode cX7_count 164 = .ok (.getfield 53, 3) := dk_7 dd_509
theorem dX7_count_167 : decode cX7_count 167 = .ok (.ireturn, 1) := dk_8 dd_509
theorem dX7_count_168 : decode cX7_count 168 = .ok (.aload_n 0, 1) := dk_9 dd_509
theorem dX7_count_169 : decode cX7_count 169 = .ok (.getfield 38, 3) := dk_10 dd_509
theorem dX7_count_172 : decode cX7_count 172 = .ok (.iconst 0, 1) := dk_11 dd_509
theorem dX7_count_173 : decode cX7_count 173 = .ok (.iaload, 1) := dk_12 dd_509
theorem dX7_count_174 : decode cX7_count 174 = .ok (.bipush (-4), 2) := dk_13 dd_509
theorem dX7_count_176 : decode cX7_count 176 = .ok (.if_icmp .ne 8, 3) := dk_14 dd_509
theorem dX7_count_179 : decode cX7_count 179 = .ok (.bipush (-4), 2) := dk_15 dd_509
theorem dd_510 : fd_G cX7_count 181 [(181, .goto 9, 3), (184, .aload_n 0, 1), (185, .getfield 41, 3), (188, .iconst 0, 1), (189, .iaload, 1), (190, .ireturn, 1), (191, .iload_n 2, 1), (192, .ireturn, 1), (193, .iload_n 3, 1), (194, .ireturn, 1), (195, .iconst (-1), 1), (196, .ireturn, 1)] = true := by decide +kernel
theorem dX7_count_181 : decode cX7_count 181 = .ok (.goto 9, 3) := dk_0 dd_510
theorem dX7_count_184 : decode cX7_count 184 = .ok (.aload_n 0, 1) := dk_1 dd_510
theorem dX7_count_185 : decode cX7_count 185 = .ok (.getfield 41, 3) := dk_2 dd_510
theorem dX7_count_188 : decode cX7_count 188 = .ok (.iconst 0, 1) := dk_3 dd_510
theorem dX7_count_189 : decode cX7_count 189 = .ok (.iaload, 1) := dk_4 dd_510
theorem dX7_count_190 : decode cX7_count 190 = .ok (.ireturn, 1) := dk_5 dd_510
theorem dX7_count_191 : decode cX7_count 191 = .ok (.iload_n 2, 1) := dk_6 dd_510
theorem dX7_count_192 : decode cX7_count 192 = .ok (.ireturn, 1) := dk_7 dd_510
theorem dX7_count_193 : decode cX7_count 193 = .ok (.iload_n 3, 1) := dk_8 dd_510
theorem dX7_count_194 : decode cX7_count 194 = .ok (.ireturn, 1) := dk_9 dd_510
theorem dX7_count_195 : decode cX7_count 195 = .ok (.iconst (-1), 1) := dk_10 dd_510
theorem dX7_count_196 : decode cX7_count 196 = .ok (.ireturn, 1) := dk_11 dd_510
