theorem db_160 : fd_G cX6_init 0 [(0, .aload_n 0, 1), (1, .invokespecial 1, 3), (4, .aload_n 0, 1), (5, .new 7, 3), (8, .dup, 1), (9, .invokespecial 9, 3), (12, .putfield 10, 3), (15, .aload_n 0, 1), (16, .new 7, 3), (19, .dup, 1), (20, .invokespecial 9, 3), (23, .putfield 16, 3), (26, .aload_n 0, 1), (27, .new 19, 3), (30, .dup, 1), (31, .invokespecial 21, 3)] = true := by decide +kernel
theorem dX6_init_0 : decode cX6_init 0 = .ok (.aload_n 0, 1) := dk_0 db_160
theorem dX6_init_1 : decode cX6_init 1 = .ok (.invokespecial 1, 3) := dk_1 db_160
theorem dX6_init_4 : decode cX6_init 4 = .ok (.aload_n 0, 1) := dk_2 db_160
theorem dX6_init_5 : decode cX6_init 5 = .ok (.new 7, 3) := dk_3 db_160
theorem dX6_init_8 : decode cX6_init 8 = .ok (.dup, 1) := dk_4 db_160
theorem dX6_init_9 : decode cX6_init 9 = .ok (.invokespecial 9, 3) := dk_5 db_160
theorem dX6_init_12 : decode cX6_init 12 = .ok (.putfield 10, 3) := dk_6 db_160
theorem dX6_init_15 : decode cX6_init 15 = .ok (.aload_n 0, 1) := dk_7 db_160
theorem dX6_init_16 : decode cX6_init 16 = .ok (.new 7, 3) := dk_8 db_160
theorem dX6_init_19 : decode cX6_init 19 = .ok (.dup, 1) := dk_9 db_160
theorem dX6_init_20 : decode cX6_init 20 = .ok (.invokespecial 9, 3) := dk_10 db_160
theorem dX6_init_23 : decode cX6_init 23 = .ok (.putfield 16, 3) := dk_11 db_160
theorem dX6_init_26 : decode cX6_init 26 = .ok (.aload_n 0, 1) := dk_12 db_160
theorem dX6_init_27 : decode cX6_init 27 = .ok (.new 19, 3) := dk_13 db_160
theorem dX6_init_30 : decode cX6_init 30 = .ok (.dup, 1) := dk_14 db_160
theorem dX6_init_31 : decode cX6_init 31 = .ok (.invokespecial 21, 3) := dk_15 db_160
theorem db_161 : fd_G cX6_init 34 [(34, .putfield 22, 3), (37, .aload_n 0, 1), (38, .new 26, 3), (41, .dup, 1), (42, .invokespecial 28, 3), (45, .putfield 29, 3), (48, .aload_n 0, 1), (49, .new 33, 3), (52, .dup, 1), (53, .invokespecial 35, 3), (56, .putfield 36, 3), (59, .aload_n 0, 1), (60, .new 40, 3), (63, .dup, 1), (64, .invokespecial 42, 3), (67, .putfield 43, 3)] = true := by decide +kernel
theorem dX6_init_34 : decode cX6_init 34 = .ok (.putfield 22, 3) := dk_0 db_161
theorem dX6_init_37 : decode cX6_init 37 = .ok (.aload_n 0, 1) := dk_1 db_161
theorem dX6_init_38 : decode cX6_init 38 = .ok (.new 26, 3) := dk_2 db_161
theorem dX6_init_41 : decode cX6_init 41 = .ok (.dup, 1) := dk_3 db_161
theorem dX6_init_42 : decode cX6_init 42 = .ok (.invokespecial 28, 3) := dk_4 db_161
theorem dX6_init_45 : decode cX6_init 45 = .ok (.putfield 29, 3) := dk_5 db_161
theorem dX6_init_48 : decode cX6_init 48 = .ok (.aload_n 0, 1) := dk_6 db_161
theorem dX6_init_49 : decode cX6_init 49 = .ok (.new 33, 3) := dk_7 db_161
theorem dX6_init_52 : decode cX6_init 52 = .ok (.dup, 1) := dk_8 db_161
theorem dX6_init_53 : decode cX6_init 53 = .ok (.invokespecial 35, 3) := dk_9 db_161
theorem dX6_init_56 : decode cX6_init 56 = .ok (.putfield 36, 3) := dk_10 db_161
theorem dX6_init_59 : decode cX6_init 59 = .ok (.aload_n 0, 1) := dk_11 db_161
theorem dX6_init_60 : decode cX6_init 60 = .ok (.new 40, 3) := dk_12 db_161
theorem dX6_init_63 : decode cX6_init 63 = .ok (.dup, 1) := dk_13 db_161
theorem dX6_init_64 : decode cX6_init 64 = .ok (.invokespecial 42, 3) := dk_14 db_161
theorem dX6_init_67 : decode cX6_init 67 = .ok (.putfield 43, 3) := dk_15 db_161
theorem dX6_init_72 : decode cX6_init 72 = .ok (.anewarray 7, 3) := by decide +kernel
theorem dX6_init_80 : decode cX6_init 80 = .ok (.newarray .boolean, 2) := by decide +kernel
theorem dX6_init_87 : decode cX6_init 87 = .ok (.anewarray 55, 3) := by decide +kernel
theorem dX6_init_96 : decode cX6_init 96 = .ok (.newarray .int, 2) := by decide +kernel
theorem db_162 : fd_G cX6_init 70 [(70, .aload_n 0, 1), (71, .iconst 2, 1), (75, .putfield 47, 3), (78, .aload_n 0, 1), (79, .iconst 2, 1), (82, .putfield 51, 3), (85, .aload_n 0, 1), (86, .iconst 4, 1), (90, .putfield 57, 3), (93, .aload_n 0, 1), (94, .bipush 21, 2), (98, .putfield 61, 3), (101, .iconst 0, 1), (102, .istore_n 1, 1), (103, .iload_n 1, 1), (104, .iconst 2, 1)] = true := by decide +kernel
theorem dX6_init_70 : decode cX6_init 70 = .ok (.aload_n 0, 1) := dk_0 db_162
theorem dX6_init_71 : decode cX6_init 71 = .ok (.iconst 2, 1) := dk_1 db_162
theorem dX6_init_75 : decode cX6_init 75 = .ok (.putfield 47, 3) := dk_2 db_162
theorem dX6_init_78 : decode cX6_init 78 = .ok (.aload_n 0, 1) := dk_3 db_162
theorem dX6_init_79 : decode cX6_init 79 = .ok (.iconst 2, 1) := dk_4 db_162
theorem dX6_init_82 : decode cX6_init 82 = .ok (.putfield 51, 3) := dk_5 db_162
theorem dX6_init_85 : decode cX6_init 85 = .ok (.aload_n 0, 1) := dk_6 db_162
theorem dX6_init_86 : decode cX6_init 86 = .ok (.iconst 4, 1) := dk_7 db_162
theorem dX6_init_90 : decode cX6_init 90 = .ok (.putfield 57, 3) := dk_8 db_162
theorem dX6_init_93 : decode cX6_init 93 = .ok (.aload_n 0, 1) := dk_9 db_162
theorem dX6_init_94 : decode cX6_init 94 = .ok (.bipush 21, 2) := dk_10 db_162
theorem dX6_init_98 : decode cX6_init 98 = .ok (.putfield 61, 3) := dk_11 db_162
theorem dX6_init_101 : decode cX6_init 101 = .ok (.iconst 0, 1) := dk_12 db_162
theorem dX6_init_102 : decode cX6_init 102 = .ok (.istore_n 1, 1) := dk_13 db_162
theorem dX6_init_103 : decode cX6_init 103 = .ok (.iload_n 1, 1) := dk_14 db_162
theorem dX6_init_104 : decode cX6_init 104 = .ok (.iconst 2, 1) := dk_15 db_162
theorem dX6_init_120 : decode cX6_init 120 = .ok (.aastore, 1) := by decide +kernel
theorem db_163 : fd_G cX6_init 105 [(105, .if_icmp .ge 22, 3), (108, .aload_n 0, 1), (109, .getfield 47, 3), (112, .iload_n 1, 1), (113, .new 7, 3), (116, .dup, 1), (117, .invokespecial 9, 3), (121, .iinc 1 1, 3), (124, .goto (-21), 3), (127, .iconst 0, 1), (128, .istore_n 1, 1), (129, .iload_n 1, 1), (130, .iconst 4, 1), (131, .if_icmp .ge 22, 3), (134, .aload_n 0, 1), (135, .getfield 57, 3)] = true := by decide +kernel
theorem dX6_init_105 : decode cX6_init 105 = .ok (.if_icmp .ge 22, 3) := dk_0 db_163
theorem dX6_init_108 : decode cX6_init 108 = .ok (.aload_n 0, 1) := dk_1 db_163
theorem dX6_init_109 : decode cX6_init 109 = .ok (.getfield 47, 3) := dk_2 db_163
theorem dX6_init_112 : decode cX6_init 112 = .ok (.iload_n 1, 1) := dk_3 db_163
theorem dX6_init_113 : decode cX6_init 113 = .ok (.new 7, 3) := dk_4 db_163
theorem dX6_init_116 : decode cX6_init 116 = .ok (.dup, 1) := dk_5 db_163
theorem dX6_init_117 : decode cX6_init 117 = .ok (.invokespecial 9, 3) := dk_6 db_163
theorem dX6_init_121 : decode cX6_init 121 = .ok (.iinc 1 1, 3) := dk_7 db_163
theorem dX6_init_124 : decode cX6_init 124 = .ok (.goto (-21), 3) := dk_8 db_163
theorem dX6_init_127 : decode cX6_init 127 = .ok (.iconst 0, 1) := dk_9 db_163
theorem dX6_init_128 : decode cX6_init 128 = .ok (.istore_n 1, 1) := dk_10 db_163
theorem dX6_init_129 : decode cX6_init 129 = .ok (.iload_n 1, 1) := dk_11 db_163
theorem dX6_init_130 : decode cX6_init 130 = .ok (.iconst 4, 1) := dk_12 db_163
theorem dX6_init_131 : decode cX6_init 131 = .ok (.if_icmp .ge 22, 3) := dk_13 db_163
theorem dX6_init_134 : decode cX6_init 134 = .ok (.aload_n 0, 1) := dk_14 db_163
theorem dX6_init_135 : decode cX6_init 135 = .ok (.getfield 57, 3) := dk_15 db_163
theorem dX6_init_146 : decode cX6_init 146 = .ok (.aastore, 1) := by decide +kernel
theorem db_164 : fd_G cX6_init 138 [(138, .iload_n 1, 1), (139, .new 55, 3), (142, .dup, 1), (143, .invokespecial 65, 3), (147, .iinc 1 1, 3), (150, .goto (-21), 3), (153, .return_, 1)] = true := by decide +kernel
theorem dX6_init_138 : decode cX6_init 138 = .ok (.iload_n 1, 1) := dk_0 db_164
theorem dX6_init_139 : decode cX6_init 139 = .ok (.new 55, 3) := dk_1 db_164
theorem dX6_init_142 : decode cX6_init 142 = .ok (.dup, 1) := dk_2 db_164
theorem dX6_init_143 : decode cX6_init 143 = .ok (.invokespecial 65, 3) := dk_3 db_164
theorem dX6_init_147 : decode cX6_init 147 = .ok (.iinc 1 1, 3) := dk_4 db_164
theorem dX6_init_150 : decode cX6_init 150 = .ok (.goto (-21), 3) := dk_5 db_164
theorem dX6_init_153 : decode cX6_init 153 = .ok (.return_, 1) := dk_6 db_164
theorem db_165 : fd_G cX6_feed 0 [(0, .iload_n 1, 1), (1, .ifCond .lt 9, 3), (4, .iload_n 1, 1), (5, .bipush 127, 2), (7, .if_icmp .le 5, 3), (10, .iconst (-1), 1), (11, .ireturn, 1), (12, .aload_n 0, 1), (13, .getfield 22, 3), (16, .iload_n 1, 1), (17, .invokevirtual 66, 3), (20, .ifCond .eq 13, 3), (23, .aload_n 0, 1), (24, .getfield 22, 3), (27, .getfield 70, 3), (30, .goto 5, 3)] = true := by decide +kernel
theorem dX6_feed_0 : decode cX6_feed 0 = .ok (.iload_n 1, 1) := dk_0 db_165
theorem dX6_feed_1 : decode cX6_feed 1 = .ok (.ifCond .lt 9, 3) := dk_1 db_165
theorem dX6_feed_4 : decode cX6_feed 4 = .ok (.iload_n 1, 1) := dk_2 db_165
theorem dX6_feed_5 : decode cX6_feed 5 = .ok (.bipush 127, 2) := dk_3 db_165
theorem dX6_feed_7 : decode cX6_feed 7 = .ok (.if_icmp .le 5, 3) := dk_4 db_165
theorem dX6_feed_10 : decode cX6_feed 10 = .ok (.iconst (-1), 1) := dk_5 db_165
theorem dX6_feed_11 : decode cX6_feed 11 = .ok (.ireturn, 1) := dk_6 db_165
theorem dX6_feed_12 : decode cX6_feed 12 = .ok (.aload_n 0, 1) := dk_7 db_165
theorem dX6_feed_13 : decode cX6_feed 13 = .ok (.getfield 22, 3) := dk_8 db_165
theorem dX6_feed_16 : decode cX6_feed 16 = .ok (.iload_n 1, 1) := dk_9 db_165
theorem dX6_feed_17 : decode cX6_feed 17 = .ok (.invokevirtual 66, 3) := dk_10 db_165
theorem dX6_feed_20 : decode cX6_feed 20 = .ok (.ifCond .eq 13, 3) := dk_11 db_165
theorem dX6_feed_23 : decode cX6_feed 23 = .ok (.aload_n 0, 1) := dk_12 db_165
theorem dX6_feed_24 : decode cX6_feed 24 = .ok (.getfield 22, 3) := dk_13 db_165
theorem dX6_feed_27 : decode cX6_feed 27 = .ok (.getfield 70, 3) := dk_14 db_165
theorem dX6_feed_30 : decode cX6_feed 30 = .ok (.goto 5, 3) := dk_15 db_165
theorem db_166 : fd_G cX6_feed 33 [(33, .bipush (-3), 2), (35, .ireturn, 1)] = true := by decide +kernel
theorem dX6_feed_33 : decode cX6_feed 33 = .ok (.bipush (-3), 2) := dk_0 db_166
theorem dX6_feed_35 : decode cX6_feed 35 = .ok (.ireturn, 1) := dk_1 db_166
theorem db_167 : fd_G cX6_end 0 [(0, .iload_n 1, 1), (1, .ifCond .lt 14, 3), (4, .iload_n 1, 1), (5, .aload_n 0, 1), (6, .getfield 22, 3), (9, .getfield 70, 3), (12, .if_icmp .le 5, 3), (15, .iconst (-1), 1), (16, .ireturn, 1), (17, .aload_n 0, 1), (18, .getfield 22, 3), (21, .getfield 70, 3), (24, .istore_n 2, 1), (25, .aload_n 0, 1), (26, .getfield 22, 3), (29, .iload_n 1, 1)] = true := by decide +kernel
theorem dX6_end_0 : decode cX6_end 0 = .ok (.iload_n 1, 1) := dk_0 db_167
theorem dX6_end_1 : decode cX6_end 1 = .ok (.ifCond .lt 14, 3) := dk_1 db_167
theorem dX6_end_4 : decode cX6_end 4 = .ok (.iload_n 1, 1) := dk_2 db_167
theorem dX6_end_5 : decode cX6_end 5 = .ok (.aload_n 0, 1) := dk_3 db_167
theorem dX6_end_6 : decode cX6_end 6 = .ok (.getfield 22, 3) := dk_4 db_167
theorem dX6_end_9 : decode cX6_end 9 = .ok (.getfield 70, 3) := dk_5 db_167
theorem dX6_end_12 : decode cX6_end 12 = .ok (.if_icmp .le 5, 3) := dk_6 db_167
theorem dX6_end_15 : decode cX6_end 15 = .ok (.iconst (-1), 1) := dk_7 db_167
theorem dX6_end_16 : decode cX6_end 16 = .ok (.ireturn, 1) := dk_8 db_167
theorem dX6_end_17 : decode cX6_end 17 = .ok (.aload_n 0, 1) := dk_9 db_167
theorem dX6_end_18 : decode cX6_end 18 = .ok (.getfield 22, 3) := dk_10 db_167
theorem dX6_end_21 : decode cX6_end 21 = .ok (.getfield 70, 3) := dk_11 db_167
theorem dX6_end_24 : decode cX6_end 24 = .ok (.istore_n 2, 1) := dk_12 db_167
theorem dX6_end_25 : decode cX6_end 25 = .ok (.aload_n 0, 1) := dk_13 db_167
theorem dX6_end_26 : decode cX6_end 26 = .ok (.getfield 22, 3) := dk_14 db_167
theorem dX6_end_29 : decode cX6_end 29 = .ok (.iload_n 1, 1) := dk_15 db_167
theorem db_168 : fd_G cX6_end 30 [(30, .putfield 70, 3), (33, .iload_n 2, 1), (34, .ireturn, 1)] = true := by decide +kernel
theorem dX6_end_30 : decode cX6_end 30 = .ok (.putfield 70, 3) := dk_0 db_168
theorem dX6_end_33 : decode cX6_end 33 = .ok (.iload_n 2, 1) := dk_1 db_168
theorem dX6_end_34 : decode cX6_end 34 = .ok (.ireturn, 1) := dk_2 db_168
theorem db_169 : fd_G cX6_text 0 [(0, .aload_n 0, 1), (1, .getfield 22, 3), (4, .invokevirtual 74, 3), (7, .istore_n 1, 1), (8, .aload_n 0, 1), (9, .getfield 22, 3), (12, .getfield 78, 3), (15, .ifCond .ne 45, 3), (18, .aload_n 0, 1), (19, .getfield 10, 3), (22, .aload_n 0, 1), (23, .getfield 22, 3), (26, .getfield 81, 3), (29, .invokevirtual 84, 3), (32, .aload_n 0, 1), (33, .getfield 29, 3)] = true := by decide +kernel
theorem dX6_text_0 : decode cX6_text 0 = .ok (.aload_n 0, 1) := dk_0 db_169
theorem dX6_text_1 : decode cX6_text 1 = .ok (.getfield 22, 3) := dk_1 db_169
theorem dX6_text_4 : decode cX6_text 4 = .ok (.invokevirtual 74, 3) := dk_2 db_169
theorem dX6_text_7 : decode cX6_text 7 = .ok (.istore_n 1, 1) := dk_3 db_169
theorem dX6_text_8 : decode cX6_text 8 = .ok (.aload_n 0, 1) := dk_4 db_169
theorem dX6_text_9 : decode cX6_text 9 = .ok (.getfield 22, 3) := dk_5 db_169
theorem dX6_text_12 : decode cX6_text 12 = .ok (.getfield 78, 3) := dk_6 db_169
theorem dX6_text_15 : decode cX6_text 15 = .ok (.ifCond .ne 45, 3) := dk_7 db_169
theorem dX6_text_18 : decode cX6_text 18 = .ok (.aload_n 0, 1) := dk_8 db_169
theorem dX6_text_19 : decode cX6_text 19 = .ok (.getfield 10, 3) := dk_9 db_169
theorem dX6_text_22 : decode cX6_text 22 = .ok (.aload_n 0, 1) := dk_10 db_169
theorem dX6_text_23 : decode cX6_text 23 = .ok (.getfield 22, 3) := dk_11 db_169
theorem dX6_text_26 : decode cX6_text 26 = .ok (.getfield 81, 3) := dk_12 db_169
theorem dX6_text_29 : decode cX6_text 29 = .ok (.invokevirtual 84, 3) := dk_13 db_169
theorem dX6_text_32 : decode cX6_text 32 = .ok (.aload_n 0, 1) := dk_14 db_169
theorem dX6_text_33 : decode cX6_text 33 = .ok (.getfield 29, 3) := dk_15 db_169
theorem dX6_text_53 : decode cX6_text 53 = .ok (.bastore, 1) := by decide +kernel
theorem db_170 : fd_G cX6_text 36 [(36, .iconst 0, 1), (37, .putfield 88, 3), (40, .iconst 0, 1), (41, .istore_n 2, 1), (42, .iload_n 2, 1), (43, .iconst 2, 1), (44, .if_icmp .ge 16, 3), (47, .aload_n 0, 1), (48, .getfield 51, 3), (51, .iload_n 2, 1), (52, .iconst 0, 1), (54, .iinc 2 1, 3), (57, .goto (-15), 3), (60, .iload_n 1, 1), (61, .ireturn, 1)] = true := by decide +kernel
theorem dX6_text_36 : decode cX6_text 36 = .ok (.iconst 0, 1) := dk_0 db_170
theorem dX6_text_37 : decode cX6_text 37 = .ok (.putfield 88, 3) := dk_1 db_170
theorem dX6_text_40 : decode cX6_text 40 = .ok (.iconst 0, 1) := dk_2 db_170
theorem dX6_text_41 : decode cX6_text 41 = .ok (.istore_n 2, 1) := dk_3 db_170
theorem dX6_text_42 : decode cX6_text 42 = .ok (.iload_n 2, 1) := dk_4 db_170
theorem dX6_text_43 : decode cX6_text 43 = .ok (.iconst 2, 1) := dk_5 db_170
theorem dX6_text_44 : decode cX6_text 44 = .ok (.if_icmp .ge 16, 3) := dk_6 db_170
theorem dX6_text_47 : decode cX6_text 47 = .ok (.aload_n 0, 1) := dk_7 db_170
theorem dX6_text_48 : decode cX6_text 48 = .ok (.getfield 51, 3) := dk_8 db_170
theorem dX6_text_51 : decode cX6_text 51 = .ok (.iload_n 2, 1) := dk_9 db_170
theorem dX6_text_52 : decode cX6_text 52 = .ok (.iconst 0, 1) := dk_10 db_170
theorem dX6_text_54 : decode cX6_text 54 = .ok (.iinc 2 1, 3) := dk_11 db_170
theorem dX6_text_57 : decode cX6_text 57 = .ok (.goto (-15), 3) := dk_12 db_170
theorem dX6_text_60 : decode cX6_text 60 = .ok (.iload_n 1, 1) := dk_13 db_170
theorem dX6_text_61 : decode cX6_text 61 = .ok (.ireturn, 1) := dk_14 db_170
theorem db_171 : fd_G cX6_fault 0 [(0, .aload_n 0, 1), (1, .getfield 22, 3), (4, .getfield 78, 3), (7, .ireturn, 1)] = true := by decide +kernel
theorem dX6_fault_0 : decode cX6_fault 0 = .ok (.aload_n 0, 1) := dk_0 db_171
theorem dX6_fault_1 : decode cX6_fault 1 = .ok (.getfield 22, 3) := dk_1 db_171
theorem dX6_fault_4 : decode cX6_fault 4 = .ok (.getfield 78, 3) := dk_2 db_171
theorem dX6_fault_7 : decode cX6_fault 7 = .ok (.ireturn, 1) := dk_3 db_171
theorem dX6_rule_1 : decode cX6_rule 1 = .ok (.tableswitch 99 0 6 #[43, 51, 59, 67, 75, 83, 91], 43) := by decide +kernel
theorem db_172 : fd_G cX6_rule 0 [(0, .iload_n 1, 1), (44, .aload_n 0, 1), (45, .getfield 10, 3), (48, .getfield 91, 3), (51, .ireturn, 1), (52, .aload_n 0, 1), (53, .getfield 10, 3), (56, .getfield 94, 3), (59, .ireturn, 1), (60, .aload_n 0, 1), (61, .getfield 10, 3), (64, .getfield 97, 3), (67, .ireturn, 1), (68, .aload_n 0, 1), (69, .getfield 10, 3), (72, .getfield 100, 3)] = true := by decide +kernel
theorem dX6_rule_0 : decode cX6_rule 0 = .ok (.iload_n 1, 1) := dk_0 db_172
theorem dX6_rule_44 : decode cX6_rule 44 = .ok (.aload_n 0, 1) := dk_1 db_172
theorem dX6_rule_45 : decode cX6_rule 45 = .ok (.getfield 10, 3) := dk_2 db_172
theorem dX6_rule_48 : decode cX6_rule 48 = .ok (.getfield 91, 3) := dk_3 db_172
theorem dX6_rule_51 : decode cX6_rule 51 = .ok (.ireturn, 1) := dk_4 db_172
theorem dX6_rule_52 : decode cX6_rule 52 = .ok (.aload_n 0, 1) := dk_5 db_172
theorem dX6_rule_53 : decode cX6_rule 53 = .ok (.getfield 10, 3) := dk_6 db_172
theorem dX6_rule_56 : decode cX6_rule 56 = .ok (.getfield 94, 3) := dk_7 db_172
theorem dX6_rule_59 : decode cX6_rule 59 = .ok (.ireturn, 1) := dk_8 db_172
theorem dX6_rule_60 : decode cX6_rule 60 = .ok (.aload_n 0, 1) := dk_9 db_172
theorem dX6_rule_61 : decode cX6_rule 61 = .ok (.getfield 10, 3) := dk_10 db_172
theorem dX6_rule_64 : decode cX6_rule 64 = .ok (.getfield 97, 3) := dk_11 db_172
theorem dX6_rule_67 : decode cX6_rule 67 = .ok (.ireturn, 1) := dk_12 db_172
theorem dX6_rule_68 : decode cX6_rule 68 = .ok (.aload_n 0, 1) := dk_13 db_172
theorem dX6_rule_69 : decode cX6_rule 69 = .ok (.getfield 10, 3) := dk_14 db_172
theorem dX6_rule_72 : decode cX6_rule 72 = .ok (.getfield 100, 3) := dk_15 db_172
theorem db_173 : fd_G cX6_rule 75 [(75, .ireturn, 1), (76, .aload_n 0, 1), (77, .getfield 10, 3), (80, .getfield 103, 3), (83, .ireturn, 1), (84, .aload_n 0, 1), (85, .getfield 10, 3), (88, .invokevirtual 106, 3), (91, .ireturn, 1), (92, .aload_n 0, 1), (93, .getfield 10, 3), (96, .invokevirtual 109, 3), (99, .ireturn, 1), (100, .iconst (-1), 1), (101, .ireturn, 1)] = true := by decide +kernel
theorem dX6_rule_75 : decode cX6_rule 75 = .ok (.ireturn, 1) := dk_0 db_173
theorem dX6_rule_76 : decode cX6_rule 76 = .ok (.aload_n 0, 1) := dk_1 db_173
theorem dX6_rule_77 : decode cX6_rule 77 = .ok (.getfield 10, 3) := dk_2 db_173
theorem dX6_rule_80 : decode cX6_rule 80 = .ok (.getfield 103, 3) := dk_3 db_173
theorem dX6_rule_83 : decode cX6_rule 83 = .ok (.ireturn, 1) := dk_4 db_173
theorem dX6_rule_84 : decode cX6_rule 84 = .ok (.aload_n 0, 1) := dk_5 db_173
theorem dX6_rule_85 : decode cX6_rule 85 = .ok (.getfield 10, 3) := dk_6 db_173
theorem dX6_rule_88 : decode cX6_rule 88 = .ok (.invokevirtual 106, 3) := dk_7 db_173
theorem dX6_rule_91 : decode cX6_rule 91 = .ok (.ireturn, 1) := dk_8 db_173
theorem dX6_rule_92 : decode cX6_rule 92 = .ok (.aload_n 0, 1) := dk_9 db_173
theorem dX6_rule_93 : decode cX6_rule 93 = .ok (.getfield 10, 3) := dk_10 db_173
theorem dX6_rule_96 : decode cX6_rule 96 = .ok (.invokevirtual 109, 3) := dk_11 db_173
theorem dX6_rule_99 : decode cX6_rule 99 = .ok (.ireturn, 1) := dk_12 db_173
theorem dX6_rule_100 : decode cX6_rule 100 = .ok (.iconst (-1), 1) := dk_13 db_173
theorem dX6_rule_101 : decode cX6_rule 101 = .ok (.ireturn, 1) := dk_14 db_173
theorem dX6_one_14 : decode cX6_one 14 = .ok (.tableswitch 89 0 4 #[34, 44, 54, 63, 72], 34) := by decide +kernel
theorem db_174 : fd_G cX6_one 0 [(0, .aload_n 0, 1), (1, .getfield 10, 3), (4, .iload_n 1, 1), (5, .invokevirtual 112, 3), (8, .ifCond .ne 5, 3), (11, .iconst (-1), 1), (12, .ireturn, 1), (13, .iload_n 2, 1), (48, .aload_n 0, 1), (49, .getfield 10, 3), (52, .getfield 115, 3), (55, .iload_n 1, 1), (56, .iaload, 1), (57, .ireturn, 1), (58, .aload_n 0, 1), (59, .getfield 10, 3)] = true := by decide +kernel
theorem dX6_one_0 : decode cX6_one 0 = .ok (.aload_n 0, 1) := dk_0 db_174
theorem dX6_one_1 : decode cX6_one 1 = .ok (.getfield 10, 3) := dk_1 db_174
theorem dX6_one_4 : decode cX6_one 4 = .ok (.iload_n 1, 1) := dk_2 db_174
theorem dX6_one_5 : decode cX6_one 5 = .ok (.invokevirtual 112, 3) := dk_3 db_174
theorem dX6_one_8 : decode cX6_one 8 = .ok (.ifCond .ne 5, 3) := dk_4 db_174
theorem dX6_one_11 : decode cX6_one 11 = .ok (.iconst (-1), 1) := dk_5 db_174
theorem dX6_one_12 : decode cX6_one 12 = .ok (.ireturn, 1) := dk_6 db_174
theorem dX6_one_13 : decode cX6_one 13 = .ok (.iload_n 2, 1) := dk_7 db_174
theorem dX6_one_48 : decode cX6_one 48 = .ok (.aload_n 0, 1) := dk_8 db_174
theorem dX6_one_49 : decode cX6_one 49 = .ok (.getfield 10, 3) := dk_9 db_174
theorem dX6_one_52 : decode cX6_one 52 = .ok (.getfield 115, 3) := dk_10 db_174
theorem dX6_one_55 : decode cX6_one 55 = .ok (.iload_n 1, 1) := dk_11 db_174
theorem dX6_one_56 : decode cX6_one 56 = .ok (.iaload, 1) := dk_12 db_174
theorem dX6_one_57 : decode cX6_one 57 = .ok (.ireturn, 1) := dk_13 db_174
theorem dX6_one_58 : decode cX6_one 58 = .ok (.aload_n 0, 1) := dk_14 db_174
theorem dX6_one_59 : decode cX6_one 59 = .ok (.getfield 10, 3) := dk_15 db_174
theorem db_175 : fd_G cX6_one 62 [(62, .getfield 118, 3), (65, .iload_n 1, 1), (66, .iaload, 1), (67, .ireturn, 1), (68, .aload_n 0, 1), (69, .getfield 10, 3), (72, .iload_n 1, 1), (73, .invokevirtual 121, 3), (76, .ireturn, 1), (77, .aload_n 0, 1), (78, .getfield 10, 3), (81, .iload_n 1, 1), (82, .invokevirtual 125, 3), (85, .ireturn, 1), (86, .aload_n 0, 1), (87, .getfield 10, 3)] = true := by decide +kernel
theorem dX6_one_62 : decode cX6_one 62 = .ok (.getfield 118, 3) := dk_0 db_175
theorem dX6_one_65 : decode cX6_one 65 = .ok (.iload_n 1, 1) := dk_1 db_175
theorem dX6_one_66 : decode cX6_one 66 = .ok (.iaload, 1) := dk_2 db_175
theorem dX6_one_67 : decode cX6_one 67 = .ok (.ireturn, 1) := dk_3 db_175
theorem dX6_one_68 : decode cX6_one 68 = .ok (.aload_n 0, 1) := dk_4 db_175
theorem dX6_one_69 : decode cX6_one 69 = .ok (.getfield 10, 3) := dk_5 db_175
theorem dX6_one_72 : decode cX6_one 72 = .ok (.iload_n 1, 1) := dk_6 db_175
theorem dX6_one_73 : decode cX6_one 73 = .ok (.invokevirtual 121, 3) := dk_7 db_175
theorem dX6_one_76 : decode cX6_one 76 = .ok (.ireturn, 1) := dk_8 db_175
theorem dX6_one_77 : decode cX6_one 77 = .ok (.aload_n 0, 1) := dk_9 db_175
theorem dX6_one_78 : decode cX6_one 78 = .ok (.getfield 10, 3) := dk_10 db_175
theorem dX6_one_81 : decode cX6_one 81 = .ok (.iload_n 1, 1) := dk_11 db_175
theorem dX6_one_82 : decode cX6_one 82 = .ok (.invokevirtual 125, 3) := dk_12 db_175
theorem dX6_one_85 : decode cX6_one 85 = .ok (.ireturn, 1) := dk_13 db_175
theorem dX6_one_86 : decode cX6_one 86 = .ok (.aload_n 0, 1) := dk_14 db_175
theorem dX6_one_87 : decode cX6_one 87 = .ok (.getfield 10, 3) := dk_15 db_175
theorem db_176 : fd_G cX6_one 90 [(90, .iload_n 1, 1), (91, .invokevirtual 128, 3), (94, .ifCond .eq 7, 3), (97, .iconst 0, 1), (98, .goto 4, 3), (101, .iconst 1, 1), (102, .ireturn, 1), (103, .iconst (-1), 1), (104, .ireturn, 1)] = true := by decide +kernel
theorem dX6_one_90 : decode cX6_one 90 = .ok (.iload_n 1, 1) := dk_0 db_176
theorem dX6_one_91 : decode cX6_one 91 = .ok (.invokevirtual 128, 3) := dk_1 db_176
theorem dX6_one_94 : decode cX6_one 94 = .ok (.ifCond .eq 7, 3) := dk_2 db_176
theorem dX6_one_97 : decode cX6_one 97 = .ok (.iconst 0, 1) := dk_3 db_176
theorem dX6_one_98 : decode cX6_one 98 = .ok (.goto 4, 3) := dk_4 db_176
theorem dX6_one_101 : decode cX6_one 101 = .ok (.iconst 1, 1) := dk_5 db_176
theorem dX6_one_102 : decode cX6_one 102 = .ok (.ireturn, 1) := dk_6 db_176
theorem dX6_one_103 : decode cX6_one 103 = .ok (.iconst (-1), 1) := dk_7 db_176
theorem dX6_one_104 : decode cX6_one 104 = .ok (.ireturn, 1) := dk_8 db_176
theorem db_177 : fd_G cX6_act 0 [(0, .iload_n 1, 1), (1, .ifCond .lt 14, 3), (4, .iload_n 1, 1), (5, .aload_n 0, 1), (6, .getfield 10, 3), (9, .getfield 103, 3), (12, .if_icmp .lt 7, 3), (15, .iconst (-1), 1), (16, .goto 12, 3), (19, .aload_n 0, 1), (20, .getfield 10, 3), (23, .getfield 131, 3), (26, .iload_n 1, 1), (27, .iaload, 1), (28, .ireturn, 1)] = true := by decide +kernel
theorem dX6_act_0 : decode cX6_act 0 = .ok (.iload_n 1, 1) := dk_0 db_177
theorem dX6_act_1 : decode cX6_act 1 = .ok (.ifCond .lt 14, 3) := dk_1 db_177
theorem dX6_act_4 : decode cX6_act 4 = .ok (.iload_n 1, 1) := dk_2 db_177
theorem dX6_act_5 : decode cX6_act 5 = .ok (.aload_n 0, 1) := dk_3 db_177
theorem dX6_act_6 : decode cX6_act 6 = .ok (.getfield 10, 3) := dk_4 db_177
theorem dX6_act_9 : decode cX6_act 9 = .ok (.getfield 103, 3) := dk_5 db_177
theorem dX6_act_12 : decode cX6_act 12 = .ok (.if_icmp .lt 7, 3) := dk_6 db_177
theorem dX6_act_15 : decode cX6_act 15 = .ok (.iconst (-1), 1) := dk_7 db_177
theorem dX6_act_16 : decode cX6_act 16 = .ok (.goto 12, 3) := dk_8 db_177
theorem dX6_act_19 : decode cX6_act 19 = .ok (.aload_n 0, 1) := dk_9 db_177
theorem dX6_act_20 : decode cX6_act 20 = .ok (.getfield 10, 3) := dk_10 db_177
theorem dX6_act_23 : decode cX6_act 23 = .ok (.getfield 131, 3) := dk_11 db_177
theorem dX6_act_26 : decode cX6_act 26 = .ok (.iload_n 1, 1) := dk_12 db_177
theorem dX6_act_27 : decode cX6_act 27 = .ok (.iaload, 1) := dk_13 db_177
theorem dX6_act_28 : decode cX6_act 28 = .ok (.ireturn, 1) := dk_14 db_177
theorem db_178 : fd_G cX6_queue 0 [(0, .iload_n 1, 1), (1, .ifCond .lt 8, 3), (4, .iload_n 1, 1), (5, .iconst 5, 1), (6, .if_icmp .lt 7, 3), (9, .iconst (-1), 1), (10, .goto 11, 3), (13, .aload_n 0, 1), (14, .getfield 10, 3), (17, .iload_n 1, 1), (18, .invokevirtual 134, 3), (21, .ireturn, 1)] = true := by decide +kernel
theorem dX6_queue_0 : decode cX6_queue 0 = .ok (.iload_n 1, 1) := dk_0 db_178
theorem dX6_queue_1 : decode cX6_queue 1 = .ok (.ifCond .lt 8, 3) := dk_1 db_178
theorem dX6_queue_4 : decode cX6_queue 4 = .ok (.iload_n 1, 1) := dk_2 db_178
theorem dX6_queue_5 : decode cX6_queue 5 = .ok (.iconst 5, 1) := dk_3 db_178
theorem dX6_queue_6 : decode cX6_queue 6 = .ok (.if_icmp .lt 7, 3) := dk_4 db_178
theorem dX6_queue_9 : decode cX6_queue 9 = .ok (.iconst (-1), 1) := dk_5 db_178
theorem dX6_queue_10 : decode cX6_queue 10 = .ok (.goto 11, 3) := dk_6 db_178
theorem dX6_queue_13 : decode cX6_queue 13 = .ok (.aload_n 0, 1) := dk_7 db_178
theorem dX6_queue_14 : decode cX6_queue 14 = .ok (.getfield 10, 3) := dk_8 db_178
theorem dX6_queue_17 : decode cX6_queue 17 = .ok (.iload_n 1, 1) := dk_9 db_178
theorem dX6_queue_18 : decode cX6_queue 18 = .ok (.invokevirtual 134, 3) := dk_10 db_178
theorem dX6_queue_21 : decode cX6_queue 21 = .ok (.ireturn, 1) := dk_11 db_178
theorem dX6_alter_12 : decode cX6_alter 12 = .ok (.ifCond .ge 5, 3) := by decide +kernel
theorem db_179 : fd_G cX6_alter 0 [(0, .aload_n 0, 1), (1, .getfield 10, 3), (4, .iload_n 1, 1), (5, .invokevirtual 112, 3), (8, .ifCond .eq 7, 3), (11, .iload_n 3, 1), (15, .iconst (-1), 1), (16, .ireturn, 1), (17, .iload_n 2, 1), (18, .ifCond .ne 32, 3), (21, .iload_n 3, 1), (22, .iconst 4, 1), (23, .if_icmp .ge 27, 3), (26, .aload_n 0, 1), (27, .getfield 10, 3), (30, .getfield 115, 3)] = true := by decide +kernel
theorem dX6_alter_0 : decode cX6_alter 0 = .ok (.aload_n 0, 1) := dk_0 db_179
theorem dX6_alter_1 : decode cX6_alter 1 = .ok (.getfield 10, 3) := dk_1 db_179
theorem dX6_alter_4 : decode cX6_alter 4 = .ok (.iload_n 1, 1) := dk_2 db_179
theorem dX6_alter_5 : decode cX6_alter 5 = .ok (.invokevirtual 112, 3) := dk_3 db_179
theorem dX6_alter_8 : decode cX6_alter 8 = .ok (.ifCond .eq 7, 3) := dk_4 db_179
theorem dX6_alter_11 : decode cX6_alter 11 = .ok (.iload_n 3, 1) := dk_5 db_179
theorem dX6_alter_15 : decode cX6_alter 15 = .ok (.iconst (-1), 1) := dk_6 db_179
theorem dX6_alter_16 : decode cX6_alter 16 = .ok (.ireturn, 1) := dk_7 db_179
theorem dX6_alter_17 : decode cX6_alter 17 = .ok (.iload_n 2, 1) := dk_8 db_179
theorem dX6_alter_18 : decode cX6_alter 18 = .ok (.ifCond .ne 32, 3) := dk_9 db_179
theorem dX6_alter_21 : decode cX6_alter 21 = .ok (.iload_n 3, 1) := dk_10 db_179
theorem dX6_alter_22 : decode cX6_alter 22 = .ok (.iconst 4, 1) := dk_11 db_179
theorem dX6_alter_23 : decode cX6_alter 23 = .ok (.if_icmp .ge 27, 3) := dk_12 db_179
theorem dX6_alter_26 : decode cX6_alter 26 = .ok (.aload_n 0, 1) := dk_13 db_179
theorem dX6_alter_27 : decode cX6_alter 27 = .ok (.getfield 10, 3) := dk_14 db_179
theorem dX6_alter_30 : decode cX6_alter 30 = .ok (.getfield 115, 3) := dk_15 db_179
theorem db_180 : fd_G cX6_alter 33 [(33, .iload_n 1, 1), (34, .iaload, 1), (35, .istore 4, 2), (37, .aload_n 0, 1), (38, .getfield 10, 3), (41, .getfield 115, 3), (44, .iload_n 1, 1), (45, .iload_n 3, 1), (46, .iastore, 1), (47, .iload 4, 2), (49, .ireturn, 1), (50, .iload_n 2, 1), (51, .iconst 1, 1), (52, .if_icmp .ne 33, 3), (55, .iload_n 3, 1), (56, .bipush 40, 2)] = true := by decide +kernel
theorem dX6_alter_33 : decode cX6_alter 33 = .ok (.iload_n 1, 1) := dk_0 db_180
theorem dX6_alter_34 : decode cX6_alter 34 = .ok (.iaload, 1) := dk_1 db_180
theorem dX6_alter_35 : decode cX6_alter 35 = .ok (.istore 4, 2) := dk_2 db_180
theorem dX6_alter_37 : decode cX6_alter 37 = .ok (.aload_n 0, 1) := dk_3 db_180
theorem dX6_alter_38 : decode cX6_alter 38 = .ok (.getfield 10, 3) := dk_4 db_180
theorem dX6_alter_41 : decode cX6_alter 41 = .ok (.getfield 115, 3) := dk_5 db_180
theorem dX6_alter_44 : decode cX6_alter 44 = .ok (.iload_n 1, 1) := dk_6 db_180
theorem dX6_alter_45 : decode cX6_alter 45 = .ok (.iload_n 3, 1) := dk_7 db_180
theorem dX6_alter_46 : decode cX6_alter 46 = .ok (.iastore, 1) := dk_8 db_180
theorem dX6_alter_47 : decode cX6_alter 47 = .ok (.iload 4, 2) := dk_9 db_180
theorem dX6_alter_49 : decode cX6_alter 49 = .ok (.ireturn, 1) := dk_10 db_180
theorem dX6_alter_50 : decode cX6_alter 50 = .ok (.iload_n 2, 1) := dk_11 db_180
theorem dX6_alter_51 : decode cX6_alter 51 = .ok (.iconst 1, 1) := dk_12 db_180
theorem dX6_alter_52 : decode cX6_alter 52 = .ok (.if_icmp .ne 33, 3) := dk_13 db_180
theorem dX6_alter_55 : decode cX6_alter 55 = .ok (.iload_n 3, 1) := dk_14 db_180
theorem dX6_alter_56 : decode cX6_alter 56 = .ok (.bipush 40, 2) := dk_15 db_180
theorem db_181 : fd_G cX6_alter 58 [(58, .if_icmp .gt 27, 3), (61, .aload_n 0, 1), (62, .getfield 10, 3), (65, .getfield 118, 3), (68, .iload_n 1, 1), (69, .iaload, 1), (70, .istore 4, 2), (72, .aload_n 0, 1), (73, .getfield 10, 3), (76, .getfield 118, 3), (79, .iload_n 1, 1), (80, .iload_n 3, 1), (81, .iastore, 1), (82, .iload 4, 2), (84, .ireturn, 1), (85, .iconst (-1), 1)] = true := by decide +kernel
theorem dX6_alter_58 : decode cX6_alter 58 = .ok (.if_icmp .gt 27, 3) := dk_0 db_181
theorem dX6_alter_61 : decode cX6_alter 61 = .ok (.aload_n 0, 1) := dk_1 db_181
theorem dX6_alter_62 : decode cX6_alter 62 = .ok (.getfield 10, 3) := dk_2 db_181
theorem dX6_alter_65 : decode cX6_alter 65 = .ok (.getfield 118, 3) := dk_3 db_181
theorem dX6_alter_68 : decode cX6_alter 68 = .ok (.iload_n 1, 1) := dk_4 db_181
theorem dX6_alter_69 : decode cX6_alter 69 = .ok (.iaload, 1) := dk_5 db_181
theorem dX6_alter_70 : decode cX6_alter 70 = .ok (.istore 4, 2) := dk_6 db_181
theorem dX6_alter_72 : decode cX6_alter 72 = .ok (.aload_n 0, 1) := dk_7 db_181
theorem dX6_alter_73 : decode cX6_alter 73 = .ok (.getfield 10, 3) := dk_8 db_181
theorem dX6_alter_76 : decode cX6_alter 76 = .ok (.getfield 118, 3) := dk_9 db_181
theorem dX6_alter_79 : decode cX6_alter 79 = .ok (.iload_n 1, 1) := dk_10 db_181
theorem dX6_alter_80 : decode cX6_alter 80 = .ok (.iload_n 3, 1) := dk_11 db_181
theorem dX6_alter_81 : decode cX6_alter 81 = .ok (.iastore, 1) := dk_12 db_181
theorem dX6_alter_82 : decode cX6_alter 82 = .ok (.iload 4, 2) := dk_13 db_181
theorem dX6_alter_84 : decode cX6_alter 84 = .ok (.ireturn, 1) := dk_14 db_181
theorem dX6_alter_85 : decode cX6_alter 85 = .ok (.iconst (-1), 1) := dk_15 db_181
theorem db_182 : fd_G cX6_alter 86 [(86, .ireturn, 1)] = true := by decide +kernel
theorem dX6_alter_86 : decode cX6_alter 86 = .ok (.ireturn, 1) := dk_0 db_182
theorem db_183 : fd_G cX6_room 0 [(0, .iload_n 1, 1), (1, .iconst 1, 1), (2, .if_icmp .lt 8, 3), (5, .iload_n 1, 1), (6, .iconst 5, 1), (7, .if_icmp .le 5, 3), (10, .iconst (-1), 1), (11, .ireturn, 1), (12, .aload_n 0, 1), (13, .getfield 10, 3), (16, .getfield 97, 3), (19, .istore_n 2, 1), (20, .aload_n 0, 1), (21, .getfield 10, 3), (24, .iload_n 1, 1), (25, .putfield 97, 3)] = true := by decide +kernel
theorem dX6_room_0 : decode cX6_room 0 = .ok (.iload_n 1, 1) := dk_0 db_183
theorem dX6_room_1 : decode cX6_room 1 = .ok (.iconst 1, 1) := dk_1 db_183
theorem dX6_room_2 : decode cX6_room 2 = .ok (.if_icmp .lt 8, 3) := dk_2 db_183
theorem dX6_room_5 : decode cX6_room 5 = .ok (.iload_n 1, 1) := dk_3 db_183
theorem dX6_room_6 : decode cX6_room 6 = .ok (.iconst 5, 1) := dk_4 db_183
theorem dX6_room_7 : decode cX6_room 7 = .ok (.if_icmp .le 5, 3) := dk_5 db_183
theorem dX6_room_10 : decode cX6_room 10 = .ok (.iconst (-1), 1) := dk_6 db_183
theorem dX6_room_11 : decode cX6_room 11 = .ok (.ireturn, 1) := dk_7 db_183
theorem dX6_room_12 : decode cX6_room 12 = .ok (.aload_n 0, 1) := dk_8 db_183
theorem dX6_room_13 : decode cX6_room 13 = .ok (.getfield 10, 3) := dk_9 db_183
theorem dX6_room_16 : decode cX6_room 16 = .ok (.getfield 97, 3) := dk_10 db_183
theorem dX6_room_19 : decode cX6_room 19 = .ok (.istore_n 2, 1) := dk_11 db_183
theorem dX6_room_20 : decode cX6_room 20 = .ok (.aload_n 0, 1) := dk_12 db_183
theorem dX6_room_21 : decode cX6_room 21 = .ok (.getfield 10, 3) := dk_13 db_183
theorem dX6_room_24 : decode cX6_room 24 = .ok (.iload_n 1, 1) := dk_14 db_183
theorem dX6_room_25 : decode cX6_room 25 = .ok (.putfield 97, 3) := dk_15 db_183
theorem db_184 : fd_G cX6_room 28 [(28, .iload_n 2, 1), (29, .ireturn, 1)] = true := by decide +kernel
theorem dX6_room_28 : decode cX6_room 28 = .ok (.iload_n 2, 1) := dk_0 db_184
theorem dX6_room_29 : decode cX6_room 29 = .ok (.ireturn, 1) := dk_1 db_184
theorem db_185 : fd_G cX6_think 0 [(0, .iload_n 1, 1), (1, .iconst 1, 1), (2, .if_icmp .lt 9, 3), (5, .iload_n 1, 1), (6, .bipush 9, 2), (8, .if_icmp .le 5, 3), (11, .iconst (-1), 1), (12, .ireturn, 1), (13, .aload_n 0, 1), (14, .getfield 10, 3), (17, .getfield 100, 3), (20, .istore_n 2, 1), (21, .aload_n 0, 1), (22, .getfield 10, 3), (25, .iload_n 1, 1), (26, .putfield 100, 3)] = true := by decide +kernel
theorem dX6_think_0 : decode cX6_think 0 = .ok (.iload_n 1, 1) := dk_0 db_185
theorem dX6_think_1 : decode cX6_think 1 = .ok (.iconst 1, 1) := dk_1 db_185
theorem dX6_think_2 : decode cX6_think 2 = .ok (.if_icmp .lt 9, 3) := dk_2 db_185
theorem dX6_think_5 : decode cX6_think 5 = .ok (.iload_n 1, 1) := dk_3 db_185
theorem dX6_think_6 : decode cX6_think 6 = .ok (.bipush 9, 2) := dk_4 db_185
theorem dX6_think_8 : decode cX6_think 8 = .ok (.if_icmp .le 5, 3) := dk_5 db_185
theorem dX6_think_11 : decode cX6_think 11 = .ok (.iconst (-1), 1) := dk_6 db_185
theorem dX6_think_12 : decode cX6_think 12 = .ok (.ireturn, 1) := dk_7 db_185
theorem dX6_think_13 : decode cX6_think 13 = .ok (.aload_n 0, 1) := dk_8 db_185
theorem dX6_think_14 : decode cX6_think 14 = .ok (.getfield 10, 3) := dk_9 db_185
theorem dX6_think_17 : decode cX6_think 17 = .ok (.getfield 100, 3) := dk_10 db_185
theorem dX6_think_20 : decode cX6_think 20 = .ok (.istore_n 2, 1) := dk_11 db_185
theorem dX6_think_21 : decode cX6_think 21 = .ok (.aload_n 0, 1) := dk_12 db_185
theorem dX6_think_22 : decode cX6_think 22 = .ok (.getfield 10, 3) := dk_13 db_185
theorem dX6_think_25 : decode cX6_think 25 = .ok (.iload_n 1, 1) := dk_14 db_185
theorem dX6_think_26 : decode cX6_think 26 = .ok (.putfield 100, 3) := dk_15 db_185
theorem db_186 : fd_G cX6_think 29 [(29, .iload_n 2, 1), (30, .ireturn, 1)] = true := by decide +kernel
theorem dX6_think_29 : decode cX6_think 29 = .ok (.iload_n 2, 1) := dk_0 db_186
theorem dX6_think_30 : decode cX6_think 30 = .ok (.ireturn, 1) := dk_1 db_186
theorem db_187 : fd_G cX6_plan 0 [(0, .aload_n 0, 1), (1, .getfield 10, 3), (4, .iload_n 1, 1), (5, .invokevirtual 137, 3), (8, .ifCond .ne 5, 3), (11, .iconst (-1), 1), (12, .ireturn, 1), (13, .aload_n 0, 1), (14, .getfield 10, 3), (17, .iload_n 1, 1), (18, .invokevirtual 140, 3), (21, .ifCond .eq 13, 3), (24, .aload_n 0, 1), (25, .getfield 10, 3), (28, .getfield 103, 3), (31, .goto 5, 3)] = true := by decide +kernel
theorem dX6_plan_0 : decode cX6_plan 0 = .ok (.aload_n 0, 1) := dk_0 db_187
theorem dX6_plan_1 : decode cX6_plan 1 = .ok (.getfield 10, 3) := dk_1 db_187
theorem dX6_plan_4 : decode cX6_plan 4 = .ok (.iload_n 1, 1) := dk_2 db_187
theorem dX6_plan_5 : decode cX6_plan 5 = .ok (.invokevirtual 137, 3) := dk_3 db_187
theorem dX6_plan_8 : decode cX6_plan 8 = .ok (.ifCond .ne 5, 3) := dk_4 db_187
theorem dX6_plan_11 : decode cX6_plan 11 = .ok (.iconst (-1), 1) := dk_5 db_187
theorem dX6_plan_12 : decode cX6_plan 12 = .ok (.ireturn, 1) := dk_6 db_187
theorem dX6_plan_13 : decode cX6_plan 13 = .ok (.aload_n 0, 1) := dk_7 db_187
theorem dX6_plan_14 : decode cX6_plan 14 = .ok (.getfield 10, 3) := dk_8 db_187
theorem dX6_plan_17 : decode cX6_plan 17 = .ok (.iload_n 1, 1) := dk_9 db_187
theorem dX6_plan_18 : decode cX6_plan 18 = .ok (.invokevirtual 140, 3) := dk_10 db_187
theorem dX6_plan_21 : decode cX6_plan 21 = .ok (.ifCond .eq 13, 3) := dk_11 db_187
theorem dX6_plan_24 : decode cX6_plan 24 = .ok (.aload_n 0, 1) := dk_12 db_187
theorem dX6_plan_25 : decode cX6_plan 25 = .ok (.getfield 10, 3) := dk_13 db_187
theorem dX6_plan_28 : decode cX6_plan 28 = .ok (.getfield 103, 3) := dk_14 db_187
theorem dX6_plan_31 : decode cX6_plan 31 = .ok (.goto 5, 3) := dk_15 db_187
theorem db_188 : fd_G cX6_plan 34 [(34, .bipush (-3), 2), (36, .ireturn, 1)] = true := by decide +kernel
theorem dX6_plan_34 : decode cX6_plan 34 = .ok (.bipush (-3), 2) := dk_0 db_188
theorem dX6_plan_36 : decode cX6_plan 36 = .ok (.ireturn, 1) := dk_1 db_188
theorem db_189 : fd_G cX6_cut 0 [(0, .iload_n 1, 1), (1, .ifCond .lt 14, 3), (4, .iload_n 1, 1), (5, .aload_n 0, 1), (6, .getfield 10, 3), (9, .getfield 103, 3), (12, .if_icmp .le 5, 3), (15, .iconst (-1), 1), (16, .ireturn, 1), (17, .aload_n 0, 1), (18, .getfield 10, 3), (21, .getfield 103, 3), (24, .istore_n 2, 1), (25, .aload_n 0, 1), (26, .getfield 10, 3), (29, .iload_n 1, 1)] = true := by decide +kernel
theorem dX6_cut_0 : decode cX6_cut 0 = .ok (.iload_n 1, 1) := dk_0 db_189
theorem dX6_cut_1 : decode cX6_cut 1 = .ok (.ifCond .lt 14, 3) := dk_1 db_189
theorem dX6_cut_4 : decode cX6_cut 4 = .ok (.iload_n 1, 1) := dk_2 db_189
theorem dX6_cut_5 : decode cX6_cut 5 = .ok (.aload_n 0, 1) := dk_3 db_189
theorem dX6_cut_6 : decode cX6_cut 6 = .ok (.getfield 10, 3) := dk_4 db_189
theorem dX6_cut_9 : decode cX6_cut 9 = .ok (.getfield 103, 3) := dk_5 db_189
theorem dX6_cut_12 : decode cX6_cut 12 = .ok (.if_icmp .le 5, 3) := dk_6 db_189
theorem dX6_cut_15 : decode cX6_cut 15 = .ok (.iconst (-1), 1) := dk_7 db_189
theorem dX6_cut_16 : decode cX6_cut 16 = .ok (.ireturn, 1) := dk_8 db_189
theorem dX6_cut_17 : decode cX6_cut 17 = .ok (.aload_n 0, 1) := dk_9 db_189
theorem dX6_cut_18 : decode cX6_cut 18 = .ok (.getfield 10, 3) := dk_10 db_189
theorem dX6_cut_21 : decode cX6_cut 21 = .ok (.getfield 103, 3) := dk_11 db_189
theorem dX6_cut_24 : decode cX6_cut 24 = .ok (.istore_n 2, 1) := dk_12 db_189
theorem dX6_cut_25 : decode cX6_cut 25 = .ok (.aload_n 0, 1) := dk_13 db_189
theorem dX6_cut_26 : decode cX6_cut 26 = .ok (.getfield 10, 3) := dk_14 db_189
theorem dX6_cut_29 : decode cX6_cut 29 = .ok (.iload_n 1, 1) := dk_15 db_189
theorem db_190 : fd_G cX6_cut 30 [(30, .putfield 103, 3), (33, .iload_n 2, 1), (34, .ireturn, 1)] = true := by decide +kernel
theorem dX6_cut_30 : decode cX6_cut 30 = .ok (.putfield 103, 3) := dk_0 db_190
theorem dX6_cut_33 : decode cX6_cut 33 = .ok (.iload_n 2, 1) := dk_1 db_190
theorem dX6_cut_34 : decode cX6_cut 34 = .ok (.ireturn, 1) := dk_2 db_190
theorem db_191 : fd_G cX6_thinks 0 [(0, .aload_n 0, 1), (1, .getfield 10, 3), (4, .iload_n 1, 1), (5, .invokevirtual 112, 3), (8, .ifCond .ne 5, 3), (11, .iconst (-1), 1), (12, .ireturn, 1), (13, .aload_n 0, 1), (14, .getfield 10, 3), (17, .iload_n 1, 1), (18, .invokevirtual 128, 3), (21, .ifCond .eq 14, 3), (24, .aload_n 0, 1), (25, .getfield 10, 3), (28, .iload_n 1, 1), (29, .invokevirtual 143, 3)] = true := by decide +kernel
theorem dX6_thinks_0 : decode cX6_thinks 0 = .ok (.aload_n 0, 1) := dk_0 db_191
theorem dX6_thinks_1 : decode cX6_thinks 1 = .ok (.getfield 10, 3) := dk_1 db_191
theorem dX6_thinks_4 : decode cX6_thinks 4 = .ok (.iload_n 1, 1) := dk_2 db_191
theorem dX6_thinks_5 : decode cX6_thinks 5 = .ok (.invokevirtual 112, 3) := dk_3 db_191
theorem dX6_thinks_8 : decode cX6_thinks 8 = .ok (.ifCond .ne 5, 3) := dk_4 db_191
theorem dX6_thinks_11 : decode cX6_thinks 11 = .ok (.iconst (-1), 1) := dk_5 db_191
theorem dX6_thinks_12 : decode cX6_thinks 12 = .ok (.ireturn, 1) := dk_6 db_191
theorem dX6_thinks_13 : decode cX6_thinks 13 = .ok (.aload_n 0, 1) := dk_7 db_191
theorem dX6_thinks_14 : decode cX6_thinks 14 = .ok (.getfield 10, 3) := dk_8 db_191
theorem dX6_thinks_17 : decode cX6_thinks 17 = .ok (.iload_n 1, 1) := dk_9 db_191
theorem dX6_thinks_18 : decode cX6_thinks 18 = .ok (.invokevirtual 128, 3) := dk_10 db_191
theorem dX6_thinks_21 : decode cX6_thinks 21 = .ok (.ifCond .eq 14, 3) := dk_11 db_191
theorem dX6_thinks_24 : decode cX6_thinks 24 = .ok (.aload_n 0, 1) := dk_12 db_191
theorem dX6_thinks_25 : decode cX6_thinks 25 = .ok (.getfield 10, 3) := dk_13 db_191
theorem dX6_thinks_28 : decode cX6_thinks 28 = .ok (.iload_n 1, 1) := dk_14 db_191
theorem dX6_thinks_29 : decode cX6_thinks 29 = .ok (.invokevirtual 143, 3) := dk_15 db_191
theorem db_192 : fd_G cX6_thinks 32 [(32, .goto 5, 3), (35, .bipush (-2), 2), (37, .ireturn, 1)] = true := by decide +kernel
theorem dX6_thinks_32 : decode cX6_thinks 32 = .ok (.goto 5, 3) := dk_0 db_192
theorem dX6_thinks_35 : decode cX6_thinks 35 = .ok (.bipush (-2), 2) := dk_1 db_192
theorem dX6_thinks_37 : decode cX6_thinks 37 = .ok (.ireturn, 1) := dk_2 db_192
theorem db_193 : fd_G cX6_minutes 0 [(0, .iload_n 1, 1), (1, .ifCond .lt 9, 3), (4, .iload_n 1, 1), (5, .bipush 60, 2), (7, .if_icmp .le 5, 3), (10, .iconst (-1), 1), (11, .ireturn, 1), (12, .iconst 0, 1), (13, .istore_n 2, 1), (14, .iload_n 2, 1), (15, .iload_n 1, 1), (16, .if_icmp .ge 16, 3), (19, .aload_n 0, 1), (20, .getfield 10, 3), (23, .invokevirtual 146, 3), (26, .iinc 2 1, 3)] = true := by decide +kernel
theorem dX6_minutes_0 : decode cX6_minutes 0 = .ok (.iload_n 1, 1) := dk_0 db_193
theorem dX6_minutes_1 : decode cX6_minutes 1 = .ok (.ifCond .lt 9, 3) := dk_1 db_193
theorem dX6_minutes_4 : decode cX6_minutes 4 = .ok (.iload_n 1, 1) := dk_2 db_193
theorem dX6_minutes_5 : decode cX6_minutes 5 = .ok (.bipush 60, 2) := dk_3 db_193
theorem dX6_minutes_7 : decode cX6_minutes 7 = .ok (.if_icmp .le 5, 3) := dk_4 db_193
theorem dX6_minutes_10 : decode cX6_minutes 10 = .ok (.iconst (-1), 1) := dk_5 db_193
theorem dX6_minutes_11 : decode cX6_minutes 11 = .ok (.ireturn, 1) := dk_6 db_193
theorem dX6_minutes_12 : decode cX6_minutes 12 = .ok (.iconst 0, 1) := dk_7 db_193
theorem dX6_minutes_13 : decode cX6_minutes 13 = .ok (.istore_n 2, 1) := dk_8 db_193
theorem dX6_minutes_14 : decode cX6_minutes 14 = .ok (.iload_n 2, 1) := dk_9 db_193
theorem dX6_minutes_15 : decode cX6_minutes 15 = .ok (.iload_n 1, 1) := dk_10 db_193
theorem dX6_minutes_16 : decode cX6_minutes 16 = .ok (.if_icmp .ge 16, 3) := dk_11 db_193
theorem dX6_minutes_19 : decode cX6_minutes 19 = .ok (.aload_n 0, 1) := dk_12 db_193
theorem dX6_minutes_20 : decode cX6_minutes 20 = .ok (.getfield 10, 3) := dk_13 db_193
theorem dX6_minutes_23 : decode cX6_minutes 23 = .ok (.invokevirtual 146, 3) := dk_14 db_193
theorem dX6_minutes_26 : decode cX6_minutes 26 = .ok (.iinc 2 1, 3) := dk_15 db_193
theorem db_194 : fd_G cX6_minutes 29 [(29, .goto (-15), 3), (32, .aload_n 0, 1), (33, .getfield 10, 3), (36, .invokevirtual 109, 3), (39, .ireturn, 1)] = true := by decide +kernel
theorem dX6_minutes_29 : decode cX6_minutes 29 = .ok (.goto (-15), 3) := dk_0 db_194
theorem dX6_minutes_32 : decode cX6_minutes 32 = .ok (.aload_n 0, 1) := dk_1 db_194
theorem dX6_minutes_33 : decode cX6_minutes 33 = .ok (.getfield 10, 3) := dk_2 db_194
theorem dX6_minutes_36 : decode cX6_minutes 36 = .ok (.invokevirtual 109, 3) := dk_3 db_194
theorem dX6_minutes_39 : decode cX6_minutes 39 = .ok (.ireturn, 1) := dk_4 db_194
theorem db_195 : fd_G cX6_tram 0 [(0, .aload_n 0, 1), (1, .getfield 10, 3), (4, .invokevirtual 149, 3), (7, .ireturn, 1)] = true := by decide +kernel
theorem dX6_tram_0 : decode cX6_tram 0 = .ok (.aload_n 0, 1) := dk_0 db_195
theorem dX6_tram_1 : decode cX6_tram 1 = .ok (.getfield 10, 3) := dk_1 db_195
theorem dX6_tram_4 : decode cX6_tram 4 = .ok (.invokevirtual 149, 3) := dk_2 db_195
theorem dX6_tram_7 : decode cX6_tram 7 = .ok (.ireturn, 1) := dk_3 db_195
theorem db_196 : fd_G cX6_joy 0 [(0, .aload_n 0, 1), (1, .getfield 10, 3), (4, .iload_n 1, 1), (5, .invokevirtual 112, 3), (8, .ifCond .ne 5, 3), (11, .iconst (-1), 1), (12, .ireturn, 1), (13, .aload_n 0, 1), (14, .getfield 10, 3), (17, .iload_n 1, 1), (18, .invokevirtual 128, 3), (21, .ifCond .ne 6, 3), (24, .bipush (-2), 2), (26, .ireturn, 1), (27, .aload_n 0, 1), (28, .getfield 10, 3)] = true := by decide +kernel
theorem dX6_joy_0 : decode cX6_joy 0 = .ok (.aload_n 0, 1) := dk_0 db_196
theorem dX6_joy_1 : decode cX6_joy 1 = .ok (.getfield 10, 3) := dk_1 db_196
theorem dX6_joy_4 : decode cX6_joy 4 = .ok (.iload_n 1, 1) := dk_2 db_196
theorem dX6_joy_5 : decode cX6_joy 5 = .ok (.invokevirtual 112, 3) := dk_3 db_196
theorem dX6_joy_8 : decode cX6_joy 8 = .ok (.ifCond .ne 5, 3) := dk_4 db_196
theorem dX6_joy_11 : decode cX6_joy 11 = .ok (.iconst (-1), 1) := dk_5 db_196
theorem dX6_joy_12 : decode cX6_joy 12 = .ok (.ireturn, 1) := dk_6 db_196
theorem dX6_joy_13 : decode cX6_joy 13 = .ok (.aload_n 0, 1) := dk_7 db_196
theorem dX6_joy_14 : decode cX6_joy 14 = .ok (.getfield 10, 3) := dk_8 db_196
theorem dX6_joy_17 : decode cX6_joy 17 = .ok (.iload_n 1, 1) := dk_9 db_196
theorem dX6_joy_18 : decode cX6_joy 18 = .ok (.invokevirtual 128, 3) := dk_10 db_196
theorem dX6_joy_21 : decode cX6_joy 21 = .ok (.ifCond .ne 6, 3) := dk_11 db_196
theorem dX6_joy_24 : decode cX6_joy 24 = .ok (.bipush (-2), 2) := dk_12 db_196
theorem dX6_joy_26 : decode cX6_joy 26 = .ok (.ireturn, 1) := dk_13 db_196
theorem dX6_joy_27 : decode cX6_joy 27 = .ok (.aload_n 0, 1) := dk_14 db_196
theorem dX6_joy_28 : decode cX6_joy 28 = .ok (.getfield 10, 3) := dk_15 db_196
theorem db_197 : fd_G cX6_joy 31 [(31, .getfield 118, 3), (34, .iload_n 1, 1), (35, .iaload, 1), (36, .istore_n 2, 1), (37, .aload_n 0, 1), (38, .getfield 10, 3), (41, .getfield 118, 3), (44, .iload_n 1, 1), (45, .iconst 0, 1), (46, .iastore, 1), (47, .aload_n 0, 1), (48, .getfield 10, 3), (51, .getfield 152, 3), (54, .iload_n 1, 1), (55, .iconst (-1), 1), (56, .iastore, 1)] = true := by decide +kernel
theorem dX6_joy_31 : decode cX6_joy 31 = .ok (.getfield 118, 3) := dk_0 db_197
theorem dX6_joy_34 : decode cX6_joy 34 = .ok (.iload_n 1, 1) := dk_1 db_197
theorem dX6_joy_35 : decode cX6_joy 35 = .ok (.iaload, 1) := dk_2 db_197
theorem dX6_joy_36 : decode cX6_joy 36 = .ok (.istore_n 2, 1) := dk_3 db_197
theorem dX6_joy_37 : decode cX6_joy 37 = .ok (.aload_n 0, 1) := dk_4 db_197
theorem dX6_joy_38 : decode cX6_joy 38 = .ok (.getfield 10, 3) := dk_5 db_197
theorem dX6_joy_41 : decode cX6_joy 41 = .ok (.getfield 118, 3) := dk_6 db_197
theorem dX6_joy_44 : decode cX6_joy 44 = .ok (.iload_n 1, 1) := dk_7 db_197
theorem dX6_joy_45 : decode cX6_joy 45 = .ok (.iconst 0, 1) := dk_8 db_197
theorem dX6_joy_46 : decode cX6_joy 46 = .ok (.iastore, 1) := dk_9 db_197
theorem dX6_joy_47 : decode cX6_joy 47 = .ok (.aload_n 0, 1) := dk_10 db_197
theorem dX6_joy_48 : decode cX6_joy 48 = .ok (.getfield 10, 3) := dk_11 db_197
theorem dX6_joy_51 : decode cX6_joy 51 = .ok (.getfield 152, 3) := dk_12 db_197
theorem dX6_joy_54 : decode cX6_joy 54 = .ok (.iload_n 1, 1) := dk_13 db_197
theorem dX6_joy_55 : decode cX6_joy 55 = .ok (.iconst (-1), 1) := dk_14 db_197
theorem dX6_joy_56 : decode cX6_joy 56 = .ok (.iastore, 1) := dk_15 db_197
theorem db_198 : fd_G cX6_joy 57 [(57, .iload_n 2, 1), (58, .ireturn, 1)] = true := by decide +kernel
theorem dX6_joy_57 : decode cX6_joy 57 = .ok (.iload_n 2, 1) := dk_0 db_198
theorem dX6_joy_58 : decode cX6_joy 58 = .ok (.ireturn, 1) := dk_1 db_198
theorem db_199 : fd_G cX6_second 0 [(0, .aload_n 0, 1), (1, .getfield 10, 3), (4, .getfield 155, 3), (7, .invokestatic 158, 3), (10, .istore_n 1, 1), (11, .aload_n 0, 1), (12, .getfield 10, 3), (15, .iconst 0, 1), (16, .putfield 155, 3), (19, .iload_n 1, 1), (20, .ireturn, 1)] = true := by decide +kernel
theorem dX6_second_0 : decode cX6_second 0 = .ok (.aload_n 0, 1) := dk_0 db_199
theorem dX6_second_1 : decode cX6_second 1 = .ok (.getfield 10, 3) := dk_1 db_199
theorem dX6_second_4 : decode cX6_second 4 = .ok (.getfield 155, 3) := dk_2 db_199
theorem dX6_second_7 : decode cX6_second 7 = .ok (.invokestatic 158, 3) := dk_3 db_199
theorem dX6_second_10 : decode cX6_second 10 = .ok (.istore_n 1, 1) := dk_4 db_199
theorem dX6_second_11 : decode cX6_second 11 = .ok (.aload_n 0, 1) := dk_5 db_199
theorem dX6_second_12 : decode cX6_second 12 = .ok (.getfield 10, 3) := dk_6 db_199
theorem dX6_second_15 : decode cX6_second 15 = .ok (.iconst 0, 1) := dk_7 db_199
theorem dX6_second_16 : decode cX6_second 16 = .ok (.putfield 155, 3) := dk_8 db_199
theorem dX6_second_19 : decode cX6_second 19 = .ok (.iload_n 1, 1) := dk_9 db_199
theorem dX6_second_20 : decode cX6_second 20 = .ok (.ireturn, 1) := dk_10 db_199
theorem db_200 : fd_G cX6_runs 0 [(0, .iload_n 1, 1), (1, .ifCond .lt 8, 3), (4, .iload_n 1, 1), (5, .iconst 4, 1), (6, .if_icmp .le 5, 3), (9, .iconst (-1), 1), (10, .ireturn, 1), (11, .aload_n 0, 1), (12, .getfield 16, 3), (15, .aload_n 0, 1), (16, .getfield 10, 3), (19, .invokevirtual 163, 3), (22, .aload_n 0, 1), (23, .getfield 16, 3), (26, .invokevirtual 166, 3), (29, .iload_n 1, 1)] = true := by decide +kernel
theorem dX6_runs_0 : decode cX6_runs 0 = .ok (.iload_n 1, 1) := dk_0 db_200
theorem dX6_runs_1 : decode cX6_runs 1 = .ok (.ifCond .lt 8, 3) := dk_1 db_200
theorem dX6_runs_4 : decode cX6_runs 4 = .ok (.iload_n 1, 1) := dk_2 db_200
theorem dX6_runs_5 : decode cX6_runs 5 = .ok (.iconst 4, 1) := dk_3 db_200
theorem dX6_runs_6 : decode cX6_runs 6 = .ok (.if_icmp .le 5, 3) := dk_4 db_200
theorem dX6_runs_9 : decode cX6_runs 9 = .ok (.iconst (-1), 1) := dk_5 db_200
theorem dX6_runs_10 : decode cX6_runs 10 = .ok (.ireturn, 1) := dk_6 db_200
theorem dX6_runs_11 : decode cX6_runs 11 = .ok (.aload_n 0, 1) := dk_7 db_200
theorem dX6_runs_12 : decode cX6_runs 12 = .ok (.getfield 16, 3) := dk_8 db_200
theorem dX6_runs_15 : decode cX6_runs 15 = .ok (.aload_n 0, 1) := dk_9 db_200
theorem dX6_runs_16 : decode cX6_runs 16 = .ok (.getfield 10, 3) := dk_10 db_200
theorem dX6_runs_19 : decode cX6_runs 19 = .ok (.invokevirtual 163, 3) := dk_11 db_200
theorem dX6_runs_22 : decode cX6_runs 22 = .ok (.aload_n 0, 1) := dk_12 db_200
theorem dX6_runs_23 : decode cX6_runs 23 = .ok (.getfield 16, 3) := dk_13 db_200
theorem dX6_runs_26 : decode cX6_runs 26 = .ok (.invokevirtual 166, 3) := dk_14 db_200
theorem dX6_runs_29 : decode cX6_runs 29 = .ok (.iload_n 1, 1) := dk_15 db_200
theorem dX6_runs_30 : decode cX6_runs 30 = .ok (.tableswitch 62 0 3 #[30, 38, 46, 54], 30) := by decide +kernel
theorem db_201 : fd_G cX6_runs 60 [(60, .aload_n 0, 1), (61, .getfield 16, 3), (64, .getfield 155, 3), (67, .ireturn, 1), (68, .aload_n 0, 1), (69, .getfield 16, 3), (72, .getfield 169, 3), (75, .ireturn, 1), (76, .aload_n 0, 1), (77, .getfield 16, 3), (80, .getfield 172, 3), (83, .ireturn, 1), (84, .aload_n 0, 1), (85, .getfield 16, 3), (88, .getfield 175, 3), (91, .ireturn, 1)] = true := by decide +kernel
theorem dX6_runs_60 : decode cX6_runs 60 = .ok (.aload_n 0, 1) := dk_0 db_201
theorem dX6_runs_61 : decode cX6_runs 61 = .ok (.getfield 16, 3) := dk_1 db_201
theorem dX6_runs_64 : decode cX6_runs 64 = .ok (.getfield 155, 3) := dk_2 db_201
theorem dX6_runs_67 : decode cX6_runs 67 = .ok (.ireturn, 1) := dk_3 db_201
theorem dX6_runs_68 : decode cX6_runs 68 = .ok (.aload_n 0, 1) := dk_4 db_201
theorem dX6_runs_69 : decode cX6_runs 69 = .ok (.getfield 16, 3) := dk_5 db_201
theorem dX6_runs_72 : decode cX6_runs 72 = .ok (.getfield 169, 3) := dk_6 db_201
theorem dX6_runs_75 : decode cX6_runs 75 = .ok (.ireturn, 1) := dk_7 db_201
theorem dX6_runs_76 : decode cX6_runs 76 = .ok (.aload_n 0, 1) := dk_8 db_201
theorem dX6_runs_77 : decode cX6_runs 77 = .ok (.getfield 16, 3) := dk_9 db_201
theorem dX6_runs_80 : decode cX6_runs 80 = .ok (.getfield 172, 3) := dk_10 db_201
theorem dX6_runs_83 : decode cX6_runs 83 = .ok (.ireturn, 1) := dk_11 db_201
theorem dX6_runs_84 : decode cX6_runs 84 = .ok (.aload_n 0, 1) := dk_12 db_201
theorem dX6_runs_85 : decode cX6_runs 85 = .ok (.getfield 16, 3) := dk_13 db_201
theorem dX6_runs_88 : decode cX6_runs 88 = .ok (.getfield 175, 3) := dk_14 db_201
theorem dX6_runs_91 : decode cX6_runs 91 = .ok (.ireturn, 1) := dk_15 db_201
theorem db_202 : fd_G cX6_runs 92 [(92, .aload_n 0, 1), (93, .getfield 16, 3), (96, .invokevirtual 109, 3), (99, .ireturn, 1)] = true := by decide +kernel
theorem dX6_runs_92 : decode cX6_runs 92 = .ok (.aload_n 0, 1) := dk_0 db_202
theorem dX6_runs_93 : decode cX6_runs 93 = .ok (.getfield 16, 3) := dk_1 db_202
theorem dX6_runs_96 : decode cX6_runs 96 = .ok (.invokevirtual 109, 3) := dk_2 db_202
theorem dX6_runs_99 : decode cX6_runs 99 = .ok (.ireturn, 1) := dk_3 db_202
theorem db_203 : fd_G cX6_ahead 0 [(0, .aload_n 0, 1), (1, .getfield 10, 3), (4, .iload_n 1, 1), (5, .invokevirtual 112, 3), (8, .ifCond .eq 10, 3), (11, .iload_n 2, 1), (12, .invokestatic 178, 3), (15, .ifCond .ne 5, 3), (18, .iconst (-1), 1), (19, .ireturn, 1), (20, .aload_n 0, 1), (21, .getfield 16, 3), (24, .aload_n 0, 1), (25, .getfield 10, 3), (28, .invokevirtual 163, 3), (31, .aload_n 0, 1)] = true := by decide +kernel
theorem dX6_ahead_0 : decode cX6_ahead 0 = .ok (.aload_n 0, 1) := dk_0 db_203
theorem dX6_ahead_1 : decode cX6_ahead 1 = .ok (.getfield 10, 3) := dk_1 db_203
theorem dX6_ahead_4 : decode cX6_ahead 4 = .ok (.iload_n 1, 1) := dk_2 db_203
theorem dX6_ahead_5 : decode cX6_ahead 5 = .ok (.invokevirtual 112, 3) := dk_3 db_203
theorem dX6_ahead_8 : decode cX6_ahead 8 = .ok (.ifCond .eq 10, 3) := dk_4 db_203
theorem dX6_ahead_11 : decode cX6_ahead 11 = .ok (.iload_n 2, 1) := dk_5 db_203
theorem dX6_ahead_12 : decode cX6_ahead 12 = .ok (.invokestatic 178, 3) := dk_6 db_203
theorem dX6_ahead_15 : decode cX6_ahead 15 = .ok (.ifCond .ne 5, 3) := dk_7 db_203
theorem dX6_ahead_18 : decode cX6_ahead 18 = .ok (.iconst (-1), 1) := dk_8 db_203
theorem dX6_ahead_19 : decode cX6_ahead 19 = .ok (.ireturn, 1) := dk_9 db_203
theorem dX6_ahead_20 : decode cX6_ahead 20 = .ok (.aload_n 0, 1) := dk_10 db_203
theorem dX6_ahead_21 : decode cX6_ahead 21 = .ok (.getfield 16, 3) := dk_11 db_203
theorem dX6_ahead_24 : decode cX6_ahead 24 = .ok (.aload_n 0, 1) := dk_12 db_203
theorem dX6_ahead_25 : decode cX6_ahead 25 = .ok (.getfield 10, 3) := dk_13 db_203
theorem dX6_ahead_28 : decode cX6_ahead 28 = .ok (.invokevirtual 163, 3) := dk_14 db_203
theorem dX6_ahead_31 : decode cX6_ahead 31 = .ok (.aload_n 0, 1) := dk_15 db_203
theorem db_204 : fd_G cX6_ahead 32 [(32, .getfield 16, 3), (35, .invokevirtual 166, 3), (38, .iload_n 2, 1), (39, .ifCond .ne 15, 3), (42, .aload_n 0, 1), (43, .getfield 16, 3), (46, .getfield 118, 3), (49, .iload_n 1, 1), (50, .iaload, 1), (51, .goto 11, 3), (54, .aload_n 0, 1), (55, .getfield 16, 3), (58, .iload_n 1, 1), (59, .invokevirtual 121, 3), (62, .ireturn, 1)] = true := by decide +kernel
theorem dX6_ahead_32 : decode cX6_ahead 32 = .ok (.getfield 16, 3) := dk_0 db_204
theorem dX6_ahead_35 : decode cX6_ahead 35 = .ok (.invokevirtual 166, 3) := dk_1 db_204
theorem dX6_ahead_38 : decode cX6_ahead 38 = .ok (.iload_n 2, 1) := dk_2 db_204
theorem dX6_ahead_39 : decode cX6_ahead 39 = .ok (.ifCond .ne 15, 3) := dk_3 db_204
theorem dX6_ahead_42 : decode cX6_ahead 42 = .ok (.aload_n 0, 1) := dk_4 db_204
theorem dX6_ahead_43 : decode cX6_ahead 43 = .ok (.getfield 16, 3) := dk_5 db_204
theorem dX6_ahead_46 : decode cX6_ahead 46 = .ok (.getfield 118, 3) := dk_6 db_204
theorem dX6_ahead_49 : decode cX6_ahead 49 = .ok (.iload_n 1, 1) := dk_7 db_204
theorem dX6_ahead_50 : decode cX6_ahead 50 = .ok (.iaload, 1) := dk_8 db_204
theorem dX6_ahead_51 : decode cX6_ahead 51 = .ok (.goto 11, 3) := dk_9 db_204
theorem dX6_ahead_54 : decode cX6_ahead 54 = .ok (.aload_n 0, 1) := dk_10 db_204
theorem dX6_ahead_55 : decode cX6_ahead 55 = .ok (.getfield 16, 3) := dk_11 db_204
theorem dX6_ahead_58 : decode cX6_ahead 58 = .ok (.iload_n 1, 1) := dk_12 db_204
theorem dX6_ahead_59 : decode cX6_ahead 59 = .ok (.invokevirtual 121, 3) := dk_13 db_204
theorem dX6_ahead_62 : decode cX6_ahead 62 = .ok (.ireturn, 1) := dk_14 db_204
theorem db_205 : fd_G cX6_soon 0 [(0, .aload_n 0, 1), (1, .getfield 10, 3), (4, .iload_n 1, 1), (5, .invokevirtual 112, 3), (8, .ifCond .ne 5, 3), (11, .iconst (-1), 1), (12, .ireturn, 1), (13, .aload_n 0, 1), (14, .getfield 10, 3), (17, .iload_n 1, 1), (18, .invokevirtual 128, 3), (21, .ifCond .ne 6, 3), (24, .bipush (-4), 2), (26, .ireturn, 1), (27, .aload_n 0, 1), (28, .getfield 16, 3)] = true := by decide +kernel
theorem dX6_soon_0 : decode cX6_soon 0 = .ok (.aload_n 0, 1) := dk_0 db_205
theorem dX6_soon_1 : decode cX6_soon 1 = .ok (.getfield 10, 3) := dk_1 db_205
theorem dX6_soon_4 : decode cX6_soon 4 = .ok (.iload_n 1, 1) := dk_2 db_205
theorem dX6_soon_5 : decode cX6_soon 5 = .ok (.invokevirtual 112, 3) := dk_3 db_205
theorem dX6_soon_8 : decode cX6_soon 8 = .ok (.ifCond .ne 5, 3) := dk_4 db_205
theorem dX6_soon_11 : decode cX6_soon 11 = .ok (.iconst (-1), 1) := dk_5 db_205
theorem dX6_soon_12 : decode cX6_soon 12 = .ok (.ireturn, 1) := dk_6 db_205
theorem dX6_soon_13 : decode cX6_soon 13 = .ok (.aload_n 0, 1) := dk_7 db_205
theorem dX6_soon_14 : decode cX6_soon 14 = .ok (.getfield 10, 3) := dk_8 db_205
theorem dX6_soon_17 : decode cX6_soon 17 = .ok (.iload_n 1, 1) := dk_9 db_205
theorem dX6_soon_18 : decode cX6_soon 18 = .ok (.invokevirtual 128, 3) := dk_10 db_205
theorem dX6_soon_21 : decode cX6_soon 21 = .ok (.ifCond .ne 6, 3) := dk_11 db_205
theorem dX6_soon_24 : decode cX6_soon 24 = .ok (.bipush (-4), 2) := dk_12 db_205
theorem dX6_soon_26 : decode cX6_soon 26 = .ok (.ireturn, 1) := dk_13 db_205
theorem dX6_soon_27 : decode cX6_soon 27 = .ok (.aload_n 0, 1) := dk_14 db_205
theorem dX6_soon_28 : decode cX6_soon 28 = .ok (.getfield 16, 3) := dk_15 db_205
theorem db_206 : fd_G cX6_soon 31 [(31, .aload_n 0, 1), (32, .getfield 10, 3), (35, .invokevirtual 163, 3), (38, .iconst 0, 1), (39, .istore_n 2, 1), (40, .iload_n 2, 1), (41, .bipush 9, 2), (43, .if_icmp .gt 32, 3), (46, .aload_n 0, 1), (47, .getfield 16, 3), (50, .iconst 0, 1), (51, .invokevirtual 134, 3), (54, .iload_n 1, 1), (55, .if_icmp .ne 5, 3), (58, .iload_n 2, 1), (59, .ireturn, 1)] = true := by decide +kernel
theorem dX6_soon_31 : decode cX6_soon 31 = .ok (.aload_n 0, 1) := dk_0 db_206
theorem dX6_soon_32 : decode cX6_soon 32 = .ok (.getfield 10, 3) := dk_1 db_206
theorem dX6_soon_35 : decode cX6_soon 35 = .ok (.invokevirtual 163, 3) := dk_2 db_206
theorem dX6_soon_38 : decode cX6_soon 38 = .ok (.iconst 0, 1) := dk_3 db_206
theorem dX6_soon_39 : decode cX6_soon 39 = .ok (.istore_n 2, 1) := dk_4 db_206
theorem dX6_soon_40 : decode cX6_soon 40 = .ok (.iload_n 2, 1) := dk_5 db_206
theorem dX6_soon_41 : decode cX6_soon 41 = .ok (.bipush 9, 2) := dk_6 db_206
theorem dX6_soon_43 : decode cX6_soon 43 = .ok (.if_icmp .gt 32, 3) := dk_7 db_206
theorem dX6_soon_46 : decode cX6_soon 46 = .ok (.aload_n 0, 1) := dk_8 db_206
theorem dX6_soon_47 : decode cX6_soon 47 = .ok (.getfield 16, 3) := dk_9 db_206
theorem dX6_soon_50 : decode cX6_soon 50 = .ok (.iconst 0, 1) := dk_10 db_206
theorem dX6_soon_51 : decode cX6_soon 51 = .ok (.invokevirtual 134, 3) := dk_11 db_206
theorem dX6_soon_54 : decode cX6_soon 54 = .ok (.iload_n 1, 1) := dk_12 db_206
theorem dX6_soon_55 : decode cX6_soon 55 = .ok (.if_icmp .ne 5, 3) := dk_13 db_206
theorem dX6_soon_58 : decode cX6_soon 58 = .ok (.iload_n 2, 1) := dk_14 db_206
theorem dX6_soon_59 : decode cX6_soon 59 = .ok (.ireturn, 1) := dk_15 db_206
theorem db_207 : fd_G cX6_soon 60 [(60, .aload_n 0, 1), (61, .getfield 16, 3), (64, .iload_n 1, 1), (65, .invokevirtual 143, 3), (68, .pop, 1), (69, .iinc 2 1, 3), (72, .goto (-32), 3), (75, .bipush (-4), 2), (77, .ireturn, 1)] = true := by decide +kernel
theorem dX6_soon_60 : decode cX6_soon 60 = .ok (.aload_n 0, 1) := dk_0 db_207
theorem dX6_soon_61 : decode cX6_soon 61 = .ok (.getfield 16, 3) := dk_1 db_207
theorem dX6_soon_64 : decode cX6_soon 64 = .ok (.iload_n 1, 1) := dk_2 db_207
theorem dX6_soon_65 : decode cX6_soon 65 = .ok (.invokevirtual 143, 3) := dk_3 db_207
theorem dX6_soon_68 : decode cX6_soon 68 = .ok (.pop, 1) := dk_4 db_207
theorem dX6_soon_69 : decode cX6_soon 69 = .ok (.iinc 2 1, 3) := dk_5 db_207
theorem dX6_soon_72 : decode cX6_soon 72 = .ok (.goto (-32), 3) := dk_6 db_207
theorem dX6_soon_75 : decode cX6_soon 75 = .ok (.bipush (-4), 2) := dk_7 db_207
theorem dX6_soon_77 : decode cX6_soon 77 = .ok (.ireturn, 1) := dk_8 db_207
theorem db_208 : fd_G cX6_best 0 [(0, .iload_n 1, 1), (1, .ifCond .lt 21, 3), (4, .iload_n 1, 1), (5, .iconst 4, 1), (6, .if_icmp .gt 16, 3), (9, .iload_n 2, 1), (10, .invokestatic 178, 3), (13, .ifCond .ne 11, 3), (16, .iload_n 2, 1), (17, .bipush 10, 2), (19, .if_icmp .ge 5, 3), (22, .iconst (-1), 1), (23, .ireturn, 1), (24, .aload_n 0, 1), (25, .getfield 36, 3), (28, .aload_n 0, 1)] = true := by decide +kernel
theorem dX6_best_0 : decode cX6_best 0 = .ok (.iload_n 1, 1) := dk_0 db_208
theorem dX6_best_1 : decode cX6_best 1 = .ok (.ifCond .lt 21, 3) := dk_1 db_208
theorem dX6_best_4 : decode cX6_best 4 = .ok (.iload_n 1, 1) := dk_2 db_208
theorem dX6_best_5 : decode cX6_best 5 = .ok (.iconst 4, 1) := dk_3 db_208
theorem dX6_best_6 : decode cX6_best 6 = .ok (.if_icmp .gt 16, 3) := dk_4 db_208
theorem dX6_best_9 : decode cX6_best 9 = .ok (.iload_n 2, 1) := dk_5 db_208
theorem dX6_best_10 : decode cX6_best 10 = .ok (.invokestatic 178, 3) := dk_6 db_208
theorem dX6_best_13 : decode cX6_best 13 = .ok (.ifCond .ne 11, 3) := dk_7 db_208
theorem dX6_best_16 : decode cX6_best 16 = .ok (.iload_n 2, 1) := dk_8 db_208
theorem dX6_best_17 : decode cX6_best 17 = .ok (.bipush 10, 2) := dk_9 db_208
theorem dX6_best_19 : decode cX6_best 19 = .ok (.if_icmp .ge 5, 3) := dk_10 db_208
theorem dX6_best_22 : decode cX6_best 22 = .ok (.iconst (-1), 1) := dk_11 db_208
theorem dX6_best_23 : decode cX6_best 23 = .ok (.ireturn, 1) := dk_12 db_208
theorem dX6_best_24 : decode cX6_best 24 = .ok (.aload_n 0, 1) := dk_13 db_208
theorem dX6_best_25 : decode cX6_best 25 = .ok (.getfield 36, 3) := dk_14 db_208
theorem dX6_best_28 : decode cX6_best 28 = .ok (.aload_n 0, 1) := dk_15 db_208
theorem db_209 : fd_G cX6_best 29 [(29, .getfield 10, 3), (32, .iload_n 1, 1), (33, .invokevirtual 181, 3), (36, .iload_n 2, 1), (37, .bipush 10, 2), (39, .if_icmp .lt 15, 3), (42, .aload_n 0, 1), (43, .getfield 36, 3), (46, .iload_n 2, 1), (47, .bipush 10, 2), (49, .isub, 1), (50, .invokevirtual 185, 3), (53, .ireturn, 1), (54, .iload_n 2, 1), (55, .ifCond .ne 13, 3), (58, .aload_n 0, 1)] = true := by decide +kernel
theorem dX6_best_29 : decode cX6_best 29 = .ok (.getfield 10, 3) := dk_0 db_209
theorem dX6_best_32 : decode cX6_best 32 = .ok (.iload_n 1, 1) := dk_1 db_209
theorem dX6_best_33 : decode cX6_best 33 = .ok (.invokevirtual 181, 3) := dk_2 db_209
theorem dX6_best_36 : decode cX6_best 36 = .ok (.iload_n 2, 1) := dk_3 db_209
theorem dX6_best_37 : decode cX6_best 37 = .ok (.bipush 10, 2) := dk_4 db_209
theorem dX6_best_39 : decode cX6_best 39 = .ok (.if_icmp .lt 15, 3) := dk_5 db_209
theorem dX6_best_42 : decode cX6_best 42 = .ok (.aload_n 0, 1) := dk_6 db_209
theorem dX6_best_43 : decode cX6_best 43 = .ok (.getfield 36, 3) := dk_7 db_209
theorem dX6_best_46 : decode cX6_best 46 = .ok (.iload_n 2, 1) := dk_8 db_209
theorem dX6_best_47 : decode cX6_best 47 = .ok (.bipush 10, 2) := dk_9 db_209
theorem dX6_best_49 : decode cX6_best 49 = .ok (.isub, 1) := dk_10 db_209
theorem dX6_best_50 : decode cX6_best 50 = .ok (.invokevirtual 185, 3) := dk_11 db_209
theorem dX6_best_53 : decode cX6_best 53 = .ok (.ireturn, 1) := dk_12 db_209
theorem dX6_best_54 : decode cX6_best 54 = .ok (.iload_n 2, 1) := dk_13 db_209
theorem dX6_best_55 : decode cX6_best 55 = .ok (.ifCond .ne 13, 3) := dk_14 db_209
theorem dX6_best_58 : decode cX6_best 58 = .ok (.aload_n 0, 1) := dk_15 db_209
theorem db_210 : fd_G cX6_best 59 [(59, .getfield 36, 3), (62, .getfield 188, 3), (65, .goto 10, 3), (68, .aload_n 0, 1), (69, .getfield 36, 3), (72, .getfield 191, 3), (75, .ireturn, 1)] = true := by decide +kernel
theorem dX6_best_59 : decode cX6_best 59 = .ok (.getfield 36, 3) := dk_0 db_210
theorem dX6_best_62 : decode cX6_best 62 = .ok (.getfield 188, 3) := dk_1 db_210
theorem dX6_best_65 : decode cX6_best 65 = .ok (.goto 10, 3) := dk_2 db_210
theorem dX6_best_68 : decode cX6_best 68 = .ok (.aload_n 0, 1) := dk_3 db_210
theorem dX6_best_69 : decode cX6_best 69 = .ok (.getfield 36, 3) := dk_4 db_210
theorem dX6_best_72 : decode cX6_best 72 = .ok (.getfield 191, 3) := dk_5 db_210
theorem dX6_best_75 : decode cX6_best 75 = .ok (.ireturn, 1) := dk_6 db_210
theorem db_211 : fd_G cX6_home 0 [(0, .iload_n 2, 1), (1, .bipush 10, 2), (3, .if_icmp .lt 13, 3), (6, .iload_n 2, 1), (7, .bipush 13, 2), (9, .if_icmp .ge 7, 3), (12, .iconst 1, 1), (13, .goto 4, 3), (16, .iconst 0, 1), (17, .istore_n 3, 1), (18, .aload_n 0, 1), (19, .getfield 10, 3), (22, .iload_n 1, 1), (23, .invokevirtual 112, 3), (26, .ifCond .eq 11, 3), (29, .iload_n 2, 1)] = true := by decide +kernel
theorem dX6_home_0 : decode cX6_home 0 = .ok (.iload_n 2, 1) := dk_0 db_211
theorem dX6_home_1 : decode cX6_home 1 = .ok (.bipush 10, 2) := dk_1 db_211
theorem dX6_home_3 : decode cX6_home 3 = .ok (.if_icmp .lt 13, 3) := dk_2 db_211
theorem dX6_home_6 : decode cX6_home 6 = .ok (.iload_n 2, 1) := dk_3 db_211
theorem dX6_home_7 : decode cX6_home 7 = .ok (.bipush 13, 2) := dk_4 db_211
theorem dX6_home_9 : decode cX6_home 9 = .ok (.if_icmp .ge 7, 3) := dk_5 db_211
theorem dX6_home_12 : decode cX6_home 12 = .ok (.iconst 1, 1) := dk_6 db_211
theorem dX6_home_13 : decode cX6_home 13 = .ok (.goto 4, 3) := dk_7 db_211
theorem dX6_home_16 : decode cX6_home 16 = .ok (.iconst 0, 1) := dk_8 db_211
theorem dX6_home_17 : decode cX6_home 17 = .ok (.istore_n 3, 1) := dk_9 db_211
theorem dX6_home_18 : decode cX6_home 18 = .ok (.aload_n 0, 1) := dk_10 db_211
theorem dX6_home_19 : decode cX6_home 19 = .ok (.getfield 10, 3) := dk_11 db_211
theorem dX6_home_22 : decode cX6_home 22 = .ok (.iload_n 1, 1) := dk_12 db_211
theorem dX6_home_23 : decode cX6_home 23 = .ok (.invokevirtual 112, 3) := dk_13 db_211
theorem dX6_home_26 : decode cX6_home 26 = .ok (.ifCond .eq 11, 3) := dk_14 db_211
theorem dX6_home_29 : decode cX6_home 29 = .ok (.iload_n 2, 1) := dk_15 db_211
theorem db_212 : fd_G cX6_home 30 [(30, .ifCond .eq 9, 3), (33, .iload_n 3, 1), (34, .ifCond .ne 5, 3), (37, .iconst (-1), 1), (38, .ireturn, 1), (39, .aload_n 0, 1), (40, .getfield 10, 3), (43, .iload_n 1, 1), (44, .invokevirtual 128, 3), (47, .ifCond .ne 6, 3), (50, .bipush (-2), 2), (52, .ireturn, 1), (53, .aload_n 0, 1), (54, .getfield 36, 3), (57, .aload_n 0, 1), (58, .getfield 10, 3)] = true := by decide +kernel
theorem dX6_home_30 : decode cX6_home 30 = .ok (.ifCond .eq 9, 3) := dk_0 db_212
theorem dX6_home_33 : decode cX6_home 33 = .ok (.iload_n 3, 1) := dk_1 db_212
theorem dX6_home_34 : decode cX6_home 34 = .ok (.ifCond .ne 5, 3) := dk_2 db_212
theorem dX6_home_37 : decode cX6_home 37 = .ok (.iconst (-1), 1) := dk_3 db_212
theorem dX6_home_38 : decode cX6_home 38 = .ok (.ireturn, 1) := dk_4 db_212
theorem dX6_home_39 : decode cX6_home 39 = .ok (.aload_n 0, 1) := dk_5 db_212
theorem dX6_home_40 : decode cX6_home 40 = .ok (.getfield 10, 3) := dk_6 db_212
theorem dX6_home_43 : decode cX6_home 43 = .ok (.iload_n 1, 1) := dk_7 db_212
theorem dX6_home_44 : decode cX6_home 44 = .ok (.invokevirtual 128, 3) := dk_8 db_212
theorem dX6_home_47 : decode cX6_home 47 = .ok (.ifCond .ne 6, 3) := dk_9 db_212
theorem dX6_home_50 : decode cX6_home 50 = .ok (.bipush (-2), 2) := dk_10 db_212
theorem dX6_home_52 : decode cX6_home 52 = .ok (.ireturn, 1) := dk_11 db_212
theorem dX6_home_53 : decode cX6_home 53 = .ok (.aload_n 0, 1) := dk_12 db_212
theorem dX6_home_54 : decode cX6_home 54 = .ok (.getfield 36, 3) := dk_13 db_212
theorem dX6_home_57 : decode cX6_home 57 = .ok (.aload_n 0, 1) := dk_14 db_212
theorem dX6_home_58 : decode cX6_home 58 = .ok (.getfield 10, 3) := dk_15 db_212
theorem db_213 : fd_G cX6_home 61 [(61, .iload_n 1, 1), (62, .invokevirtual 194, 3), (65, .ifCond .ne 6, 3), (68, .bipush (-4), 2), (70, .ireturn, 1), (71, .iload_n 3, 1), (72, .ifCond .eq 17, 3), (75, .aload_n 0, 1), (76, .getfield 36, 3), (79, .iload_n 2, 1), (80, .bipush 10, 2), (82, .isub, 1), (83, .invokevirtual 185, 3), (86, .goto 10, 3), (89, .aload_n 0, 1), (90, .getfield 36, 3)] = true := by decide +kernel
theorem dX6_home_61 : decode cX6_home 61 = .ok (.iload_n 1, 1) := dk_0 db_213
theorem dX6_home_62 : decode cX6_home 62 = .ok (.invokevirtual 194, 3) := dk_1 db_213
theorem dX6_home_65 : decode cX6_home 65 = .ok (.ifCond .ne 6, 3) := dk_2 db_213
theorem dX6_home_68 : decode cX6_home 68 = .ok (.bipush (-4), 2) := dk_3 db_213
theorem dX6_home_70 : decode cX6_home 70 = .ok (.ireturn, 1) := dk_4 db_213
theorem dX6_home_71 : decode cX6_home 71 = .ok (.iload_n 3, 1) := dk_5 db_213
theorem dX6_home_72 : decode cX6_home 72 = .ok (.ifCond .eq 17, 3) := dk_6 db_213
theorem dX6_home_75 : decode cX6_home 75 = .ok (.aload_n 0, 1) := dk_7 db_213
theorem dX6_home_76 : decode cX6_home 76 = .ok (.getfield 36, 3) := dk_8 db_213
theorem dX6_home_79 : decode cX6_home 79 = .ok (.iload_n 2, 1) := dk_9 db_213
theorem dX6_home_80 : decode cX6_home 80 = .ok (.bipush 10, 2) := dk_10 db_213
theorem dX6_home_82 : decode cX6_home 82 = .ok (.isub, 1) := dk_11 db_213
theorem dX6_home_83 : decode cX6_home 83 = .ok (.invokevirtual 185, 3) := dk_12 db_213
theorem dX6_home_86 : decode cX6_home 86 = .ok (.goto 10, 3) := dk_13 db_213
theorem dX6_home_89 : decode cX6_home 89 = .ok (.aload_n 0, 1) := dk_14 db_213
theorem dX6_home_90 : decode cX6_home 90 = .ok (.getfield 36, 3) := dk_15 db_213
theorem db_214 : fd_G cX6_home 93 [(93, .getfield 198, 3), (96, .ireturn, 1)] = true := by decide +kernel
theorem dX6_home_93 : decode cX6_home 93 = .ok (.getfield 198, 3) := dk_0 db_214
theorem dX6_home_96 : decode cX6_home 96 = .ok (.ireturn, 1) := dk_1 db_214
theorem db_215 : fd_G cX6_swap 0 [(0, .iload_n 1, 1), (1, .invokestatic 178, 3), (4, .ifCond .ne 5, 3), (7, .iconst (-1), 1), (8, .ireturn, 1), (9, .aload_n 0, 1), (10, .iconst 0, 1), (11, .iconst 0, 1), (12, .invokevirtual 201, 3), (15, .istore_n 2, 1), (16, .bipush (-4), 2), (18, .istore_n 3, 1), (19, .iconst 0, 1), (20, .istore 4, 2), (22, .iload 4, 2), (24, .aload_n 0, 1)] = true := by decide +kernel
theorem dX6_swap_0 : decode cX6_swap 0 = .ok (.iload_n 1, 1) := dk_0 db_215
theorem dX6_swap_1 : decode cX6_swap 1 = .ok (.invokestatic 178, 3) := dk_1 db_215
theorem dX6_swap_4 : decode cX6_swap 4 = .ok (.ifCond .ne 5, 3) := dk_2 db_215
theorem dX6_swap_7 : decode cX6_swap 7 = .ok (.iconst (-1), 1) := dk_3 db_215
theorem dX6_swap_8 : decode cX6_swap 8 = .ok (.ireturn, 1) := dk_4 db_215
theorem dX6_swap_9 : decode cX6_swap 9 = .ok (.aload_n 0, 1) := dk_5 db_215
theorem dX6_swap_10 : decode cX6_swap 10 = .ok (.iconst 0, 1) := dk_6 db_215
theorem dX6_swap_11 : decode cX6_swap 11 = .ok (.iconst 0, 1) := dk_7 db_215
theorem dX6_swap_12 : decode cX6_swap 12 = .ok (.invokevirtual 201, 3) := dk_8 db_215
theorem dX6_swap_15 : decode cX6_swap 15 = .ok (.istore_n 2, 1) := dk_9 db_215
theorem dX6_swap_16 : decode cX6_swap 16 = .ok (.bipush (-4), 2) := dk_10 db_215
theorem dX6_swap_18 : decode cX6_swap 18 = .ok (.istore_n 3, 1) := dk_11 db_215
theorem dX6_swap_19 : decode cX6_swap 19 = .ok (.iconst 0, 1) := dk_12 db_215
theorem dX6_swap_20 : decode cX6_swap 20 = .ok (.istore 4, 2) := dk_13 db_215
theorem dX6_swap_22 : decode cX6_swap 22 = .ok (.iload 4, 2) := dk_14 db_215
theorem dX6_swap_24 : decode cX6_swap 24 = .ok (.aload_n 0, 1) := dk_15 db_215
theorem db_216 : fd_G cX6_swap 25 [(25, .getfield 10, 3), (28, .getfield 103, 3), (31, .if_icmp .ge 61, 3), (34, .iload 4, 2), (36, .iconst 1, 1), (37, .iadd, 1), (38, .istore 5, 2), (40, .iload 5, 2), (42, .aload_n 0, 1), (43, .getfield 10, 3), (46, .getfield 103, 3), (49, .if_icmp .ge 37, 3), (52, .aload_n 0, 1), (53, .iload 4, 2), (55, .iload 5, 2), (57, .invokevirtual 201, 3)] = true := by decide +kernel
theorem dX6_swap_25 : decode cX6_swap 25 = .ok (.getfield 10, 3) := dk_0 db_216
theorem dX6_swap_28 : decode cX6_swap 28 = .ok (.getfield 103, 3) := dk_1 db_216
theorem dX6_swap_31 : decode cX6_swap 31 = .ok (.if_icmp .ge 61, 3) := dk_2 db_216
theorem dX6_swap_34 : decode cX6_swap 34 = .ok (.iload 4, 2) := dk_3 db_216
theorem dX6_swap_36 : decode cX6_swap 36 = .ok (.iconst 1, 1) := dk_4 db_216
theorem dX6_swap_37 : decode cX6_swap 37 = .ok (.iadd, 1) := dk_5 db_216
theorem dX6_swap_38 : decode cX6_swap 38 = .ok (.istore 5, 2) := dk_6 db_216
theorem dX6_swap_40 : decode cX6_swap 40 = .ok (.iload 5, 2) := dk_7 db_216
theorem dX6_swap_42 : decode cX6_swap 42 = .ok (.aload_n 0, 1) := dk_8 db_216
theorem dX6_swap_43 : decode cX6_swap 43 = .ok (.getfield 10, 3) := dk_9 db_216
theorem dX6_swap_46 : decode cX6_swap 46 = .ok (.getfield 103, 3) := dk_10 db_216
theorem dX6_swap_49 : decode cX6_swap 49 = .ok (.if_icmp .ge 37, 3) := dk_11 db_216
theorem dX6_swap_52 : decode cX6_swap 52 = .ok (.aload_n 0, 1) := dk_12 db_216
theorem dX6_swap_53 : decode cX6_swap 53 = .ok (.iload 4, 2) := dk_13 db_216
theorem dX6_swap_55 : decode cX6_swap 55 = .ok (.iload 5, 2) := dk_14 db_216
theorem dX6_swap_57 : decode cX6_swap 57 = .ok (.invokevirtual 201, 3) := dk_15 db_216
theorem db_217 : fd_G cX6_swap 60 [(60, .istore 6, 2), (62, .iload 6, 2), (64, .iload_n 2, 1), (65, .if_icmp .le 15, 3), (68, .iload 6, 2), (70, .istore_n 2, 1), (71, .bipush 10, 2), (73, .iload 4, 2), (75, .imul, 1), (76, .iload 5, 2), (78, .iadd, 1), (79, .istore_n 3, 1), (80, .iinc 5 1, 3), (83, .goto (-43), 3), (86, .iinc 4 1, 3), (89, .goto (-67), 3)] = true := by decide +kernel
theorem dX6_swap_60 : decode cX6_swap 60 = .ok (.istore 6, 2) := dk_0 db_217
theorem dX6_swap_62 : decode cX6_swap 62 = .ok (.iload 6, 2) := dk_1 db_217
theorem dX6_swap_64 : decode cX6_swap 64 = .ok (.iload_n 2, 1) := dk_2 db_217
theorem dX6_swap_65 : decode cX6_swap 65 = .ok (.if_icmp .le 15, 3) := dk_3 db_217
theorem dX6_swap_68 : decode cX6_swap 68 = .ok (.iload 6, 2) := dk_4 db_217
theorem dX6_swap_70 : decode cX6_swap 70 = .ok (.istore_n 2, 1) := dk_5 db_217
theorem dX6_swap_71 : decode cX6_swap 71 = .ok (.bipush 10, 2) := dk_6 db_217
theorem dX6_swap_73 : decode cX6_swap 73 = .ok (.iload 4, 2) := dk_7 db_217
theorem dX6_swap_75 : decode cX6_swap 75 = .ok (.imul, 1) := dk_8 db_217
theorem dX6_swap_76 : decode cX6_swap 76 = .ok (.iload 5, 2) := dk_9 db_217
theorem dX6_swap_78 : decode cX6_swap 78 = .ok (.iadd, 1) := dk_10 db_217
theorem dX6_swap_79 : decode cX6_swap 79 = .ok (.istore_n 3, 1) := dk_11 db_217
theorem dX6_swap_80 : decode cX6_swap 80 = .ok (.iinc 5 1, 3) := dk_12 db_217
theorem dX6_swap_83 : decode cX6_swap 83 = .ok (.goto (-43), 3) := dk_13 db_217
theorem dX6_swap_86 : decode cX6_swap 86 = .ok (.iinc 4 1, 3) := dk_14 db_217
theorem dX6_swap_89 : decode cX6_swap 89 = .ok (.goto (-67), 3) := dk_15 db_217
theorem db_218 : fd_G cX6_swap 92 [(92, .iload_n 1, 1), (93, .ifCond .eq 9, 3), (96, .iload_n 3, 1), (97, .bipush (-4), 2), (99, .if_icmp .ne 7, 3), (102, .iload_n 3, 1), (103, .goto 4, 3), (106, .iload_n 2, 1), (107, .ireturn, 1)] = true := by decide +kernel
theorem dX6_swap_92 : decode cX6_swap 92 = .ok (.iload_n 1, 1) := dk_0 db_218
theorem dX6_swap_93 : decode cX6_swap 93 = .ok (.ifCond .eq 9, 3) := dk_1 db_218
theorem dX6_swap_96 : decode cX6_swap 96 = .ok (.iload_n 3, 1) := dk_2 db_218
theorem dX6_swap_97 : decode cX6_swap 97 = .ok (.bipush (-4), 2) := dk_3 db_218
theorem dX6_swap_99 : decode cX6_swap 99 = .ok (.if_icmp .ne 7, 3) := dk_4 db_218
theorem dX6_swap_102 : decode cX6_swap 102 = .ok (.iload_n 3, 1) := dk_5 db_218
theorem dX6_swap_103 : decode cX6_swap 103 = .ok (.goto 4, 3) := dk_6 db_218
theorem dX6_swap_106 : decode cX6_swap 106 = .ok (.iload_n 2, 1) := dk_7 db_218
theorem dX6_swap_107 : decode cX6_swap 107 = .ok (.ireturn, 1) := dk_8 db_218
theorem db_219 : fd_G cX6_enough 0 [(0, .iconst 1, 1), (1, .istore_n 1, 1), (2, .iload_n 1, 1), (3, .iconst 5, 1), (4, .if_icmp .gt 47, 3), (7, .aload_n 0, 1), (8, .getfield 16, 3), (11, .aload_n 0, 1), (12, .getfield 10, 3), (15, .invokevirtual 163, 3), (18, .aload_n 0, 1), (19, .getfield 16, 3), (22, .iload_n 1, 1), (23, .putfield 97, 3), (26, .aload_n 0, 1), (27, .getfield 16, 3)] = true := by decide +kernel
theorem dX6_enough_0 : decode cX6_enough 0 = .ok (.iconst 1, 1) := dk_0 db_219
theorem dX6_enough_1 : decode cX6_enough 1 = .ok (.istore_n 1, 1) := dk_1 db_219
theorem dX6_enough_2 : decode cX6_enough 2 = .ok (.iload_n 1, 1) := dk_2 db_219
theorem dX6_enough_3 : decode cX6_enough 3 = .ok (.iconst 5, 1) := dk_3 db_219
theorem dX6_enough_4 : decode cX6_enough 4 = .ok (.if_icmp .gt 47, 3) := dk_4 db_219
theorem dX6_enough_7 : decode cX6_enough 7 = .ok (.aload_n 0, 1) := dk_5 db_219
theorem dX6_enough_8 : decode cX6_enough 8 = .ok (.getfield 16, 3) := dk_6 db_219
theorem dX6_enough_11 : decode cX6_enough 11 = .ok (.aload_n 0, 1) := dk_7 db_219
theorem dX6_enough_12 : decode cX6_enough 12 = .ok (.getfield 10, 3) := dk_8 db_219
theorem dX6_enough_15 : decode cX6_enough 15 = .ok (.invokevirtual 163, 3) := dk_9 db_219
theorem dX6_enough_18 : decode cX6_enough 18 = .ok (.aload_n 0, 1) := dk_10 db_219
theorem dX6_enough_19 : decode cX6_enough 19 = .ok (.getfield 16, 3) := dk_11 db_219
theorem dX6_enough_22 : decode cX6_enough 22 = .ok (.iload_n 1, 1) := dk_12 db_219
theorem dX6_enough_23 : decode cX6_enough 23 = .ok (.putfield 97, 3) := dk_13 db_219
theorem dX6_enough_26 : decode cX6_enough 26 = .ok (.aload_n 0, 1) := dk_14 db_219
theorem dX6_enough_27 : decode cX6_enough 27 = .ok (.getfield 16, 3) := dk_15 db_219
theorem db_220 : fd_G cX6_enough 30 [(30, .invokevirtual 166, 3), (33, .aload_n 0, 1), (34, .getfield 16, 3), (37, .invokevirtual 106, 3), (40, .ifCond .ne 5, 3), (43, .iload_n 1, 1), (44, .ireturn, 1), (45, .iinc 1 1, 3), (48, .goto (-46), 3), (51, .bipush (-4), 2), (53, .ireturn, 1)] = true := by decide +kernel
theorem dX6_enough_30 : decode cX6_enough 30 = .ok (.invokevirtual 166, 3) := dk_0 db_220
theorem dX6_enough_33 : decode cX6_enough 33 = .ok (.aload_n 0, 1) := dk_1 db_220
theorem dX6_enough_34 : decode cX6_enough 34 = .ok (.getfield 16, 3) := dk_2 db_220
theorem dX6_enough_37 : decode cX6_enough 37 = .ok (.invokevirtual 106, 3) := dk_3 db_220
theorem dX6_enough_40 : decode cX6_enough 40 = .ok (.ifCond .ne 5, 3) := dk_4 db_220
theorem dX6_enough_43 : decode cX6_enough 43 = .ok (.iload_n 1, 1) := dk_5 db_220
theorem dX6_enough_44 : decode cX6_enough 44 = .ok (.ireturn, 1) := dk_6 db_220
theorem dX6_enough_45 : decode cX6_enough 45 = .ok (.iinc 1 1, 3) := dk_7 db_220
theorem dX6_enough_48 : decode cX6_enough 48 = .ok (.goto (-46), 3) := dk_8 db_220
theorem dX6_enough_51 : decode cX6_enough 51 = .ok (.bipush (-4), 2) := dk_9 db_220
theorem dX6_enough_53 : decode cX6_enough 53 = .ok (.ireturn, 1) := dk_10 db_220
theorem db_221 : fd_G cX6_luck 0 [(0, .iload_n 1, 1), (1, .ifCond .lt 27, 3), (4, .iload_n 1, 1), (5, .bipush 10, 2), (7, .if_icmp .gt 21, 3), (10, .aload_n 0, 1), (11, .getfield 10, 3), (14, .iload_n 2, 1), (15, .invokevirtual 112, 3), (18, .ifCond .eq 10, 3), (21, .iload_n 3, 1), (22, .invokestatic 178, 3), (25, .ifCond .ne 7, 3), (28, .ldc2_w 205, 3), (31, .lreturn, 1), (32, .aload_n 0, 1)] = true := by decide +kernel
theorem dX6_luck_0 : decode cX6_luck 0 = .ok (.iload_n 1, 1) := dk_0 db_221
theorem dX6_luck_1 : decode cX6_luck 1 = .ok (.ifCond .lt 27, 3) := dk_1 db_221
theorem dX6_luck_4 : decode cX6_luck 4 = .ok (.iload_n 1, 1) := dk_2 db_221
theorem dX6_luck_5 : decode cX6_luck 5 = .ok (.bipush 10, 2) := dk_3 db_221
theorem dX6_luck_7 : decode cX6_luck 7 = .ok (.if_icmp .gt 21, 3) := dk_4 db_221
theorem dX6_luck_10 : decode cX6_luck 10 = .ok (.aload_n 0, 1) := dk_5 db_221
theorem dX6_luck_11 : decode cX6_luck 11 = .ok (.getfield 10, 3) := dk_6 db_221
theorem dX6_luck_14 : decode cX6_luck 14 = .ok (.iload_n 2, 1) := dk_7 db_221
theorem dX6_luck_15 : decode cX6_luck 15 = .ok (.invokevirtual 112, 3) := dk_8 db_221
theorem dX6_luck_18 : decode cX6_luck 18 = .ok (.ifCond .eq 10, 3) := dk_9 db_221
theorem dX6_luck_21 : decode cX6_luck 21 = .ok (.iload_n 3, 1) := dk_10 db_221
theorem dX6_luck_22 : decode cX6_luck 22 = .ok (.invokestatic 178, 3) := dk_11 db_221
theorem dX6_luck_25 : decode cX6_luck 25 = .ok (.ifCond .ne 7, 3) := dk_12 db_221
theorem dX6_luck_28 : decode cX6_luck 28 = .ok (.ldc2_w 205, 3) := dk_13 db_221
theorem dX6_luck_31 : decode cX6_luck 31 = .ok (.lreturn, 1) := dk_14 db_221
theorem dX6_luck_32 : decode cX6_luck 32 = .ok (.aload_n 0, 1) := dk_15 db_221
theorem db_222 : fd_G cX6_luck 33 [(33, .getfield 43, 3), (36, .aload_n 0, 1), (37, .getfield 10, 3), (40, .iload_n 1, 1), (41, .invokevirtual 207, 3), (44, .aload_n 0, 1), (45, .getfield 43, 3), (48, .iload_n 2, 1), (49, .invokevirtual 210, 3), (52, .aload_n 0, 1), (53, .getfield 43, 3), (56, .getfield 214, 3), (59, .iload_n 3, 1), (60, .invokestatic 218, 3), (63, .lreturn, 1)] = true := by decide +kernel
theorem dX6_luck_33 : decode cX6_luck 33 = .ok (.getfield 43, 3) := dk_0 db_222
theorem dX6_luck_36 : decode cX6_luck 36 = .ok (.aload_n 0, 1) := dk_1 db_222
theorem dX6_luck_37 : decode cX6_luck 37 = .ok (.getfield 10, 3) := dk_2 db_222
theorem dX6_luck_40 : decode cX6_luck 40 = .ok (.iload_n 1, 1) := dk_3 db_222
theorem dX6_luck_41 : decode cX6_luck 41 = .ok (.invokevirtual 207, 3) := dk_4 db_222
theorem dX6_luck_44 : decode cX6_luck 44 = .ok (.aload_n 0, 1) := dk_5 db_222
theorem dX6_luck_45 : decode cX6_luck 45 = .ok (.getfield 43, 3) := dk_6 db_222
theorem dX6_luck_48 : decode cX6_luck 48 = .ok (.iload_n 2, 1) := dk_7 db_222
theorem dX6_luck_49 : decode cX6_luck 49 = .ok (.invokevirtual 210, 3) := dk_8 db_222
theorem dX6_luck_52 : decode cX6_luck 52 = .ok (.aload_n 0, 1) := dk_9 db_222
theorem dX6_luck_53 : decode cX6_luck 53 = .ok (.getfield 43, 3) := dk_10 db_222
theorem dX6_luck_56 : decode cX6_luck 56 = .ok (.getfield 214, 3) := dk_11 db_222
theorem dX6_luck_59 : decode cX6_luck 59 = .ok (.iload_n 3, 1) := dk_12 db_222
theorem dX6_luck_60 : decode cX6_luck 60 = .ok (.invokestatic 218, 3) := dk_13 db_222
theorem dX6_luck_63 : decode cX6_luck 63 = .ok (.lreturn, 1) := dk_14 db_222
theorem db_223 : fd_G cX6_mean 0 [(0, .iload_n 1, 1), (1, .ifCond .lt 16, 3), (4, .iload_n 1, 1), (5, .bipush 10, 2), (7, .if_icmp .gt 10, 3), (10, .iload_n 2, 1), (11, .invokestatic 178, 3), (14, .ifCond .ne 7, 3), (17, .ldc2_w 205, 3), (20, .lreturn, 1), (21, .aload_n 0, 1), (22, .getfield 43, 3), (25, .aload_n 0, 1), (26, .getfield 10, 3), (29, .iload_n 1, 1), (30, .invokevirtual 207, 3)] = true := by decide +kernel
theorem dX6_mean_0 : decode cX6_mean 0 = .ok (.iload_n 1, 1) := dk_0 db_223
theorem dX6_mean_1 : decode cX6_mean 1 = .ok (.ifCond .lt 16, 3) := dk_1 db_223
theorem dX6_mean_4 : decode cX6_mean 4 = .ok (.iload_n 1, 1) := dk_2 db_223
theorem dX6_mean_5 : decode cX6_mean 5 = .ok (.bipush 10, 2) := dk_3 db_223
theorem dX6_mean_7 : decode cX6_mean 7 = .ok (.if_icmp .gt 10, 3) := dk_4 db_223
theorem dX6_mean_10 : decode cX6_mean 10 = .ok (.iload_n 2, 1) := dk_5 db_223
theorem dX6_mean_11 : decode cX6_mean 11 = .ok (.invokestatic 178, 3) := dk_6 db_223
theorem dX6_mean_14 : decode cX6_mean 14 = .ok (.ifCond .ne 7, 3) := dk_7 db_223
theorem dX6_mean_17 : decode cX6_mean 17 = .ok (.ldc2_w 205, 3) := dk_8 db_223
theorem dX6_mean_20 : decode cX6_mean 20 = .ok (.lreturn, 1) := dk_9 db_223
theorem dX6_mean_21 : decode cX6_mean 21 = .ok (.aload_n 0, 1) := dk_10 db_223
theorem dX6_mean_22 : decode cX6_mean 22 = .ok (.getfield 43, 3) := dk_11 db_223
theorem dX6_mean_25 : decode cX6_mean 25 = .ok (.aload_n 0, 1) := dk_12 db_223
theorem dX6_mean_26 : decode cX6_mean 26 = .ok (.getfield 10, 3) := dk_13 db_223
theorem dX6_mean_29 : decode cX6_mean 29 = .ok (.iload_n 1, 1) := dk_14 db_223
theorem dX6_mean_30 : decode cX6_mean 30 = .ok (.invokevirtual 207, 3) := dk_15 db_223
theorem dX6_mean_34 : decode cX6_mean 34 = .ok (.lstore_n 3, 1) := by decide +kernel
theorem dX6_mean_50 : decode cX6_mean 50 = .ok (.lload_n 3, 1) := by decide +kernel
theorem dX6_mean_60 : decode cX6_mean 60 = .ok (.ladd, 1) := by decide +kernel
theorem dX6_mean_61 : decode cX6_mean 61 = .ok (.lstore_n 3, 1) := by decide +kernel
theorem dX6_mean_68 : decode cX6_mean 68 = .ok (.lload_n 3, 1) := by decide +kernel
theorem db_224 : fd_G cX6_mean 33 [(33, .lconst 0, 1), (35, .iconst 0, 1), (36, .istore 5, 2), (38, .iload 5, 2), (40, .aload_n 0, 1), (41, .getfield 10, 3), (44, .getfield 91, 3), (47, .if_icmp .ge 21, 3), (51, .aload_n 0, 1), (52, .getfield 43, 3), (55, .iload 5, 2), (57, .invokevirtual 210, 3), (62, .iinc 5 1, 3), (65, .goto (-27), 3), (69, .aload_n 0, 1), (70, .getfield 43, 3)] = true := by decide +kernel
theorem dX6_mean_33 : decode cX6_mean 33 = .ok (.lconst 0, 1) := dk_0 db_224
theorem dX6_mean_35 : decode cX6_mean 35 = .ok (.iconst 0, 1) := dk_1 db_224
theorem dX6_mean_36 : decode cX6_mean 36 = .ok (.istore 5, 2) := dk_2 db_224
theorem dX6_mean_38 : decode cX6_mean 38 = .ok (.iload 5, 2) := dk_3 db_224
theorem dX6_mean_40 : decode cX6_mean 40 = .ok (.aload_n 0, 1) := dk_4 db_224
theorem dX6_mean_41 : decode cX6_mean 41 = .ok (.getfield 10, 3) := dk_5 db_224
theorem dX6_mean_44 : decode cX6_mean 44 = .ok (.getfield 91, 3) := dk_6 db_224
theorem dX6_mean_47 : decode cX6_mean 47 = .ok (.if_icmp .ge 21, 3) := dk_7 db_224
theorem dX6_mean_51 : decode cX6_mean 51 = .ok (.aload_n 0, 1) := dk_8 db_224
theorem dX6_mean_52 : decode cX6_mean 52 = .ok (.getfield 43, 3) := dk_9 db_224
theorem dX6_mean_55 : decode cX6_mean 55 = .ok (.iload 5, 2) := dk_10 db_224
theorem dX6_mean_57 : decode cX6_mean 57 = .ok (.invokevirtual 210, 3) := dk_11 db_224
theorem dX6_mean_62 : decode cX6_mean 62 = .ok (.iinc 5 1, 3) := dk_12 db_224
theorem dX6_mean_65 : decode cX6_mean 65 = .ok (.goto (-27), 3) := dk_13 db_224
theorem dX6_mean_69 : decode cX6_mean 69 = .ok (.aload_n 0, 1) := dk_14 db_224
theorem dX6_mean_70 : decode cX6_mean 70 = .ok (.getfield 43, 3) := dk_15 db_224
theorem db_225 : fd_G cX6_mean 73 [(73, .getfield 214, 3), (76, .iload_n 2, 1), (77, .invokestatic 218, 3), (80, .lreturn, 1)] = true := by decide +kernel
theorem dX6_mean_73 : decode cX6_mean 73 = .ok (.getfield 214, 3) := dk_0 db_225
theorem dX6_mean_76 : decode cX6_mean 76 = .ok (.iload_n 2, 1) := dk_1 db_225
theorem dX6_mean_77 : decode cX6_mean 77 = .ok (.invokestatic 218, 3) := dk_2 db_225
theorem dX6_mean_80 : decode cX6_mean 80 = .ok (.lreturn, 1) := dk_3 db_225
theorem db_226 : fd_G cX6_see 0 [(0, .aload_n 0, 1), (1, .getfield 10, 3), (4, .iload_n 1, 1), (5, .invokevirtual 112, 3), (8, .ifCond .ne 5, 3), (11, .iconst (-1), 1), (12, .ireturn, 1), (13, .aload_n 0, 1), (14, .getfield 29, 3), (17, .iload_n 1, 1), (18, .iload_n 2, 1), (19, .invokevirtual 222, 3), (22, .ifCond .eq 13, 3), (25, .aload_n 0, 1), (26, .getfield 29, 3), (29, .getfield 88, 3)] = true := by decide +kernel
theorem dX6_see_0 : decode cX6_see 0 = .ok (.aload_n 0, 1) := dk_0 db_226
theorem dX6_see_1 : decode cX6_see 1 = .ok (.getfield 10, 3) := dk_1 db_226
theorem dX6_see_4 : decode cX6_see 4 = .ok (.iload_n 1, 1) := dk_2 db_226
theorem dX6_see_5 : decode cX6_see 5 = .ok (.invokevirtual 112, 3) := dk_3 db_226
theorem dX6_see_8 : decode cX6_see 8 = .ok (.ifCond .ne 5, 3) := dk_4 db_226
theorem dX6_see_11 : decode cX6_see 11 = .ok (.iconst (-1), 1) := dk_5 db_226
theorem dX6_see_12 : decode cX6_see 12 = .ok (.ireturn, 1) := dk_6 db_226
theorem dX6_see_13 : decode cX6_see 13 = .ok (.aload_n 0, 1) := dk_7 db_226
theorem dX6_see_14 : decode cX6_see 14 = .ok (.getfield 29, 3) := dk_8 db_226
theorem dX6_see_17 : decode cX6_see 17 = .ok (.iload_n 1, 1) := dk_9 db_226
theorem dX6_see_18 : decode cX6_see 18 = .ok (.iload_n 2, 1) := dk_10 db_226
theorem dX6_see_19 : decode cX6_see 19 = .ok (.invokevirtual 222, 3) := dk_11 db_226
theorem dX6_see_22 : decode cX6_see 22 = .ok (.ifCond .eq 13, 3) := dk_12 db_226
theorem dX6_see_25 : decode cX6_see 25 = .ok (.aload_n 0, 1) := dk_13 db_226
theorem dX6_see_26 : decode cX6_see 26 = .ok (.getfield 29, 3) := dk_14 db_226
theorem dX6_see_29 : decode cX6_see 29 = .ok (.getfield 88, 3) := dk_15 db_226
theorem db_227 : fd_G cX6_see 32 [(32, .goto 5, 3), (35, .bipush (-3), 2), (37, .ireturn, 1)] = true := by decide +kernel
theorem dX6_see_32 : decode cX6_see 32 = .ok (.goto 5, 3) := dk_0 db_227
theorem dX6_see_35 : decode cX6_see 35 = .ok (.bipush (-3), 2) := dk_1 db_227
theorem dX6_see_37 : decode cX6_see 37 = .ok (.ireturn, 1) := dk_2 db_227
theorem db_228 : fd_G cX6_forget 0 [(0, .iload_n 1, 1), (1, .ifCond .lt 14, 3), (4, .iload_n 1, 1), (5, .aload_n 0, 1), (6, .getfield 29, 3), (9, .getfield 88, 3), (12, .if_icmp .le 5, 3), (15, .iconst (-1), 1), (16, .ireturn, 1), (17, .aload_n 0, 1), (18, .getfield 29, 3), (21, .getfield 88, 3), (24, .istore_n 2, 1), (25, .aload_n 0, 1), (26, .getfield 29, 3), (29, .iload_n 1, 1)] = true := by decide +kernel
theorem dX6_forget_0 : decode cX6_forget 0 = .ok (.iload_n 1, 1) := dk_0 db_228
theorem dX6_forget_1 : decode cX6_forget 1 = .ok (.ifCond .lt 14, 3) := dk_1 db_228
theorem dX6_forget_4 : decode cX6_forget 4 = .ok (.iload_n 1, 1) := dk_2 db_228
theorem dX6_forget_5 : decode cX6_forget 5 = .ok (.aload_n 0, 1) := dk_3 db_228
theorem dX6_forget_6 : decode cX6_forget 6 = .ok (.getfield 29, 3) := dk_4 db_228
theorem dX6_forget_9 : decode cX6_forget 9 = .ok (.getfield 88, 3) := dk_5 db_228
theorem dX6_forget_12 : decode cX6_forget 12 = .ok (.if_icmp .le 5, 3) := dk_6 db_228
theorem dX6_forget_15 : decode cX6_forget 15 = .ok (.iconst (-1), 1) := dk_7 db_228
theorem dX6_forget_16 : decode cX6_forget 16 = .ok (.ireturn, 1) := dk_8 db_228
theorem dX6_forget_17 : decode cX6_forget 17 = .ok (.aload_n 0, 1) := dk_9 db_228
theorem dX6_forget_18 : decode cX6_forget 18 = .ok (.getfield 29, 3) := dk_10 db_228
theorem dX6_forget_21 : decode cX6_forget 21 = .ok (.getfield 88, 3) := dk_11 db_228
theorem dX6_forget_24 : decode cX6_forget 24 = .ok (.istore_n 2, 1) := dk_12 db_228
theorem dX6_forget_25 : decode cX6_forget 25 = .ok (.aload_n 0, 1) := dk_13 db_228
theorem dX6_forget_26 : decode cX6_forget 26 = .ok (.getfield 29, 3) := dk_14 db_228
theorem dX6_forget_29 : decode cX6_forget 29 = .ok (.iload_n 1, 1) := dk_15 db_228
theorem db_229 : fd_G cX6_forget 30 [(30, .putfield 88, 3), (33, .iload_n 2, 1), (34, .ireturn, 1)] = true := by decide +kernel
theorem dX6_forget_30 : decode cX6_forget 30 = .ok (.putfield 88, 3) := dk_0 db_229
theorem dX6_forget_33 : decode cX6_forget 33 = .ok (.iload_n 2, 1) := dk_1 db_229
theorem dX6_forget_34 : decode cX6_forget 34 = .ok (.ireturn, 1) := dk_2 db_229
theorem db_230 : fd_G cX6_kinds 0 [(0, .aload_n 0, 1), (1, .getfield 10, 3), (4, .iload_n 1, 1), (5, .invokevirtual 112, 3), (8, .ifCond .ne 5, 3), (11, .iconst (-1), 1), (12, .ireturn, 1), (13, .iconst 0, 1), (14, .istore_n 2, 1), (15, .iconst 0, 1), (16, .istore_n 3, 1), (17, .iload_n 3, 1), (18, .iconst 4, 1), (19, .if_icmp .ge 60, 3), (22, .aload_n 0, 1), (23, .getfield 16, 3)] = true := by decide +kernel
theorem dX6_kinds_0 : decode cX6_kinds 0 = .ok (.aload_n 0, 1) := dk_0 db_230
theorem dX6_kinds_1 : decode cX6_kinds 1 = .ok (.getfield 10, 3) := dk_1 db_230
theorem dX6_kinds_4 : decode cX6_kinds 4 = .ok (.iload_n 1, 1) := dk_2 db_230
theorem dX6_kinds_5 : decode cX6_kinds 5 = .ok (.invokevirtual 112, 3) := dk_3 db_230
theorem dX6_kinds_8 : decode cX6_kinds 8 = .ok (.ifCond .ne 5, 3) := dk_4 db_230
theorem dX6_kinds_11 : decode cX6_kinds 11 = .ok (.iconst (-1), 1) := dk_5 db_230
theorem dX6_kinds_12 : decode cX6_kinds 12 = .ok (.ireturn, 1) := dk_6 db_230
theorem dX6_kinds_13 : decode cX6_kinds 13 = .ok (.iconst 0, 1) := dk_7 db_230
theorem dX6_kinds_14 : decode cX6_kinds 14 = .ok (.istore_n 2, 1) := dk_8 db_230
theorem dX6_kinds_15 : decode cX6_kinds 15 = .ok (.iconst 0, 1) := dk_9 db_230
theorem dX6_kinds_16 : decode cX6_kinds 16 = .ok (.istore_n 3, 1) := dk_10 db_230
theorem dX6_kinds_17 : decode cX6_kinds 17 = .ok (.iload_n 3, 1) := dk_11 db_230
theorem dX6_kinds_18 : decode cX6_kinds 18 = .ok (.iconst 4, 1) := dk_12 db_230
theorem dX6_kinds_19 : decode cX6_kinds 19 = .ok (.if_icmp .ge 60, 3) := dk_13 db_230
theorem dX6_kinds_22 : decode cX6_kinds 22 = .ok (.aload_n 0, 1) := dk_14 db_230
theorem dX6_kinds_23 : decode cX6_kinds 23 = .ok (.getfield 16, 3) := dk_15 db_230
theorem db_231 : fd_G cX6_kinds 26 [(26, .aload_n 0, 1), (27, .getfield 10, 3), (30, .invokevirtual 163, 3), (33, .aload_n 0, 1), (34, .getfield 16, 3), (37, .getfield 115, 3), (40, .iload_n 1, 1), (41, .iload_n 3, 1), (42, .iastore, 1), (43, .aload_n 0, 1), (44, .getfield 16, 3), (47, .invokevirtual 166, 3), (50, .aload_n 0, 1), (51, .getfield 29, 3), (54, .aload_n 0, 1), (55, .getfield 16, 3)] = true := by decide +kernel
theorem dX6_kinds_26 : decode cX6_kinds 26 = .ok (.aload_n 0, 1) := dk_0 db_231
theorem dX6_kinds_27 : decode cX6_kinds 27 = .ok (.getfield 10, 3) := dk_1 db_231
theorem dX6_kinds_30 : decode cX6_kinds 30 = .ok (.invokevirtual 163, 3) := dk_2 db_231
theorem dX6_kinds_33 : decode cX6_kinds 33 = .ok (.aload_n 0, 1) := dk_3 db_231
theorem dX6_kinds_34 : decode cX6_kinds 34 = .ok (.getfield 16, 3) := dk_4 db_231
theorem dX6_kinds_37 : decode cX6_kinds 37 = .ok (.getfield 115, 3) := dk_5 db_231
theorem dX6_kinds_40 : decode cX6_kinds 40 = .ok (.iload_n 1, 1) := dk_6 db_231
theorem dX6_kinds_41 : decode cX6_kinds 41 = .ok (.iload_n 3, 1) := dk_7 db_231
theorem dX6_kinds_42 : decode cX6_kinds 42 = .ok (.iastore, 1) := dk_8 db_231
theorem dX6_kinds_43 : decode cX6_kinds 43 = .ok (.aload_n 0, 1) := dk_9 db_231
theorem dX6_kinds_44 : decode cX6_kinds 44 = .ok (.getfield 16, 3) := dk_10 db_231
theorem dX6_kinds_47 : decode cX6_kinds 47 = .ok (.invokevirtual 166, 3) := dk_11 db_231
theorem dX6_kinds_50 : decode cX6_kinds 50 = .ok (.aload_n 0, 1) := dk_12 db_231
theorem dX6_kinds_51 : decode cX6_kinds 51 = .ok (.getfield 29, 3) := dk_13 db_231
theorem dX6_kinds_54 : decode cX6_kinds 54 = .ok (.aload_n 0, 1) := dk_14 db_231
theorem dX6_kinds_55 : decode cX6_kinds 55 = .ok (.getfield 16, 3) := dk_15 db_231
theorem db_232 : fd_G cX6_kinds 58 [(58, .getfield 155, 3), (61, .invokevirtual 226, 3), (64, .ifCond .eq 9, 3), (67, .iload_n 2, 1), (68, .iconst 1, 1), (69, .iload_n 3, 1), (70, .ishl, 1), (71, .ior, 1), (72, .istore_n 2, 1), (73, .iinc 3 1, 3), (76, .goto (-59), 3), (79, .iload_n 2, 1), (80, .ireturn, 1)] = true := by decide +kernel
theorem dX6_kinds_58 : decode cX6_kinds 58 = .ok (.getfield 155, 3) := dk_0 db_232
theorem dX6_kinds_61 : decode cX6_kinds 61 = .ok (.invokevirtual 226, 3) := dk_1 db_232
theorem dX6_kinds_64 : decode cX6_kinds 64 = .ok (.ifCond .eq 9, 3) := dk_2 db_232
theorem dX6_kinds_67 : decode cX6_kinds 67 = .ok (.iload_n 2, 1) := dk_3 db_232
theorem dX6_kinds_68 : decode cX6_kinds 68 = .ok (.iconst 1, 1) := dk_4 db_232
theorem dX6_kinds_69 : decode cX6_kinds 69 = .ok (.iload_n 3, 1) := dk_5 db_232
theorem dX6_kinds_70 : decode cX6_kinds 70 = .ok (.ishl, 1) := dk_6 db_232
theorem dX6_kinds_71 : decode cX6_kinds 71 = .ok (.ior, 1) := dk_7 db_232
theorem dX6_kinds_72 : decode cX6_kinds 72 = .ok (.istore_n 2, 1) := dk_8 db_232
theorem dX6_kinds_73 : decode cX6_kinds 73 = .ok (.iinc 3 1, 3) := dk_9 db_232
theorem dX6_kinds_76 : decode cX6_kinds 76 = .ok (.goto (-59), 3) := dk_10 db_232
theorem dX6_kinds_79 : decode cX6_kinds 79 = .ok (.iload_n 2, 1) := dk_11 db_232
theorem dX6_kinds_80 : decode cX6_kinds 80 = .ok (.ireturn, 1) := dk_12 db_232
theorem db_233 : fd_G cX6_sorrows 0 [(0, .aload_n 0, 1), (1, .getfield 10, 3), (4, .iload_n 1, 1), (5, .invokevirtual 112, 3), (8, .ifCond .eq 11, 3), (11, .aload_n 0, 1), (12, .iload_n 1, 1), (13, .invokevirtual 229, 3), (16, .goto 4, 3), (19, .iconst (-1), 1), (20, .ireturn, 1)] = true := by decide +kernel
theorem dX6_sorrows_0 : decode cX6_sorrows 0 = .ok (.aload_n 0, 1) := dk_0 db_233
theorem dX6_sorrows_1 : decode cX6_sorrows 1 = .ok (.getfield 10, 3) := dk_1 db_233
theorem dX6_sorrows_4 : decode cX6_sorrows 4 = .ok (.iload_n 1, 1) := dk_2 db_233
theorem dX6_sorrows_5 : decode cX6_sorrows 5 = .ok (.invokevirtual 112, 3) := dk_3 db_233
theorem dX6_sorrows_8 : decode cX6_sorrows 8 = .ok (.ifCond .eq 11, 3) := dk_4 db_233
theorem dX6_sorrows_11 : decode cX6_sorrows 11 = .ok (.aload_n 0, 1) := dk_5 db_233
theorem dX6_sorrows_12 : decode cX6_sorrows 12 = .ok (.iload_n 1, 1) := dk_6 db_233
theorem dX6_sorrows_13 : decode cX6_sorrows 13 = .ok (.invokevirtual 229, 3) := dk_7 db_233
theorem dX6_sorrows_16 : decode cX6_sorrows 16 = .ok (.goto 4, 3) := dk_8 db_233
theorem dX6_sorrows_19 : decode cX6_sorrows 19 = .ok (.iconst (-1), 1) := dk_9 db_233
theorem dX6_sorrows_20 : decode cX6_sorrows 20 = .ok (.ireturn, 1) := dk_10 db_233
theorem db_234 : fd_G cX6_ask 0 [(0, .aload_n 0, 1), (1, .getfield 10, 3), (4, .iload_n 1, 1), (5, .invokevirtual 112, 3), (8, .ifCond .eq 10, 3), (11, .iload_n 2, 1), (12, .invokestatic 178, 3), (15, .ifCond .ne 5, 3), (18, .iconst (-1), 1), (19, .ireturn, 1), (20, .aload_n 0, 1), (21, .iload_n 1, 1), (22, .invokevirtual 229, 3), (25, .istore_n 3, 1), (26, .iload_n 3, 1), (27, .invokestatic 158, 3)] = true := by decide +kernel
theorem dX6_ask_0 : decode cX6_ask 0 = .ok (.aload_n 0, 1) := dk_0 db_234
theorem dX6_ask_1 : decode cX6_ask 1 = .ok (.getfield 10, 3) := dk_1 db_234
theorem dX6_ask_4 : decode cX6_ask 4 = .ok (.iload_n 1, 1) := dk_2 db_234
theorem dX6_ask_5 : decode cX6_ask 5 = .ok (.invokevirtual 112, 3) := dk_3 db_234
theorem dX6_ask_8 : decode cX6_ask 8 = .ok (.ifCond .eq 10, 3) := dk_4 db_234
theorem dX6_ask_11 : decode cX6_ask 11 = .ok (.iload_n 2, 1) := dk_5 db_234
theorem dX6_ask_12 : decode cX6_ask 12 = .ok (.invokestatic 178, 3) := dk_6 db_234
theorem dX6_ask_15 : decode cX6_ask 15 = .ok (.ifCond .ne 5, 3) := dk_7 db_234
theorem dX6_ask_18 : decode cX6_ask 18 = .ok (.iconst (-1), 1) := dk_8 db_234
theorem dX6_ask_19 : decode cX6_ask 19 = .ok (.ireturn, 1) := dk_9 db_234
theorem dX6_ask_20 : decode cX6_ask 20 = .ok (.aload_n 0, 1) := dk_10 db_234
theorem dX6_ask_21 : decode cX6_ask 21 = .ok (.iload_n 1, 1) := dk_11 db_234
theorem dX6_ask_22 : decode cX6_ask 22 = .ok (.invokevirtual 229, 3) := dk_12 db_234
theorem dX6_ask_25 : decode cX6_ask 25 = .ok (.istore_n 3, 1) := dk_13 db_234
theorem dX6_ask_26 : decode cX6_ask 26 = .ok (.iload_n 3, 1) := dk_14 db_234
theorem dX6_ask_27 : decode cX6_ask 27 = .ok (.invokestatic 158, 3) := dk_15 db_234
theorem db_235 : fd_G cX6_ask 30 [(30, .istore 4, 2), (32, .bipush (-4), 2), (34, .istore 5, 2), (36, .iconst 0, 1), (37, .istore 6, 2), (39, .iload 6, 2), (41, .aload_n 0, 1), (42, .getfield 10, 3), (45, .getfield 91, 3), (48, .if_icmp .ge 33, 3), (51, .aload_n 0, 1), (52, .iload_n 3, 1), (53, .iload 6, 2), (55, .invokevirtual 232, 3), (58, .istore 7, 2), (60, .iload 7, 2)] = true := by decide +kernel
theorem dX6_ask_30 : decode cX6_ask 30 = .ok (.istore 4, 2) := dk_0 db_235
theorem dX6_ask_32 : decode cX6_ask 32 = .ok (.bipush (-4), 2) := dk_1 db_235
theorem dX6_ask_34 : decode cX6_ask 34 = .ok (.istore 5, 2) := dk_2 db_235
theorem dX6_ask_36 : decode cX6_ask 36 = .ok (.iconst 0, 1) := dk_3 db_235
theorem dX6_ask_37 : decode cX6_ask 37 = .ok (.istore 6, 2) := dk_4 db_235
theorem dX6_ask_39 : decode cX6_ask 39 = .ok (.iload 6, 2) := dk_5 db_235
theorem dX6_ask_41 : decode cX6_ask 41 = .ok (.aload_n 0, 1) := dk_6 db_235
theorem dX6_ask_42 : decode cX6_ask 42 = .ok (.getfield 10, 3) := dk_7 db_235
theorem dX6_ask_45 : decode cX6_ask 45 = .ok (.getfield 91, 3) := dk_8 db_235
theorem dX6_ask_48 : decode cX6_ask 48 = .ok (.if_icmp .ge 33, 3) := dk_9 db_235
theorem dX6_ask_51 : decode cX6_ask 51 = .ok (.aload_n 0, 1) := dk_10 db_235
theorem dX6_ask_52 : decode cX6_ask 52 = .ok (.iload_n 3, 1) := dk_11 db_235
theorem dX6_ask_53 : decode cX6_ask 53 = .ok (.iload 6, 2) := dk_12 db_235
theorem dX6_ask_55 : decode cX6_ask 55 = .ok (.invokevirtual 232, 3) := dk_13 db_235
theorem dX6_ask_58 : decode cX6_ask 58 = .ok (.istore 7, 2) := dk_14 db_235
theorem dX6_ask_60 : decode cX6_ask 60 = .ok (.iload 7, 2) := dk_15 db_235
theorem db_236 : fd_G cX6_ask 62 [(62, .iload 4, 2), (64, .if_icmp .ge 11, 3), (67, .iload 7, 2), (69, .istore 4, 2), (71, .iload 6, 2), (73, .istore 5, 2), (75, .iinc 6 1, 3), (78, .goto (-39), 3), (81, .iload_n 2, 1), (82, .ifCond .eq 10, 3), (85, .iload 5, 2), (87, .bipush (-4), 2), (89, .if_icmp .ne 8, 3), (92, .iload 5, 2), (94, .goto 5, 3), (97, .iload 4, 2)] = true := by decide +kernel
theorem dX6_ask_62 : decode cX6_ask 62 = .ok (.iload 4, 2) := dk_0 db_236
theorem dX6_ask_64 : decode cX6_ask 64 = .ok (.if_icmp .ge 11, 3) := dk_1 db_236
theorem dX6_ask_67 : decode cX6_ask 67 = .ok (.iload 7, 2) := dk_2 db_236
theorem dX6_ask_69 : decode cX6_ask 69 = .ok (.istore 4, 2) := dk_3 db_236
theorem dX6_ask_71 : decode cX6_ask 71 = .ok (.iload 6, 2) := dk_4 db_236
theorem dX6_ask_73 : decode cX6_ask 73 = .ok (.istore 5, 2) := dk_5 db_236
theorem dX6_ask_75 : decode cX6_ask 75 = .ok (.iinc 6 1, 3) := dk_6 db_236
theorem dX6_ask_78 : decode cX6_ask 78 = .ok (.goto (-39), 3) := dk_7 db_236
theorem dX6_ask_81 : decode cX6_ask 81 = .ok (.iload_n 2, 1) := dk_8 db_236
theorem dX6_ask_82 : decode cX6_ask 82 = .ok (.ifCond .eq 10, 3) := dk_9 db_236
theorem dX6_ask_85 : decode cX6_ask 85 = .ok (.iload 5, 2) := dk_10 db_236
theorem dX6_ask_87 : decode cX6_ask 87 = .ok (.bipush (-4), 2) := dk_11 db_236
theorem dX6_ask_89 : decode cX6_ask 89 = .ok (.if_icmp .ne 8, 3) := dk_12 db_236
theorem dX6_ask_92 : decode cX6_ask 92 = .ok (.iload 5, 2) := dk_13 db_236
theorem dX6_ask_94 : decode cX6_ask 94 = .ok (.goto 5, 3) := dk_14 db_236
theorem dX6_ask_97 : decode cX6_ask 97 = .ok (.iload 4, 2) := dk_15 db_236
theorem db_237 : fd_G cX6_ask 99 [(99, .ireturn, 1)] = true := by decide +kernel
theorem dX6_ask_99 : decode cX6_ask 99 = .ok (.ireturn, 1) := dk_0 db_237
theorem db_238 : fd_G cX6_drift 0 [(0, .iload_n 2, 1), (1, .iconst 1, 1), (2, .if_icmp .lt 16, 3), (5, .iload_n 2, 1), (6, .bipush 60, 2), (8, .if_icmp .gt 10, 3), (11, .iload_n 3, 1), (12, .invokestatic 178, 3), (15, .ifCond .ne 5, 3), (18, .iconst (-1), 1), (19, .ireturn, 1), (20, .aload_n 0, 1), (21, .getfield 10, 3), (24, .getfield 91, 3), (27, .istore 4, 2), (29, .iload 4, 2)] = true := by decide +kernel
theorem dX6_drift_0 : decode cX6_drift 0 = .ok (.iload_n 2, 1) := dk_0 db_238
theorem dX6_drift_1 : decode cX6_drift 1 = .ok (.iconst 1, 1) := dk_1 db_238
theorem dX6_drift_2 : decode cX6_drift 2 = .ok (.if_icmp .lt 16, 3) := dk_2 db_238
theorem dX6_drift_5 : decode cX6_drift 5 = .ok (.iload_n 2, 1) := dk_3 db_238
theorem dX6_drift_6 : decode cX6_drift 6 = .ok (.bipush 60, 2) := dk_4 db_238
theorem dX6_drift_8 : decode cX6_drift 8 = .ok (.if_icmp .gt 10, 3) := dk_5 db_238
theorem dX6_drift_11 : decode cX6_drift 11 = .ok (.iload_n 3, 1) := dk_6 db_238
theorem dX6_drift_12 : decode cX6_drift 12 = .ok (.invokestatic 178, 3) := dk_7 db_238
theorem dX6_drift_15 : decode cX6_drift 15 = .ok (.ifCond .ne 5, 3) := dk_8 db_238
theorem dX6_drift_18 : decode cX6_drift 18 = .ok (.iconst (-1), 1) := dk_9 db_238
theorem dX6_drift_19 : decode cX6_drift 19 = .ok (.ireturn, 1) := dk_10 db_238
theorem dX6_drift_20 : decode cX6_drift 20 = .ok (.aload_n 0, 1) := dk_11 db_238
theorem dX6_drift_21 : decode cX6_drift 21 = .ok (.getfield 10, 3) := dk_12 db_238
theorem dX6_drift_24 : decode cX6_drift 24 = .ok (.getfield 91, 3) := dk_13 db_238
theorem dX6_drift_27 : decode cX6_drift 27 = .ok (.istore 4, 2) := dk_14 db_238
theorem dX6_drift_29 : decode cX6_drift 29 = .ok (.iload 4, 2) := dk_15 db_238
theorem db_239 : fd_G cX6_drift 31 [(31, .iconst 1, 1), (32, .if_icmp .ge 6, 3), (35, .bipush (-2), 2), (37, .ireturn, 1), (38, .aload_n 0, 1), (39, .getfield 16, 3), (42, .aload_n 0, 1), (43, .getfield 10, 3), (46, .invokevirtual 163, 3), (49, .iload_n 1, 1), (50, .istore 5, 2), (52, .iconst 0, 1), (53, .istore 6, 2), (55, .iload 6, 2), (57, .iload_n 2, 1), (58, .if_icmp .ge 57, 3)] = true := by decide +kernel
theorem dX6_drift_31 : decode cX6_drift 31 = .ok (.iconst 1, 1) := dk_0 db_239
theorem dX6_drift_32 : decode cX6_drift 32 = .ok (.if_icmp .ge 6, 3) := dk_1 db_239
theorem dX6_drift_35 : decode cX6_drift 35 = .ok (.bipush (-2), 2) := dk_2 db_239
theorem dX6_drift_37 : decode cX6_drift 37 = .ok (.ireturn, 1) := dk_3 db_239
theorem dX6_drift_38 : decode cX6_drift 38 = .ok (.aload_n 0, 1) := dk_4 db_239
theorem dX6_drift_39 : decode cX6_drift 39 = .ok (.getfield 16, 3) := dk_5 db_239
theorem dX6_drift_42 : decode cX6_drift 42 = .ok (.aload_n 0, 1) := dk_6 db_239
theorem dX6_drift_43 : decode cX6_drift 43 = .ok (.getfield 10, 3) := dk_7 db_239
theorem dX6_drift_46 : decode cX6_drift 46 = .ok (.invokevirtual 163, 3) := dk_8 db_239
theorem dX6_drift_49 : decode cX6_drift 49 = .ok (.iload_n 1, 1) := dk_9 db_239
theorem dX6_drift_50 : decode cX6_drift 50 = .ok (.istore 5, 2) := dk_10 db_239
theorem dX6_drift_52 : decode cX6_drift 52 = .ok (.iconst 0, 1) := dk_11 db_239
theorem dX6_drift_53 : decode cX6_drift 53 = .ok (.istore 6, 2) := dk_12 db_239
theorem dX6_drift_55 : decode cX6_drift 55 = .ok (.iload 6, 2) := dk_13 db_239
theorem dX6_drift_57 : decode cX6_drift 57 = .ok (.iload_n 2, 1) := dk_14 db_239
theorem dX6_drift_58 : decode cX6_drift 58 = .ok (.if_icmp .ge 57, 3) := dk_15 db_239
theorem dX6_drift_76 : decode cX6_drift 76 = .ok (.iushr, 1) := by decide +kernel
theorem dX6_drift_85 : decode cX6_drift 85 = .ok (.irem, 1) := by decide +kernel
theorem db_240 : fd_G cX6_drift 61 [(61, .iload 5, 2), (63, .ldc 235, 2), (65, .imul, 1), (66, .sipush 12345, 3), (69, .iadd, 1), (70, .istore 5, 2), (72, .iload 5, 2), (74, .bipush 16, 2), (77, .sipush 32767, 3), (80, .iand, 1), (81, .iload 4, 2), (83, .iconst 1, 1), (84, .iadd, 1), (86, .istore 7, 2), (88, .aload_n 0, 1), (89, .getfield 16, 3)] = true := by decide +kernel
theorem dX6_drift_61 : decode cX6_drift 61 = .ok (.iload 5, 2) := dk_0 db_240
theorem dX6_drift_63 : decode cX6_drift 63 = .ok (.ldc 235, 2) := dk_1 db_240
theorem dX6_drift_65 : decode cX6_drift 65 = .ok (.imul, 1) := dk_2 db_240
theorem dX6_drift_66 : decode cX6_drift 66 = .ok (.sipush 12345, 3) := dk_3 db_240
theorem dX6_drift_69 : decode cX6_drift 69 = .ok (.iadd, 1) := dk_4 db_240
theorem dX6_drift_70 : decode cX6_drift 70 = .ok (.istore 5, 2) := dk_5 db_240
theorem dX6_drift_72 : decode cX6_drift 72 = .ok (.iload 5, 2) := dk_6 db_240
theorem dX6_drift_74 : decode cX6_drift 74 = .ok (.bipush 16, 2) := dk_7 db_240
theorem dX6_drift_77 : decode cX6_drift 77 = .ok (.sipush 32767, 3) := dk_8 db_240
theorem dX6_drift_80 : decode cX6_drift 80 = .ok (.iand, 1) := dk_9 db_240
theorem dX6_drift_81 : decode cX6_drift 81 = .ok (.iload 4, 2) := dk_10 db_240
theorem dX6_drift_83 : decode cX6_drift 83 = .ok (.iconst 1, 1) := dk_11 db_240
theorem dX6_drift_84 : decode cX6_drift 84 = .ok (.iadd, 1) := dk_12 db_240
theorem dX6_drift_86 : decode cX6_drift 86 = .ok (.istore 7, 2) := dk_13 db_240
theorem dX6_drift_88 : decode cX6_drift 88 = .ok (.aload_n 0, 1) := dk_14 db_240
theorem dX6_drift_89 : decode cX6_drift 89 = .ok (.getfield 16, 3) := dk_15 db_240
theorem db_241 : fd_G cX6_drift 92 [(92, .iload 7, 2), (94, .iload 4, 2), (96, .if_icmp .ge 8, 3), (99, .iload 7, 2), (101, .goto 4, 3), (104, .iconst 5, 1), (105, .invokevirtual 236, 3), (108, .pop, 1), (109, .iinc 6 1, 3), (112, .goto (-57), 3), (115, .iload_n 3, 1), (116, .ifCond .ne 13, 3), (119, .aload_n 0, 1), (120, .getfield 16, 3), (123, .getfield 172, 3), (126, .goto 11, 3)] = true := by decide +kernel
theorem dX6_drift_92 : decode cX6_drift 92 = .ok (.iload 7, 2) := dk_0 db_241
theorem dX6_drift_94 : decode cX6_drift 94 = .ok (.iload 4, 2) := dk_1 db_241
theorem dX6_drift_96 : decode cX6_drift 96 = .ok (.if_icmp .ge 8, 3) := dk_2 db_241
theorem dX6_drift_99 : decode cX6_drift 99 = .ok (.iload 7, 2) := dk_3 db_241
theorem dX6_drift_101 : decode cX6_drift 101 = .ok (.goto 4, 3) := dk_4 db_241
theorem dX6_drift_104 : decode cX6_drift 104 = .ok (.iconst 5, 1) := dk_5 db_241
theorem dX6_drift_105 : decode cX6_drift 105 = .ok (.invokevirtual 236, 3) := dk_6 db_241
theorem dX6_drift_108 : decode cX6_drift 108 = .ok (.pop, 1) := dk_7 db_241
theorem dX6_drift_109 : decode cX6_drift 109 = .ok (.iinc 6 1, 3) := dk_8 db_241
theorem dX6_drift_112 : decode cX6_drift 112 = .ok (.goto (-57), 3) := dk_9 db_241
theorem dX6_drift_115 : decode cX6_drift 115 = .ok (.iload_n 3, 1) := dk_10 db_241
theorem dX6_drift_116 : decode cX6_drift 116 = .ok (.ifCond .ne 13, 3) := dk_11 db_241
theorem dX6_drift_119 : decode cX6_drift 119 = .ok (.aload_n 0, 1) := dk_12 db_241
theorem dX6_drift_120 : decode cX6_drift 120 = .ok (.getfield 16, 3) := dk_13 db_241
theorem dX6_drift_123 : decode cX6_drift 123 = .ok (.getfield 172, 3) := dk_14 db_241
theorem dX6_drift_126 : decode cX6_drift 126 = .ok (.goto 11, 3) := dk_15 db_241
theorem db_242 : fd_G cX6_drift 129 [(129, .aload_n 0, 1), (130, .getfield 16, 3), (133, .iconst 0, 1), (134, .invokevirtual 134, 3), (137, .ireturn, 1)] = true := by decide +kernel
theorem dX6_drift_129 : decode cX6_drift 129 = .ok (.aload_n 0, 1) := dk_0 db_242
theorem dX6_drift_130 : decode cX6_drift 130 = .ok (.getfield 16, 3) := dk_1 db_242
theorem dX6_drift_133 : decode cX6_drift 133 = .ok (.iconst 0, 1) := dk_2 db_242
theorem dX6_drift_134 : decode cX6_drift 134 = .ok (.invokevirtual 134, 3) := dk_3 db_242
theorem dX6_drift_137 : decode cX6_drift 137 = .ok (.ireturn, 1) := dk_4 db_242
theorem db_243 : fd_G cX6_keep 0 [(0, .iload_n 1, 1), (1, .ifCond .lt 8, 3), (4, .iload_n 1, 1), (5, .iconst 2, 1), (6, .if_icmp .lt 5, 3), (9, .iconst (-1), 1), (10, .ireturn, 1), (11, .aload_n 0, 1), (12, .getfield 51, 3), (15, .iload_n 1, 1), (16, .baload, 1), (17, .ifCond .eq 7, 3), (20, .iconst 1, 1), (21, .goto 4, 3), (24, .iconst 0, 1), (25, .istore_n 2, 1)] = true := by decide +kernel
theorem dX6_keep_0 : decode cX6_keep 0 = .ok (.iload_n 1, 1) := dk_0 db_243
theorem dX6_keep_1 : decode cX6_keep 1 = .ok (.ifCond .lt 8, 3) := dk_1 db_243
theorem dX6_keep_4 : decode cX6_keep 4 = .ok (.iload_n 1, 1) := dk_2 db_243
theorem dX6_keep_5 : decode cX6_keep 5 = .ok (.iconst 2, 1) := dk_3 db_243
theorem dX6_keep_6 : decode cX6_keep 6 = .ok (.if_icmp .lt 5, 3) := dk_4 db_243
theorem dX6_keep_9 : decode cX6_keep 9 = .ok (.iconst (-1), 1) := dk_5 db_243
theorem dX6_keep_10 : decode cX6_keep 10 = .ok (.ireturn, 1) := dk_6 db_243
theorem dX6_keep_11 : decode cX6_keep 11 = .ok (.aload_n 0, 1) := dk_7 db_243
theorem dX6_keep_12 : decode cX6_keep 12 = .ok (.getfield 51, 3) := dk_8 db_243
theorem dX6_keep_15 : decode cX6_keep 15 = .ok (.iload_n 1, 1) := dk_9 db_243
theorem dX6_keep_16 : decode cX6_keep 16 = .ok (.baload, 1) := dk_10 db_243
theorem dX6_keep_17 : decode cX6_keep 17 = .ok (.ifCond .eq 7, 3) := dk_11 db_243
theorem dX6_keep_20 : decode cX6_keep 20 = .ok (.iconst 1, 1) := dk_12 db_243
theorem dX6_keep_21 : decode cX6_keep 21 = .ok (.goto 4, 3) := dk_13 db_243
theorem dX6_keep_24 : decode cX6_keep 24 = .ok (.iconst 0, 1) := dk_14 db_243
theorem dX6_keep_25 : decode cX6_keep 25 = .ok (.istore_n 2, 1) := dk_15 db_243
theorem dX6_keep_45 : decode cX6_keep 45 = .ok (.bastore, 1) := by decide +kernel
theorem db_244 : fd_G cX6_keep 26 [(26, .aload_n 0, 1), (27, .getfield 47, 3), (30, .iload_n 1, 1), (31, .aaload, 1), (32, .aload_n 0, 1), (33, .getfield 10, 3), (36, .invokevirtual 84, 3), (39, .aload_n 0, 1), (40, .getfield 51, 3), (43, .iload_n 1, 1), (44, .iconst 1, 1), (46, .iload_n 2, 1), (47, .ireturn, 1)] = true := by decide +kernel
theorem dX6_keep_26 : decode cX6_keep 26 = .ok (.aload_n 0, 1) := dk_0 db_244
theorem dX6_keep_27 : decode cX6_keep 27 = .ok (.getfield 47, 3) := dk_1 db_244
theorem dX6_keep_30 : decode cX6_keep 30 = .ok (.iload_n 1, 1) := dk_2 db_244
theorem dX6_keep_31 : decode cX6_keep 31 = .ok (.aaload, 1) := dk_3 db_244
theorem dX6_keep_32 : decode cX6_keep 32 = .ok (.aload_n 0, 1) := dk_4 db_244
theorem dX6_keep_33 : decode cX6_keep 33 = .ok (.getfield 10, 3) := dk_5 db_244
theorem dX6_keep_36 : decode cX6_keep 36 = .ok (.invokevirtual 84, 3) := dk_6 db_244
theorem dX6_keep_39 : decode cX6_keep 39 = .ok (.aload_n 0, 1) := dk_7 db_244
theorem dX6_keep_40 : decode cX6_keep 40 = .ok (.getfield 51, 3) := dk_8 db_244
theorem dX6_keep_43 : decode cX6_keep 43 = .ok (.iload_n 1, 1) := dk_9 db_244
theorem dX6_keep_44 : decode cX6_keep 44 = .ok (.iconst 1, 1) := dk_10 db_244
theorem dX6_keep_46 : decode cX6_keep 46 = .ok (.iload_n 2, 1) := dk_11 db_244
theorem dX6_keep_47 : decode cX6_keep 47 = .ok (.ireturn, 1) := dk_12 db_244
theorem db_245 : fd_G cX6_back 0 [(0, .iload_n 1, 1), (1, .ifCond .lt 8, 3), (4, .iload_n 1, 1), (5, .iconst 2, 1), (6, .if_icmp .lt 5, 3), (9, .iconst (-1), 1), (10, .ireturn, 1), (11, .aload_n 0, 1), (12, .getfield 51, 3), (15, .iload_n 1, 1), (16, .baload, 1), (17, .ifCond .ne 6, 3), (20, .bipush (-2), 2), (22, .ireturn, 1), (23, .aload_n 0, 1), (24, .getfield 10, 3)] = true := by decide +kernel
theorem dX6_back_0 : decode cX6_back 0 = .ok (.iload_n 1, 1) := dk_0 db_245
theorem dX6_back_1 : decode cX6_back 1 = .ok (.ifCond .lt 8, 3) := dk_1 db_245
theorem dX6_back_4 : decode cX6_back 4 = .ok (.iload_n 1, 1) := dk_2 db_245
theorem dX6_back_5 : decode cX6_back 5 = .ok (.iconst 2, 1) := dk_3 db_245
theorem dX6_back_6 : decode cX6_back 6 = .ok (.if_icmp .lt 5, 3) := dk_4 db_245
theorem dX6_back_9 : decode cX6_back 9 = .ok (.iconst (-1), 1) := dk_5 db_245
theorem dX6_back_10 : decode cX6_back 10 = .ok (.ireturn, 1) := dk_6 db_245
theorem dX6_back_11 : decode cX6_back 11 = .ok (.aload_n 0, 1) := dk_7 db_245
theorem dX6_back_12 : decode cX6_back 12 = .ok (.getfield 51, 3) := dk_8 db_245
theorem dX6_back_15 : decode cX6_back 15 = .ok (.iload_n 1, 1) := dk_9 db_245
theorem dX6_back_16 : decode cX6_back 16 = .ok (.baload, 1) := dk_10 db_245
theorem dX6_back_17 : decode cX6_back 17 = .ok (.ifCond .ne 6, 3) := dk_11 db_245
theorem dX6_back_20 : decode cX6_back 20 = .ok (.bipush (-2), 2) := dk_12 db_245
theorem dX6_back_22 : decode cX6_back 22 = .ok (.ireturn, 1) := dk_13 db_245
theorem dX6_back_23 : decode cX6_back 23 = .ok (.aload_n 0, 1) := dk_14 db_245
theorem dX6_back_24 : decode cX6_back 24 = .ok (.getfield 10, 3) := dk_15 db_245
theorem db_246 : fd_G cX6_back 27 [(27, .aload_n 0, 1), (28, .getfield 47, 3), (31, .iload_n 1, 1), (32, .aaload, 1), (33, .invokevirtual 84, 3), (36, .aload_n 0, 1), (37, .getfield 10, 3), (40, .getfield 94, 3), (43, .ireturn, 1)] = true := by decide +kernel
theorem dX6_back_27 : decode cX6_back 27 = .ok (.aload_n 0, 1) := dk_0 db_246
theorem dX6_back_28 : decode cX6_back 28 = .ok (.getfield 47, 3) := dk_1 db_246
theorem dX6_back_31 : decode cX6_back 31 = .ok (.iload_n 1, 1) := dk_2 db_246
theorem dX6_back_32 : decode cX6_back 32 = .ok (.aaload, 1) := dk_3 db_246
theorem dX6_back_33 : decode cX6_back 33 = .ok (.invokevirtual 84, 3) := dk_4 db_246
theorem dX6_back_36 : decode cX6_back 36 = .ok (.aload_n 0, 1) := dk_5 db_246
theorem dX6_back_37 : decode cX6_back 37 = .ok (.getfield 10, 3) := dk_6 db_246
theorem dX6_back_40 : decode cX6_back 40 = .ok (.getfield 94, 3) := dk_7 db_246
theorem dX6_back_43 : decode cX6_back 43 = .ok (.ireturn, 1) := dk_8 db_246
theorem dX6_sheet_23 : decode cX6_sheet 23 = .ok (.ifCond .ge 6, 3) := by decide +kernel
theorem db_247 : fd_G cX6_sheet 0 [(0, .iload_n 1, 1), (1, .invokestatic 239, 3), (4, .ifCond .eq 16, 3), (7, .iload_n 2, 1), (8, .invokestatic 242, 3), (11, .ifCond .eq 9, 3), (14, .iload_n 3, 1), (15, .bipush 40, 2), (17, .if_icmp .le 5, 3), (20, .iconst (-1), 1), (21, .ireturn, 1), (22, .iload_n 3, 1), (26, .bipush (-14), 2), (28, .ireturn, 1), (29, .aload_n 0, 1), (30, .getfield 57, 3)] = true := by decide +kernel
theorem dX6_sheet_0 : decode cX6_sheet 0 = .ok (.iload_n 1, 1) := dk_0 db_247
theorem dX6_sheet_1 : decode cX6_sheet 1 = .ok (.invokestatic 239, 3) := dk_1 db_247
theorem dX6_sheet_4 : decode cX6_sheet 4 = .ok (.ifCond .eq 16, 3) := dk_2 db_247
theorem dX6_sheet_7 : decode cX6_sheet 7 = .ok (.iload_n 2, 1) := dk_3 db_247
theorem dX6_sheet_8 : decode cX6_sheet 8 = .ok (.invokestatic 242, 3) := dk_4 db_247
theorem dX6_sheet_11 : decode cX6_sheet 11 = .ok (.ifCond .eq 9, 3) := dk_5 db_247
theorem dX6_sheet_14 : decode cX6_sheet 14 = .ok (.iload_n 3, 1) := dk_6 db_247
theorem dX6_sheet_15 : decode cX6_sheet 15 = .ok (.bipush 40, 2) := dk_7 db_247
theorem dX6_sheet_17 : decode cX6_sheet 17 = .ok (.if_icmp .le 5, 3) := dk_8 db_247
theorem dX6_sheet_20 : decode cX6_sheet 20 = .ok (.iconst (-1), 1) := dk_9 db_247
theorem dX6_sheet_21 : decode cX6_sheet 21 = .ok (.ireturn, 1) := dk_10 db_247
theorem dX6_sheet_22 : decode cX6_sheet 22 = .ok (.iload_n 3, 1) := dk_11 db_247
theorem dX6_sheet_26 : decode cX6_sheet 26 = .ok (.bipush (-14), 2) := dk_12 db_247
theorem dX6_sheet_28 : decode cX6_sheet 28 = .ok (.ireturn, 1) := dk_13 db_247
theorem dX6_sheet_29 : decode cX6_sheet 29 = .ok (.aload_n 0, 1) := dk_14 db_247
theorem dX6_sheet_30 : decode cX6_sheet 30 = .ok (.getfield 57, 3) := dk_15 db_247
theorem db_248 : fd_G cX6_sheet 33 [(33, .iload_n 1, 1), (34, .aaload, 1), (35, .iload_n 2, 1), (36, .iload_n 3, 1), (37, .invokevirtual 245, 3), (40, .iconst 1, 1), (41, .ireturn, 1)] = true := by decide +kernel
theorem dX6_sheet_33 : decode cX6_sheet 33 = .ok (.iload_n 1, 1) := dk_0 db_248
theorem dX6_sheet_34 : decode cX6_sheet 34 = .ok (.aaload, 1) := dk_1 db_248
theorem dX6_sheet_35 : decode cX6_sheet 35 = .ok (.iload_n 2, 1) := dk_2 db_248
theorem dX6_sheet_36 : decode cX6_sheet 36 = .ok (.iload_n 3, 1) := dk_3 db_248
theorem dX6_sheet_37 : decode cX6_sheet 37 = .ok (.invokevirtual 245, 3) := dk_4 db_248
theorem dX6_sheet_40 : decode cX6_sheet 40 = .ok (.iconst 1, 1) := dk_5 db_248
theorem dX6_sheet_41 : decode cX6_sheet 41 = .ok (.ireturn, 1) := dk_6 db_248
theorem dX6_lay_15 : decode cX6_lay 15 = .ok (.astore 4, 2) := by decide +kernel
theorem db_249 : fd_G cX6_lay 0 [(0, .iload_n 1, 1), (1, .invokestatic 239, 3), (4, .ifCond .ne 5, 3), (7, .iconst (-1), 1), (8, .ireturn, 1), (9, .aload_n 0, 1), (10, .getfield 57, 3), (13, .iload_n 1, 1), (14, .aaload, 1), (17, .aload 4, 2), (19, .aload 4, 2), (21, .getfield 249, 3), (24, .iload_n 2, 1), (25, .invokevirtual 252, 3), (28, .istore 5, 2), (30, .iload 5, 2)] = true := by decide +kernel
theorem dX6_lay_0 : decode cX6_lay 0 = .ok (.iload_n 1, 1) := dk_0 db_249
theorem dX6_lay_1 : decode cX6_lay 1 = .ok (.invokestatic 239, 3) := dk_1 db_249
theorem dX6_lay_4 : decode cX6_lay 4 = .ok (.ifCond .ne 5, 3) := dk_2 db_249
theorem dX6_lay_7 : decode cX6_lay 7 = .ok (.iconst (-1), 1) := dk_3 db_249
theorem dX6_lay_8 : decode cX6_lay 8 = .ok (.ireturn, 1) := dk_4 db_249
theorem dX6_lay_9 : decode cX6_lay 9 = .ok (.aload_n 0, 1) := dk_5 db_249
theorem dX6_lay_10 : decode cX6_lay 10 = .ok (.getfield 57, 3) := dk_6 db_249
theorem dX6_lay_13 : decode cX6_lay 13 = .ok (.iload_n 1, 1) := dk_7 db_249
theorem dX6_lay_14 : decode cX6_lay 14 = .ok (.aaload, 1) := dk_8 db_249
theorem dX6_lay_17 : decode cX6_lay 17 = .ok (.aload 4, 2) := dk_9 db_249
theorem dX6_lay_19 : decode cX6_lay 19 = .ok (.aload 4, 2) := dk_10 db_249
theorem dX6_lay_21 : decode cX6_lay 21 = .ok (.getfield 249, 3) := dk_11 db_249
theorem dX6_lay_24 : decode cX6_lay 24 = .ok (.iload_n 2, 1) := dk_12 db_249
theorem dX6_lay_25 : decode cX6_lay 25 = .ok (.invokevirtual 252, 3) := dk_13 db_249
theorem dX6_lay_28 : decode cX6_lay 28 = .ok (.istore 5, 2) := dk_14 db_249
theorem dX6_lay_30 : decode cX6_lay 30 = .ok (.iload 5, 2) := dk_15 db_249
theorem db_250 : fd_G cX6_lay 32 [(32, .ifCond .eq 9, 3), (35, .bipush (-10), 2), (37, .iload 5, 2), (39, .isub, 1), (40, .ireturn, 1), (41, .aload 4, 2), (43, .iload_n 2, 1), (44, .iload_n 3, 1), (45, .invokevirtual 255, 3), (48, .iconst 1, 1), (49, .ireturn, 1)] = true := by decide +kernel
theorem dX6_lay_32 : decode cX6_lay 32 = .ok (.ifCond .eq 9, 3) := dk_0 db_250
theorem dX6_lay_35 : decode cX6_lay 35 = .ok (.bipush (-10), 2) := dk_1 db_250
theorem dX6_lay_37 : decode cX6_lay 37 = .ok (.iload 5, 2) := dk_2 db_250
theorem dX6_lay_39 : decode cX6_lay 39 = .ok (.isub, 1) := dk_3 db_250
theorem dX6_lay_40 : decode cX6_lay 40 = .ok (.ireturn, 1) := dk_4 db_250
theorem dX6_lay_41 : decode cX6_lay 41 = .ok (.aload 4, 2) := dk_5 db_250
theorem dX6_lay_43 : decode cX6_lay 43 = .ok (.iload_n 2, 1) := dk_6 db_250
theorem dX6_lay_44 : decode cX6_lay 44 = .ok (.iload_n 3, 1) := dk_7 db_250
theorem dX6_lay_45 : decode cX6_lay 45 = .ok (.invokevirtual 255, 3) := dk_8 db_250
theorem dX6_lay_48 : decode cX6_lay 48 = .ok (.iconst 1, 1) := dk_9 db_250
theorem dX6_lay_49 : decode cX6_lay 49 = .ok (.ireturn, 1) := dk_10 db_250
theorem db_251 : fd_G cX6_read 0 [(0, .iload_n 1, 1), (1, .invokestatic 239, 3), (4, .ifCond .eq 22, 3), (7, .iload_n 2, 1), (8, .invokestatic 242, 3), (11, .ifCond .eq 15, 3), (14, .iload 4, 2), (16, .ifCond .lt 10, 3), (19, .iload 4, 2), (21, .bipush 20, 2), (23, .if_icmp .le 5, 3), (26, .iconst (-1), 1), (27, .ireturn, 1), (28, .aload_n 0, 1), (29, .getfield 16, 3), (32, .aload_n 0, 1)] = true := by decide +kernel
theorem dX6_read_0 : decode cX6_read 0 = .ok (.iload_n 1, 1) := dk_0 db_251
theorem dX6_read_1 : decode cX6_read 1 = .ok (.invokestatic 239, 3) := dk_1 db_251
theorem dX6_read_4 : decode cX6_read 4 = .ok (.ifCond .eq 22, 3) := dk_2 db_251
theorem dX6_read_7 : decode cX6_read 7 = .ok (.iload_n 2, 1) := dk_3 db_251
theorem dX6_read_8 : decode cX6_read 8 = .ok (.invokestatic 242, 3) := dk_4 db_251
theorem dX6_read_11 : decode cX6_read 11 = .ok (.ifCond .eq 15, 3) := dk_5 db_251
theorem dX6_read_14 : decode cX6_read 14 = .ok (.iload 4, 2) := dk_6 db_251
theorem dX6_read_16 : decode cX6_read 16 = .ok (.ifCond .lt 10, 3) := dk_7 db_251
theorem dX6_read_19 : decode cX6_read 19 = .ok (.iload 4, 2) := dk_8 db_251
theorem dX6_read_21 : decode cX6_read 21 = .ok (.bipush 20, 2) := dk_9 db_251
theorem dX6_read_23 : decode cX6_read 23 = .ok (.if_icmp .le 5, 3) := dk_10 db_251
theorem dX6_read_26 : decode cX6_read 26 = .ok (.iconst (-1), 1) := dk_11 db_251
theorem dX6_read_27 : decode cX6_read 27 = .ok (.ireturn, 1) := dk_12 db_251
theorem dX6_read_28 : decode cX6_read 28 = .ok (.aload_n 0, 1) := dk_13 db_251
theorem dX6_read_29 : decode cX6_read 29 = .ok (.getfield 16, 3) := dk_14 db_251
theorem dX6_read_32 : decode cX6_read 32 = .ok (.aload_n 0, 1) := dk_15 db_251
theorem db_252 : fd_G cX6_read 33 [(33, .getfield 10, 3), (36, .invokevirtual 163, 3), (39, .iconst 0, 1), (40, .istore 5, 2), (42, .iconst 0, 1), (43, .istore 6, 2), (45, .iload 6, 2), (47, .iload 4, 2), (49, .if_icmp .ge 79, 3), (52, .aload_n 0, 1), (53, .getfield 57, 3), (56, .iload_n 1, 1), (57, .aaload, 1), (58, .iload_n 2, 1), (59, .iload_n 3, 1), (60, .iload 6, 2)] = true := by decide +kernel
theorem dX6_read_33 : decode cX6_read 33 = .ok (.getfield 10, 3) := dk_0 db_252
theorem dX6_read_36 : decode cX6_read 36 = .ok (.invokevirtual 163, 3) := dk_1 db_252
theorem dX6_read_39 : decode cX6_read 39 = .ok (.iconst 0, 1) := dk_2 db_252
theorem dX6_read_40 : decode cX6_read 40 = .ok (.istore 5, 2) := dk_3 db_252
theorem dX6_read_42 : decode cX6_read 42 = .ok (.iconst 0, 1) := dk_4 db_252
theorem dX6_read_43 : decode cX6_read 43 = .ok (.istore 6, 2) := dk_5 db_252
theorem dX6_read_45 : decode cX6_read 45 = .ok (.iload 6, 2) := dk_6 db_252
theorem dX6_read_47 : decode cX6_read 47 = .ok (.iload 4, 2) := dk_7 db_252
theorem dX6_read_49 : decode cX6_read 49 = .ok (.if_icmp .ge 79, 3) := dk_8 db_252
theorem dX6_read_52 : decode cX6_read 52 = .ok (.aload_n 0, 1) := dk_9 db_252
theorem dX6_read_53 : decode cX6_read 53 = .ok (.getfield 57, 3) := dk_10 db_252
theorem dX6_read_56 : decode cX6_read 56 = .ok (.iload_n 1, 1) := dk_11 db_252
theorem dX6_read_57 : decode cX6_read 57 = .ok (.aaload, 1) := dk_12 db_252
theorem dX6_read_58 : decode cX6_read 58 = .ok (.iload_n 2, 1) := dk_13 db_252
theorem dX6_read_59 : decode cX6_read 59 = .ok (.iload_n 3, 1) := dk_14 db_252
theorem dX6_read_60 : decode cX6_read 60 = .ok (.iload 6, 2) := dk_15 db_252
theorem db_253 : fd_G cX6_read 62 [(62, .iadd, 1), (63, .invokevirtual 252, 3), (66, .istore 5, 2), (68, .iload 5, 2), (70, .ifCond .eq 6, 3), (73, .goto 55, 3), (76, .aload_n 0, 1), (77, .getfield 57, 3), (80, .iload_n 1, 1), (81, .aaload, 1), (82, .getfield 258, 3), (85, .iload_n 3, 1), (86, .iload 6, 2), (88, .iadd, 1), (89, .iaload, 1), (90, .istore 7, 2)] = true := by decide +kernel
theorem dX6_read_62 : decode cX6_read 62 = .ok (.iadd, 1) := dk_0 db_253
theorem dX6_read_63 : decode cX6_read 63 = .ok (.invokevirtual 252, 3) := dk_1 db_253
theorem dX6_read_66 : decode cX6_read 66 = .ok (.istore 5, 2) := dk_2 db_253
theorem dX6_read_68 : decode cX6_read 68 = .ok (.iload 5, 2) := dk_3 db_253
theorem dX6_read_70 : decode cX6_read 70 = .ok (.ifCond .eq 6, 3) := dk_4 db_253
theorem dX6_read_73 : decode cX6_read 73 = .ok (.goto 55, 3) := dk_5 db_253
theorem dX6_read_76 : decode cX6_read 76 = .ok (.aload_n 0, 1) := dk_6 db_253
theorem dX6_read_77 : decode cX6_read 77 = .ok (.getfield 57, 3) := dk_7 db_253
theorem dX6_read_80 : decode cX6_read 80 = .ok (.iload_n 1, 1) := dk_8 db_253
theorem dX6_read_81 : decode cX6_read 81 = .ok (.aaload, 1) := dk_9 db_253
theorem dX6_read_82 : decode cX6_read 82 = .ok (.getfield 258, 3) := dk_10 db_253
theorem dX6_read_85 : decode cX6_read 85 = .ok (.iload_n 3, 1) := dk_11 db_253
theorem dX6_read_86 : decode cX6_read 86 = .ok (.iload 6, 2) := dk_12 db_253
theorem dX6_read_88 : decode cX6_read 88 = .ok (.iadd, 1) := dk_13 db_253
theorem dX6_read_89 : decode cX6_read 89 = .ok (.iaload, 1) := dk_14 db_253
theorem dX6_read_90 : decode cX6_read 90 = .ok (.istore 7, 2) := dk_15 db_253
theorem db_254 : fd_G cX6_read 92 [(92, .aload_n 0, 1), (93, .getfield 16, 3), (96, .iload 7, 2), (98, .invokevirtual 137, 3), (101, .ifCond .eq 15, 3), (104, .aload_n 0, 1), (105, .getfield 16, 3), (108, .iload 7, 2), (110, .invokevirtual 236, 3), (113, .ifCond .ne 9, 3), (116, .bipush (-20), 2), (118, .iload 6, 2), (120, .isub, 1), (121, .ireturn, 1), (122, .iinc 6 1, 3), (125, .goto (-80), 3)] = true := by decide +kernel
theorem dX6_read_92 : decode cX6_read 92 = .ok (.aload_n 0, 1) := dk_0 db_254
theorem dX6_read_93 : decode cX6_read 93 = .ok (.getfield 16, 3) := dk_1 db_254
theorem dX6_read_96 : decode cX6_read 96 = .ok (.iload 7, 2) := dk_2 db_254
theorem dX6_read_98 : decode cX6_read 98 = .ok (.invokevirtual 137, 3) := dk_3 db_254
theorem dX6_read_101 : decode cX6_read 101 = .ok (.ifCond .eq 15, 3) := dk_4 db_254
theorem dX6_read_104 : decode cX6_read 104 = .ok (.aload_n 0, 1) := dk_5 db_254
theorem dX6_read_105 : decode cX6_read 105 = .ok (.getfield 16, 3) := dk_6 db_254
theorem dX6_read_108 : decode cX6_read 108 = .ok (.iload 7, 2) := dk_7 db_254
theorem dX6_read_110 : decode cX6_read 110 = .ok (.invokevirtual 236, 3) := dk_8 db_254
theorem dX6_read_113 : decode cX6_read 113 = .ok (.ifCond .ne 9, 3) := dk_9 db_254
theorem dX6_read_116 : decode cX6_read 116 = .ok (.bipush (-20), 2) := dk_10 db_254
theorem dX6_read_118 : decode cX6_read 118 = .ok (.iload 6, 2) := dk_11 db_254
theorem dX6_read_120 : decode cX6_read 120 = .ok (.isub, 1) := dk_12 db_254
theorem dX6_read_121 : decode cX6_read 121 = .ok (.ireturn, 1) := dk_13 db_254
theorem dX6_read_122 : decode cX6_read 122 = .ok (.iinc 6 1, 3) := dk_14 db_254
theorem dX6_read_125 : decode cX6_read 125 = .ok (.goto (-80), 3) := dk_15 db_254
theorem db_255 : fd_G cX6_read 128 [(128, .aload_n 0, 1), (129, .getfield 10, 3), (132, .aload_n 0, 1), (133, .getfield 16, 3), (136, .invokevirtual 84, 3), (139, .aload_n 0, 1), (140, .iload 5, 2), (142, .putfield 261, 3), (145, .iload 6, 2), (147, .ireturn, 1)] = true := by decide +kernel
theorem dX6_read_128 : decode cX6_read 128 = .ok (.aload_n 0, 1) := dk_0 db_255
theorem dX6_read_129 : decode cX6_read 129 = .ok (.getfield 10, 3) := dk_1 db_255
theorem dX6_read_132 : decode cX6_read 132 = .ok (.aload_n 0, 1) := dk_2 db_255
theorem dX6_read_133 : decode cX6_read 133 = .ok (.getfield 16, 3) := dk_3 db_255
theorem dX6_read_136 : decode cX6_read 136 = .ok (.invokevirtual 84, 3) := dk_4 db_255
theorem dX6_read_139 : decode cX6_read 139 = .ok (.aload_n 0, 1) := dk_5 db_255
theorem dX6_read_140 : decode cX6_read 140 = .ok (.iload 5, 2) := dk_6 db_255
theorem dX6_read_142 : decode cX6_read 142 = .ok (.putfield 261, 3) := dk_7 db_255
theorem dX6_read_145 : decode cX6_read 145 = .ok (.iload 6, 2) := dk_8 db_255
theorem dX6_read_147 : decode cX6_read 147 = .ok (.ireturn, 1) := dk_9 db_255
theorem db_256 : fd_G cX6_torn 0 [(0, .aload_n 0, 1), (1, .getfield 261, 3), (4, .ireturn, 1)] = true := by decide +kernel
theorem dX6_torn_0 : decode cX6_torn 0 = .ok (.aload_n 0, 1) := dk_0 db_256
theorem dX6_torn_1 : decode cX6_torn 1 = .ok (.getfield 261, 3) := dk_1 db_256
theorem dX6_torn_4 : decode cX6_torn 4 = .ok (.ireturn, 1) := dk_2 db_256
theorem dX6_count_1 : decode cX6_count 1 = .ok (.tableswitch 128 0 5 #[39, 47, 77, 85, 112, 120], 39) := by decide +kernel
theorem db_257 : fd_G cX6_count 0 [(0, .iload_n 1, 1), (40, .aload_n 0, 1), (41, .getfield 29, 3), (44, .getfield 88, 3), (47, .ireturn, 1), (48, .aload_n 0, 1), (49, .getfield 51, 3), (52, .iconst 0, 1), (53, .baload, 1), (54, .ifCond .eq 7, 3), (57, .iconst 1, 1), (58, .goto 4, 3), (61, .iconst 0, 1), (62, .aload_n 0, 1), (63, .getfield 51, 3), (66, .iconst 1, 1)] = true := by decide +kernel
theorem dX6_count_0 : decode cX6_count 0 = .ok (.iload_n 1, 1) := dk_0 db_257
theorem dX6_count_40 : decode cX6_count 40 = .ok (.aload_n 0, 1) := dk_1 db_257
theorem dX6_count_41 : decode cX6_count 41 = .ok (.getfield 29, 3) := dk_2 db_257
theorem dX6_count_44 : decode cX6_count 44 = .ok (.getfield 88, 3) := dk_3 db_257
theorem dX6_count_47 : decode cX6_count 47 = .ok (.ireturn, 1) := dk_4 db_257
theorem dX6_count_48 : decode cX6_count 48 = .ok (.aload_n 0, 1) := dk_5 db_257
theorem dX6_count_49 : decode cX6_count 49 = .ok (.getfield 51, 3) := dk_6 db_257
theorem dX6_count_52 : decode cX6_count 52 = .ok (.iconst 0, 1) := dk_7 db_257
theorem dX6_count_53 : decode cX6_count 53 = .ok (.baload, 1) := dk_8 db_257
theorem dX6_count_54 : decode cX6_count 54 = .ok (.ifCond .eq 7, 3) := dk_9 db_257
theorem dX6_count_57 : decode cX6_count 57 = .ok (.iconst 1, 1) := dk_10 db_257
theorem dX6_count_58 : decode cX6_count 58 = .ok (.goto 4, 3) := dk_11 db_257
theorem dX6_count_61 : decode cX6_count 61 = .ok (.iconst 0, 1) := dk_12 db_257
theorem dX6_count_62 : decode cX6_count 62 = .ok (.aload_n 0, 1) := dk_13 db_257
theorem dX6_count_63 : decode cX6_count 63 = .ok (.getfield 51, 3) := dk_14 db_257
theorem dX6_count_66 : decode cX6_count 66 = .ok (.iconst 1, 1) := dk_15 db_257
theorem db_258 : fd_G cX6_count 67 [(67, .baload, 1), (68, .ifCond .eq 7, 3), (71, .iconst 1, 1), (72, .goto 4, 3), (75, .iconst 0, 1), (76, .iadd, 1), (77, .ireturn, 1), (78, .aload_n 0, 1), (79, .getfield 22, 3), (82, .getfield 70, 3), (85, .ireturn, 1), (86, .aload_n 0, 1), (87, .getfield 57, 3), (90, .iconst 0, 1), (91, .aaload, 1), (92, .getfield 264, 3)] = true := by decide +kernel
theorem dX6_count_67 : decode cX6_count 67 = .ok (.baload, 1) := dk_0 db_258
theorem dX6_count_68 : decode cX6_count 68 = .ok (.ifCond .eq 7, 3) := dk_1 db_258
theorem dX6_count_71 : decode cX6_count 71 = .ok (.iconst 1, 1) := dk_2 db_258
theorem dX6_count_72 : decode cX6_count 72 = .ok (.goto 4, 3) := dk_3 db_258
theorem dX6_count_75 : decode cX6_count 75 = .ok (.iconst 0, 1) := dk_4 db_258
theorem dX6_count_76 : decode cX6_count 76 = .ok (.iadd, 1) := dk_5 db_258
theorem dX6_count_77 : decode cX6_count 77 = .ok (.ireturn, 1) := dk_6 db_258
theorem dX6_count_78 : decode cX6_count 78 = .ok (.aload_n 0, 1) := dk_7 db_258
theorem dX6_count_79 : decode cX6_count 79 = .ok (.getfield 22, 3) := dk_8 db_258
theorem dX6_count_82 : decode cX6_count 82 = .ok (.getfield 70, 3) := dk_9 db_258
theorem dX6_count_85 : decode cX6_count 85 = .ok (.ireturn, 1) := dk_10 db_258
theorem dX6_count_86 : decode cX6_count 86 = .ok (.aload_n 0, 1) := dk_11 db_258
theorem dX6_count_87 : decode cX6_count 87 = .ok (.getfield 57, 3) := dk_12 db_258
theorem dX6_count_90 : decode cX6_count 90 = .ok (.iconst 0, 1) := dk_13 db_258
theorem dX6_count_91 : decode cX6_count 91 = .ok (.aaload, 1) := dk_14 db_258
theorem dX6_count_92 : decode cX6_count 92 = .ok (.getfield 264, 3) := dk_15 db_258
theorem db_259 : fd_G cX6_count 95 [(95, .ifCond .eq 15, 3), (98, .aload_n 0, 1), (99, .getfield 57, 3), (102, .iconst 0, 1), (103, .aaload, 1), (104, .getfield 268, 3), (107, .goto 5, 3), (110, .bipush (-4), 2), (112, .ireturn, 1), (113, .aload_n 0, 1), (114, .getfield 10, 3), (117, .invokevirtual 269, 3), (120, .ireturn, 1), (121, .aload_n 0, 1), (122, .getfield 10, 3), (125, .invokevirtual 272, 3)] = true := by decide +kernel
theorem dX6_count_95 : decode cX6_count 95 = .ok (.ifCond .eq 15, 3) := dk_0 db_259
theorem dX6_count_98 : decode cX6_count 98 = .ok (.aload_n 0, 1) := dk_1 db_259
theorem dX6_count_99 : decode cX6_count 99 = .ok (.getfield 57, 3) := dk_2 db_259
theorem dX6_count_102 : decode cX6_count 102 = .ok (.iconst 0, 1) := dk_3 db_259
theorem dX6_count_103 : decode cX6_count 103 = .ok (.aaload, 1) := dk_4 db_259
theorem dX6_count_104 : decode cX6_count 104 = .ok (.getfield 268, 3) := dk_5 db_259
theorem dX6_count_107 : decode cX6_count 107 = .ok (.goto 5, 3) := dk_6 db_259
theorem dX6_count_110 : decode cX6_count 110 = .ok (.bipush (-4), 2) := dk_7 db_259
theorem dX6_count_112 : decode cX6_count 112 = .ok (.ireturn, 1) := dk_8 db_259
theorem dX6_count_113 : decode cX6_count 113 = .ok (.aload_n 0, 1) := dk_9 db_259
theorem dX6_count_114 : decode cX6_count 114 = .ok (.getfield 10, 3) := dk_10 db_259
theorem dX6_count_117 : decode cX6_count 117 = .ok (.invokevirtual 269, 3) := dk_11 db_259
theorem dX6_count_120 : decode cX6_count 120 = .ok (.ireturn, 1) := dk_12 db_259
theorem dX6_count_121 : decode cX6_count 121 = .ok (.aload_n 0, 1) := dk_13 db_259
theorem dX6_count_122 : decode cX6_count 122 = .ok (.getfield 10, 3) := dk_14 db_259
theorem dX6_count_125 : decode cX6_count 125 = .ok (.invokevirtual 272, 3) := dk_15 db_259
theorem db_260 : fd_G cX6_count 128 [(128, .ireturn, 1), (129, .iconst (-1), 1), (130, .ireturn, 1)] = true := by decide +kernel
theorem dX6_count_128 : decode cX6_count 128 = .ok (.ireturn, 1) := dk_0 db_260
theorem dX6_count_129 : decode cX6_count 129 = .ok (.iconst (-1), 1) := dk_1 db_260
theorem dX6_count_130 : decode cX6_count 130 = .ok (.ireturn, 1) := dk_2 db_260
theorem db_261 : fd_G cX6_isZeroOrOne 0 [(0, .iload_n 0, 1), (1, .ifCond .eq 8, 3), (4, .iload_n 0, 1), (5, .iconst 1, 1), (6, .if_icmp .ne 7, 3), (9, .iconst 1, 1), (10, .goto 4, 3), (13, .iconst 0, 1), (14, .ireturn, 1)] = true := by decide +kernel
theorem dX6_isZeroOrOne_0 : decode cX6_isZeroOrOne 0 = .ok (.iload_n 0, 1) := dk_0 db_261
theorem dX6_isZeroOrOne_1 : decode cX6_isZeroOrOne 1 = .ok (.ifCond .eq 8, 3) := dk_1 db_261
theorem dX6_isZeroOrOne_4 : decode cX6_isZeroOrOne 4 = .ok (.iload_n 0, 1) := dk_2 db_261
theorem dX6_isZeroOrOne_5 : decode cX6_isZeroOrOne 5 = .ok (.iconst 1, 1) := dk_3 db_261
theorem dX6_isZeroOrOne_6 : decode cX6_isZeroOrOne 6 = .ok (.if_icmp .ne 7, 3) := dk_4 db_261
theorem dX6_isZeroOrOne_9 : decode cX6_isZeroOrOne 9 = .ok (.iconst 1, 1) := dk_5 db_261
theorem dX6_isZeroOrOne_10 : decode cX6_isZeroOrOne 10 = .ok (.goto 4, 3) := dk_6 db_261
theorem dX6_isZeroOrOne_13 : decode cX6_isZeroOrOne 13 = .ok (.iconst 0, 1) := dk_7 db_261
theorem dX6_isZeroOrOne_14 : decode cX6_isZeroOrOne 14 = .ok (.ireturn, 1) := dk_8 db_261
theorem db_262 : fd_G cX6_isSheet 0 [(0, .iload_n 0, 1), (1, .ifCond .lt 12, 3), (4, .iload_n 0, 1), (5, .iconst 4, 1), (6, .if_icmp .ge 7, 3), (9, .iconst 1, 1), (10, .goto 4, 3), (13, .iconst 0, 1), (14, .ireturn, 1)] = true := by decide +kernel
theorem dX6_isSheet_0 : decode cX6_isSheet 0 = .ok (.iload_n 0, 1) := dk_0 db_262
theorem dX6_isSheet_1 : decode cX6_isSheet 1 = .ok (.ifCond .lt 12, 3) := dk_1 db_262
theorem dX6_isSheet_4 : decode cX6_isSheet 4 = .ok (.iload_n 0, 1) := dk_2 db_262
theorem dX6_isSheet_5 : decode cX6_isSheet 5 = .ok (.iconst 4, 1) := dk_3 db_262
theorem dX6_isSheet_6 : decode cX6_isSheet 6 = .ok (.if_icmp .ge 7, 3) := dk_4 db_262
theorem dX6_isSheet_9 : decode cX6_isSheet 9 = .ok (.iconst 1, 1) := dk_5 db_262
theorem dX6_isSheet_10 : decode cX6_isSheet 10 = .ok (.goto 4, 3) := dk_6 db_262
theorem dX6_isSheet_13 : decode cX6_isSheet 13 = .ok (.iconst 0, 1) := dk_7 db_262
theorem dX6_isSheet_14 : decode cX6_isSheet 14 = .ok (.ireturn, 1) := dk_8 db_262
theorem db_263 : fd_G cX6_isLane 0 [(0, .iload_n 0, 1), (1, .ifCond .lt 12, 3), (4, .iload_n 0, 1), (5, .iconst 3, 1), (6, .if_icmp .ge 7, 3), (9, .iconst 1, 1), (10, .goto 4, 3), (13, .iconst 0, 1), (14, .ireturn, 1)] = true := by decide +kernel
theorem dX6_isLane_0 : decode cX6_isLane 0 = .ok (.iload_n 0, 1) := dk_0 db_263
theorem dX6_isLane_1 : decode cX6_isLane 1 = .ok (.ifCond .lt 12, 3) := dk_1 db_263
theorem dX6_isLane_4 : decode cX6_isLane 4 = .ok (.iload_n 0, 1) := dk_2 db_263
theorem dX6_isLane_5 : decode cX6_isLane 5 = .ok (.iconst 3, 1) := dk_3 db_263
theorem dX6_isLane_6 : decode cX6_isLane 6 = .ok (.if_icmp .ge 7, 3) := dk_4 db_263
theorem dX6_isLane_9 : decode cX6_isLane 9 = .ok (.iconst 1, 1) := dk_5 db_263
theorem dX6_isLane_10 : decode cX6_isLane 10 = .ok (.goto 4, 3) := dk_6 db_263
theorem dX6_isLane_13 : decode cX6_isLane 13 = .ok (.iconst 0, 1) := dk_7 db_263
theorem dX6_isLane_14 : decode cX6_isLane 14 = .ok (.ireturn, 1) := dk_8 db_263
theorem db_264 : fd_G cX6_goneByChangedPlan 0 [(0, .aload_n 0, 1), (1, .getfield 16, 3), (4, .aload_n 0, 1), (5, .getfield 10, 3), (8, .invokevirtual 163, 3), (11, .aload_n 0, 1), (12, .getfield 16, 3), (15, .iload_n 1, 1), (16, .iload_n 2, 1), (17, .invokevirtual 275, 3), (20, .aload_n 0, 1), (21, .getfield 16, 3), (24, .invokevirtual 166, 3), (27, .aload_n 0, 1), (28, .getfield 16, 3), (31, .getfield 155, 3)] = true := by decide +kernel
theorem dX6_goneByChangedPlan_0 : decode cX6_goneByChangedPlan 0 = .ok (.aload_n 0, 1) := dk_0 db_264
theorem dX6_goneByChangedPlan_1 : decode cX6_goneByChangedPlan 1 = .ok (.getfield 16, 3) := dk_1 db_264
theorem dX6_goneByChangedPlan_4 : decode cX6_goneByChangedPlan 4 = .ok (.aload_n 0, 1) := dk_2 db_264
theorem dX6_goneByChangedPlan_5 : decode cX6_goneByChangedPlan 5 = .ok (.getfield 10, 3) := dk_3 db_264
theorem dX6_goneByChangedPlan_8 : decode cX6_goneByChangedPlan 8 = .ok (.invokevirtual 163, 3) := dk_4 db_264
theorem dX6_goneByChangedPlan_11 : decode cX6_goneByChangedPlan 11 = .ok (.aload_n 0, 1) := dk_5 db_264
theorem dX6_goneByChangedPlan_12 : decode cX6_goneByChangedPlan 12 = .ok (.getfield 16, 3) := dk_6 db_264
theorem dX6_goneByChangedPlan_15 : decode cX6_goneByChangedPlan 15 = .ok (.iload_n 1, 1) := dk_7 db_264
theorem dX6_goneByChangedPlan_16 : decode cX6_goneByChangedPlan 16 = .ok (.iload_n 2, 1) := dk_8 db_264
theorem dX6_goneByChangedPlan_17 : decode cX6_goneByChangedPlan 17 = .ok (.invokevirtual 275, 3) := dk_9 db_264
theorem dX6_goneByChangedPlan_20 : decode cX6_goneByChangedPlan 20 = .ok (.aload_n 0, 1) := dk_10 db_264
theorem dX6_goneByChangedPlan_21 : decode cX6_goneByChangedPlan 21 = .ok (.getfield 16, 3) := dk_11 db_264
theorem dX6_goneByChangedPlan_24 : decode cX6_goneByChangedPlan 24 = .ok (.invokevirtual 166, 3) := dk_12 db_264
theorem dX6_goneByChangedPlan_27 : decode cX6_goneByChangedPlan 27 = .ok (.aload_n 0, 1) := dk_13 db_264
theorem dX6_goneByChangedPlan_28 : decode cX6_goneByChangedPlan 28 = .ok (.getfield 16, 3) := dk_14 db_264
theorem dX6_goneByChangedPlan_31 : decode cX6_goneByChangedPlan 31 = .ok (.getfield 155, 3) := dk_15 db_264
theorem db_265 : fd_G cX6_goneByChangedPlan 34 [(34, .invokestatic 158, 3), (37, .ireturn, 1)] = true := by decide +kernel
theorem dX6_goneByChangedPlan_34 : decode cX6_goneByChangedPlan 34 = .ok (.invokestatic 158, 3) := dk_0 db_265
theorem dX6_goneByChangedPlan_37 : decode cX6_goneByChangedPlan 37 = .ok (.ireturn, 1) := dk_1 db_265
theorem db_266 : fd_G cX6_possibleSorrows 0 [(0, .iconst 0, 1), (1, .istore_n 2, 1), (2, .iconst 0, 1), (3, .istore_n 3, 1), (4, .iload_n 3, 1), (5, .bipush 20, 2), (7, .if_icmp .gt 73, 3), (10, .aload_n 0, 1), (11, .getfield 16, 3), (14, .aload_n 0, 1), (15, .getfield 10, 3), (18, .invokevirtual 163, 3), (21, .aload_n 0, 1), (22, .getfield 16, 3), (25, .getfield 118, 3), (28, .iload_n 1, 1)] = true := by decide +kernel
theorem dX6_possibleSorrows_0 : decode cX6_possibleSorrows 0 = .ok (.iconst 0, 1) := dk_0 db_266
theorem dX6_possibleSorrows_1 : decode cX6_possibleSorrows 1 = .ok (.istore_n 2, 1) := dk_1 db_266
theorem dX6_possibleSorrows_2 : decode cX6_possibleSorrows 2 = .ok (.iconst 0, 1) := dk_2 db_266
theorem dX6_possibleSorrows_3 : decode cX6_possibleSorrows 3 = .ok (.istore_n 3, 1) := dk_3 db_266
theorem dX6_possibleSorrows_4 : decode cX6_possibleSorrows 4 = .ok (.iload_n 3, 1) := dk_4 db_266
theorem dX6_possibleSorrows_5 : decode cX6_possibleSorrows 5 = .ok (.bipush 20, 2) := dk_5 db_266
theorem dX6_possibleSorrows_7 : decode cX6_possibleSorrows 7 = .ok (.if_icmp .gt 73, 3) := dk_6 db_266
theorem dX6_possibleSorrows_10 : decode cX6_possibleSorrows 10 = .ok (.aload_n 0, 1) := dk_7 db_266
theorem dX6_possibleSorrows_11 : decode cX6_possibleSorrows 11 = .ok (.getfield 16, 3) := dk_8 db_266
theorem dX6_possibleSorrows_14 : decode cX6_possibleSorrows 14 = .ok (.aload_n 0, 1) := dk_9 db_266
theorem dX6_possibleSorrows_15 : decode cX6_possibleSorrows 15 = .ok (.getfield 10, 3) := dk_10 db_266
theorem dX6_possibleSorrows_18 : decode cX6_possibleSorrows 18 = .ok (.invokevirtual 163, 3) := dk_11 db_266
theorem dX6_possibleSorrows_21 : decode cX6_possibleSorrows 21 = .ok (.aload_n 0, 1) := dk_12 db_266
theorem dX6_possibleSorrows_22 : decode cX6_possibleSorrows 22 = .ok (.getfield 16, 3) := dk_13 db_266
theorem dX6_possibleSorrows_25 : decode cX6_possibleSorrows 25 = .ok (.getfield 118, 3) := dk_14 db_266
theorem dX6_possibleSorrows_28 : decode cX6_possibleSorrows 28 = .ok (.iload_n 1, 1) := dk_15 db_266
theorem db_267 : fd_G cX6_possibleSorrows 29 [(29, .iload_n 3, 1), (30, .iastore, 1), (31, .aload_n 0, 1), (32, .getfield 16, 3), (35, .invokevirtual 166, 3), (38, .aload_n 0, 1), (39, .getfield 61, 3), (42, .iload_n 3, 1), (43, .aload_n 0, 1), (44, .getfield 16, 3), (47, .getfield 155, 3), (50, .iastore, 1), (51, .aload_n 0, 1), (52, .getfield 29, 3), (55, .aload_n 0, 1), (56, .getfield 16, 3)] = true := by decide +kernel
theorem dX6_possibleSorrows_29 : decode cX6_possibleSorrows 29 = .ok (.iload_n 3, 1) := dk_0 db_267
theorem dX6_possibleSorrows_30 : decode cX6_possibleSorrows 30 = .ok (.iastore, 1) := dk_1 db_267
theorem dX6_possibleSorrows_31 : decode cX6_possibleSorrows 31 = .ok (.aload_n 0, 1) := dk_2 db_267
theorem dX6_possibleSorrows_32 : decode cX6_possibleSorrows 32 = .ok (.getfield 16, 3) := dk_3 db_267
theorem dX6_possibleSorrows_35 : decode cX6_possibleSorrows 35 = .ok (.invokevirtual 166, 3) := dk_4 db_267
theorem dX6_possibleSorrows_38 : decode cX6_possibleSorrows 38 = .ok (.aload_n 0, 1) := dk_5 db_267
theorem dX6_possibleSorrows_39 : decode cX6_possibleSorrows 39 = .ok (.getfield 61, 3) := dk_6 db_267
theorem dX6_possibleSorrows_42 : decode cX6_possibleSorrows 42 = .ok (.iload_n 3, 1) := dk_7 db_267
theorem dX6_possibleSorrows_43 : decode cX6_possibleSorrows 43 = .ok (.aload_n 0, 1) := dk_8 db_267
theorem dX6_possibleSorrows_44 : decode cX6_possibleSorrows 44 = .ok (.getfield 16, 3) := dk_9 db_267
theorem dX6_possibleSorrows_47 : decode cX6_possibleSorrows 47 = .ok (.getfield 155, 3) := dk_10 db_267
theorem dX6_possibleSorrows_50 : decode cX6_possibleSorrows 50 = .ok (.iastore, 1) := dk_11 db_267
theorem dX6_possibleSorrows_51 : decode cX6_possibleSorrows 51 = .ok (.aload_n 0, 1) := dk_12 db_267
theorem dX6_possibleSorrows_52 : decode cX6_possibleSorrows 52 = .ok (.getfield 29, 3) := dk_13 db_267
theorem dX6_possibleSorrows_55 : decode cX6_possibleSorrows 55 = .ok (.aload_n 0, 1) := dk_14 db_267
theorem dX6_possibleSorrows_56 : decode cX6_possibleSorrows 56 = .ok (.getfield 16, 3) := dk_15 db_267
theorem db_268 : fd_G cX6_possibleSorrows 59 [(59, .getfield 155, 3), (62, .invokevirtual 226, 3), (65, .ifCond .eq 9, 3), (68, .iload_n 2, 1), (69, .iconst 1, 1), (70, .iload_n 3, 1), (71, .ishl, 1), (72, .ior, 1), (73, .istore_n 2, 1), (74, .iinc 3 1, 3), (77, .goto (-73), 3), (80, .iload_n 2, 1), (81, .ireturn, 1)] = true := by decide +kernel
theorem dX6_possibleSorrows_59 : decode cX6_possibleSorrows 59 = .ok (.getfield 155, 3) := dk_0 db_268
theorem dX6_possibleSorrows_62 : decode cX6_possibleSorrows 62 = .ok (.invokevirtual 226, 3) := dk_1 db_268
theorem dX6_possibleSorrows_65 : decode cX6_possibleSorrows 65 = .ok (.ifCond .eq 9, 3) := dk_2 db_268
theorem dX6_possibleSorrows_68 : decode cX6_possibleSorrows 68 = .ok (.iload_n 2, 1) := dk_3 db_268
theorem dX6_possibleSorrows_69 : decode cX6_possibleSorrows 69 = .ok (.iconst 1, 1) := dk_4 db_268
theorem dX6_possibleSorrows_70 : decode cX6_possibleSorrows 70 = .ok (.iload_n 3, 1) := dk_5 db_268
theorem dX6_possibleSorrows_71 : decode cX6_possibleSorrows 71 = .ok (.ishl, 1) := dk_6 db_268
theorem dX6_possibleSorrows_72 : decode cX6_possibleSorrows 72 = .ok (.ior, 1) := dk_7 db_268
theorem dX6_possibleSorrows_73 : decode cX6_possibleSorrows 73 = .ok (.istore_n 2, 1) := dk_8 db_268
theorem dX6_possibleSorrows_74 : decode cX6_possibleSorrows 74 = .ok (.iinc 3 1, 3) := dk_9 db_268
theorem dX6_possibleSorrows_77 : decode cX6_possibleSorrows 77 = .ok (.goto (-73), 3) := dk_10 db_268
theorem dX6_possibleSorrows_80 : decode cX6_possibleSorrows 80 = .ok (.iload_n 2, 1) := dk_11 db_268
theorem dX6_possibleSorrows_81 : decode cX6_possibleSorrows 81 = .ok (.ireturn, 1) := dk_12 db_268
theorem db_269 : fd_G cX6_leftAtWorst 0 [(0, .iconst 0, 1), (1, .istore_n 3, 1), (2, .iconst 0, 1), (3, .istore 4, 2), (5, .iconst 0, 1), (6, .istore 5, 2), (8, .iload 5, 2), (10, .bipush 20, 2), (12, .if_icmp .gt 43, 3), (15, .iload_n 1, 1), (16, .iload 5, 2), (18, .ishr, 1), (19, .iconst 1, 1), (20, .iand, 1), (21, .iconst 1, 1), (22, .if_icmp .ne 27, 3)] = true := by decide +kernel
theorem dX6_leftAtWorst_0 : decode cX6_leftAtWorst 0 = .ok (.iconst 0, 1) := dk_0 db_269
theorem dX6_leftAtWorst_1 : decode cX6_leftAtWorst 1 = .ok (.istore_n 3, 1) := dk_1 db_269
theorem dX6_leftAtWorst_2 : decode cX6_leftAtWorst 2 = .ok (.iconst 0, 1) := dk_2 db_269
theorem dX6_leftAtWorst_3 : decode cX6_leftAtWorst 3 = .ok (.istore 4, 2) := dk_3 db_269
theorem dX6_leftAtWorst_5 : decode cX6_leftAtWorst 5 = .ok (.iconst 0, 1) := dk_4 db_269
theorem dX6_leftAtWorst_6 : decode cX6_leftAtWorst 6 = .ok (.istore 5, 2) := dk_5 db_269
theorem dX6_leftAtWorst_8 : decode cX6_leftAtWorst 8 = .ok (.iload 5, 2) := dk_6 db_269
theorem dX6_leftAtWorst_10 : decode cX6_leftAtWorst 10 = .ok (.bipush 20, 2) := dk_7 db_269
theorem dX6_leftAtWorst_12 : decode cX6_leftAtWorst 12 = .ok (.if_icmp .gt 43, 3) := dk_8 db_269
theorem dX6_leftAtWorst_15 : decode cX6_leftAtWorst 15 = .ok (.iload_n 1, 1) := dk_9 db_269
theorem dX6_leftAtWorst_16 : decode cX6_leftAtWorst 16 = .ok (.iload 5, 2) := dk_10 db_269
theorem dX6_leftAtWorst_18 : decode cX6_leftAtWorst 18 = .ok (.ishr, 1) := dk_11 db_269
theorem dX6_leftAtWorst_19 : decode cX6_leftAtWorst 19 = .ok (.iconst 1, 1) := dk_12 db_269
theorem dX6_leftAtWorst_20 : decode cX6_leftAtWorst 20 = .ok (.iand, 1) := dk_13 db_269
theorem dX6_leftAtWorst_21 : decode cX6_leftAtWorst 21 = .ok (.iconst 1, 1) := dk_14 db_269
theorem dX6_leftAtWorst_22 : decode cX6_leftAtWorst 22 = .ok (.if_icmp .ne 27, 3) := dk_15 db_269
theorem db_270 : fd_G cX6_leftAtWorst 25 [(25, .aload_n 0, 1), (26, .getfield 61, 3), (29, .iload 5, 2), (31, .iaload, 1), (32, .iload_n 2, 1), (33, .ishr, 1), (34, .iconst 1, 1), (35, .iand, 1), (36, .iconst 1, 1), (37, .if_icmp .ne 9, 3), (40, .iinc 3 1, 3), (43, .goto 6, 3), (46, .iinc 4 1, 3), (49, .iinc 5 1, 3), (52, .goto (-44), 3), (55, .iload_n 3, 1)] = true := by decide +kernel
theorem dX6_leftAtWorst_25 : decode cX6_leftAtWorst 25 = .ok (.aload_n 0, 1) := dk_0 db_270
theorem dX6_leftAtWorst_26 : decode cX6_leftAtWorst 26 = .ok (.getfield 61, 3) := dk_1 db_270
theorem dX6_leftAtWorst_29 : decode cX6_leftAtWorst 29 = .ok (.iload 5, 2) := dk_2 db_270
theorem dX6_leftAtWorst_31 : decode cX6_leftAtWorst 31 = .ok (.iaload, 1) := dk_3 db_270
theorem dX6_leftAtWorst_32 : decode cX6_leftAtWorst 32 = .ok (.iload_n 2, 1) := dk_4 db_270
theorem dX6_leftAtWorst_33 : decode cX6_leftAtWorst 33 = .ok (.ishr, 1) := dk_5 db_270
theorem dX6_leftAtWorst_34 : decode cX6_leftAtWorst 34 = .ok (.iconst 1, 1) := dk_6 db_270
theorem dX6_leftAtWorst_35 : decode cX6_leftAtWorst 35 = .ok (.iand, 1) := dk_7 db_270
theorem dX6_leftAtWorst_36 : decode cX6_leftAtWorst 36 = .ok (.iconst 1, 1) := dk_8 db_270
theorem dX6_leftAtWorst_37 : decode cX6_leftAtWorst 37 = .ok (.if_icmp .ne 9, 3) := dk_9 db_270
theorem dX6_leftAtWorst_40 : decode cX6_leftAtWorst 40 = .ok (.iinc 3 1, 3) := dk_10 db_270
theorem dX6_leftAtWorst_43 : decode cX6_leftAtWorst 43 = .ok (.goto 6, 3) := dk_11 db_270
theorem dX6_leftAtWorst_46 : decode cX6_leftAtWorst 46 = .ok (.iinc 4 1, 3) := dk_12 db_270
theorem dX6_leftAtWorst_49 : decode cX6_leftAtWorst 49 = .ok (.iinc 5 1, 3) := dk_13 db_270
theorem dX6_leftAtWorst_52 : decode cX6_leftAtWorst 52 = .ok (.goto (-44), 3) := dk_14 db_270
theorem dX6_leftAtWorst_55 : decode cX6_leftAtWorst 55 = .ok (.iload_n 3, 1) := dk_15 db_270
theorem db_271 : fd_G cX6_leftAtWorst 56 [(56, .iload 4, 2), (58, .invokestatic 278, 3), (61, .ireturn, 1)] = true := by decide +kernel
theorem dX6_leftAtWorst_56 : decode cX6_leftAtWorst 56 = .ok (.iload 4, 2) := dk_0 db_271
theorem dX6_leftAtWorst_58 : decode cX6_leftAtWorst 58 = .ok (.invokestatic 278, 3) := dk_1 db_271
theorem dX6_leftAtWorst_61 : decode cX6_leftAtWorst 61 = .ok (.ireturn, 1) := dk_2 db_271
theorem dX6_partOfFraction_0 : decode cX6_partOfFraction 0 = .ok (.lload_n 0, 1) := by decide +kernel
theorem dX6_partOfFraction_12 : decode cX6_partOfFraction 12 = .ok (.lload_n 0, 1) := by decide +kernel
theorem dX6_partOfFraction_22 : decode cX6_partOfFraction 22 = .ok (.lcmp, 1) := by decide +kernel
theorem dX6_partOfFraction_23 : decode cX6_partOfFraction 23 = .ok (.ifCond .ge 8, 3) := by decide +kernel
theorem dX6_partOfFraction_35 : decode cX6_partOfFraction 35 = .ok (.ldiv, 1) := by decide +kernel
theorem db_272 : fd_G cX6_partOfFraction 1 [(1, .lload_n 2, 1), (2, .invokestatic 283, 3), (5, .lstore 5, 2), (7, .iload 4, 2), (9, .ifCond .ne 7, 3), (13, .goto 4, 3), (16, .lload_n 2, 1), (17, .lstore 7, 2), (19, .lload 5, 2), (21, .lconst 1, 1), (26, .lload 7, 2), (28, .goto 8, 3), (31, .lload 7, 2), (33, .lload 5, 2), (36, .lreturn, 1)] = true := by decide +kernel
theorem dX6_partOfFraction_1 : decode cX6_partOfFraction 1 = .ok (.lload_n 2, 1) := dk_0 db_272
theorem dX6_partOfFraction_2 : decode cX6_partOfFraction 2 = .ok (.invokestatic 283, 3) := dk_1 db_272
theorem dX6_partOfFraction_5 : decode cX6_partOfFraction 5 = .ok (.lstore 5, 2) := dk_2 db_272
theorem dX6_partOfFraction_7 : decode cX6_partOfFraction 7 = .ok (.iload 4, 2) := dk_3 db_272
theorem dX6_partOfFraction_9 : decode cX6_partOfFraction 9 = .ok (.ifCond .ne 7, 3) := dk_4 db_272
theorem dX6_partOfFraction_13 : decode cX6_partOfFraction 13 = .ok (.goto 4, 3) := dk_5 db_272
theorem dX6_partOfFraction_16 : decode cX6_partOfFraction 16 = .ok (.lload_n 2, 1) := dk_6 db_272
theorem dX6_partOfFraction_17 : decode cX6_partOfFraction 17 = .ok (.lstore 7, 2) := dk_7 db_272
theorem dX6_partOfFraction_19 : decode cX6_partOfFraction 19 = .ok (.lload 5, 2) := dk_8 db_272
theorem dX6_partOfFraction_21 : decode cX6_partOfFraction 21 = .ok (.lconst 1, 1) := dk_9 db_272
theorem dX6_partOfFraction_26 : decode cX6_partOfFraction 26 = .ok (.lload 7, 2) := dk_10 db_272
theorem dX6_partOfFraction_28 : decode cX6_partOfFraction 28 = .ok (.goto 8, 3) := dk_11 db_272
theorem dX6_partOfFraction_31 : decode cX6_partOfFraction 31 = .ok (.lload 7, 2) := dk_12 db_272
theorem dX6_partOfFraction_33 : decode cX6_partOfFraction 33 = .ok (.lload 5, 2) := dk_13 db_272
theorem dX6_partOfFraction_36 : decode cX6_partOfFraction 36 = .ok (.lreturn, 1) := dk_14 db_272
theorem dX6_greatestDivisor_13 : decode cX6_greatestDivisor 13 = .ok (.lcmp, 1) := by decide +kernel
theorem dX6_greatestDivisor_17 : decode cX6_greatestDivisor 17 = .ok (.lload_n 0, 1) := by decide +kernel
theorem dX6_greatestDivisor_19 : decode cX6_greatestDivisor 19 = .ok (.lrem, 1) := by decide +kernel
theorem dX6_greatestDivisor_23 : decode cX6_greatestDivisor 23 = .ok (.lstore_n 0, 1) := by decide +kernel
theorem dX6_greatestDivisor_26 : decode cX6_greatestDivisor 26 = .ok (.lstore_n 2, 1) := by decide +kernel
theorem dX6_greatestDivisor_33 : decode cX6_greatestDivisor 33 = .ok (.lload_n 0, 1) := by decide +kernel
theorem db_273 : fd_G cX6_greatestDivisor 0 [(0, .iconst 0, 1), (1, .istore 4, 2), (3, .iload 4, 2), (5, .sipush 200, 3), (8, .if_icmp .ge 25, 3), (11, .lload_n 2, 1), (12, .lconst 0, 1), (14, .ifCond .eq 19, 3), (18, .lload_n 2, 1), (20, .lstore 5, 2), (22, .lload_n 2, 1), (24, .lload 5, 2), (27, .iinc 4 1, 3), (30, .goto (-27), 3), (34, .lreturn, 1)] = true := by decide +kernel
theorem dX6_greatestDivisor_0 : decode cX6_greatestDivisor 0 = .ok (.iconst 0, 1) := dk_0 db_273
theorem dX6_greatestDivisor_1 : decode cX6_greatestDivisor 1 = .ok (.istore 4, 2) := dk_1 db_273
theorem dX6_greatestDivisor_3 : decode cX6_greatestDivisor 3 = .ok (.iload 4, 2) := dk_2 db_273
theorem dX6_greatestDivisor_5 : decode cX6_greatestDivisor 5 = .ok (.sipush 200, 3) := dk_3 db_273
theorem dX6_greatestDivisor_8 : decode cX6_greatestDivisor 8 = .ok (.if_icmp .ge 25, 3) := dk_4 db_273
theorem dX6_greatestDivisor_11 : decode cX6_greatestDivisor 11 = .ok (.lload_n 2, 1) := dk_5 db_273
theorem dX6_greatestDivisor_12 : decode cX6_greatestDivisor 12 = .ok (.lconst 0, 1) := dk_6 db_273
theorem dX6_greatestDivisor_14 : decode cX6_greatestDivisor 14 = .ok (.ifCond .eq 19, 3) := dk_7 db_273
theorem dX6_greatestDivisor_18 : decode cX6_greatestDivisor 18 = .ok (.lload_n 2, 1) := dk_8 db_273
theorem dX6_greatestDivisor_20 : decode cX6_greatestDivisor 20 = .ok (.lstore 5, 2) := dk_9 db_273
theorem dX6_greatestDivisor_22 : decode cX6_greatestDivisor 22 = .ok (.lload_n 2, 1) := dk_10 db_273
theorem dX6_greatestDivisor_24 : decode cX6_greatestDivisor 24 = .ok (.lload 5, 2) := dk_11 db_273
theorem dX6_greatestDivisor_27 : decode cX6_greatestDivisor 27 = .ok (.iinc 4 1, 3) := dk_12 db_273
theorem dX6_greatestDivisor_30 : decode cX6_greatestDivisor 30 = .ok (.goto (-27), 3) := dk_13 db_273
theorem dX6_greatestDivisor_34 : decode cX6_greatestDivisor 34 = .ok (.lreturn, 1) := dk_14 db_273
