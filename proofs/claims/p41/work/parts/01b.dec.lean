theorem dX1_init_6 : decode cX1_init 6 = .ok (.newarray .int, 2) := by decide +kernel
theorem dX1_init_13 : decode cX1_init 13 = .ok (.newarray .int, 2) := by decide +kernel
theorem dX1_init_20 : decode cX1_init 20 = .ok (.newarray .int, 2) := by decide +kernel
theorem dX1_init_28 : decode cX1_init 28 = .ok (.newarray .int, 2) := by decide +kernel
theorem da_0 : fd_G cX1_init 0 [(0, .aload_n 0, 1), (1, .invokespecial 3, 3), (4, .aload_n 0, 1), (5, .iconst 5, 1), (8, .putfield 9, 3), (11, .aload_n 0, 1), (12, .iconst 5, 1), (15, .putfield 15, 3), (18, .aload_n 0, 1), (19, .iconst 5, 1), (22, .putfield 18, 3), (25, .aload_n 0, 1), (26, .bipush 8, 2), (30, .putfield 21, 3), (33, .aload_n 0, 1), (34, .iconst 5, 1)] = true := by decide +kernel
theorem dX1_init_0 : decode cX1_init 0 = .ok (.aload_n 0, 1) := dk_0 da_0
theorem dX1_init_1 : decode cX1_init 1 = .ok (.invokespecial 3, 3) := dk_1 da_0
theorem dX1_init_4 : decode cX1_init 4 = .ok (.aload_n 0, 1) := dk_2 da_0
theorem dX1_init_5 : decode cX1_init 5 = .ok (.iconst 5, 1) := dk_3 da_0
theorem dX1_init_8 : decode cX1_init 8 = .ok (.putfield 9, 3) := dk_4 da_0
theorem dX1_init_11 : decode cX1_init 11 = .ok (.aload_n 0, 1) := dk_5 da_0
theorem dX1_init_12 : decode cX1_init 12 = .ok (.iconst 5, 1) := dk_6 da_0
theorem dX1_init_15 : decode cX1_init 15 = .ok (.putfield 15, 3) := dk_7 da_0
theorem dX1_init_18 : decode cX1_init 18 = .ok (.aload_n 0, 1) := dk_8 da_0
theorem dX1_init_19 : decode cX1_init 19 = .ok (.iconst 5, 1) := dk_9 da_0
theorem dX1_init_22 : decode cX1_init 22 = .ok (.putfield 18, 3) := dk_10 da_0
theorem dX1_init_25 : decode cX1_init 25 = .ok (.aload_n 0, 1) := dk_11 da_0
theorem dX1_init_26 : decode cX1_init 26 = .ok (.bipush 8, 2) := dk_12 da_0
theorem dX1_init_30 : decode cX1_init 30 = .ok (.putfield 21, 3) := dk_13 da_0
theorem dX1_init_33 : decode cX1_init 33 = .ok (.aload_n 0, 1) := dk_14 da_0
theorem dX1_init_34 : decode cX1_init 34 = .ok (.iconst 5, 1) := dk_15 da_0
theorem dX1_init_35 : decode cX1_init 35 = .ok (.newarray .int, 2) := by decide +kernel
theorem da_1 : fd_G cX1_init 37 [(37, .putfield 24, 3), (40, .aload_n 0, 1), (41, .iconst 2, 1), (42, .putfield 27, 3), (45, .aload_n 0, 1), (46, .iconst 4, 1), (47, .putfield 31, 3), (50, .aload_n 0, 1), (51, .bipush (-4), 2), (53, .putfield 34, 3), (56, .return_, 1)] = true := by decide +kernel
theorem dX1_init_37 : decode cX1_init 37 = .ok (.putfield 24, 3) := dk_0 da_1
theorem dX1_init_40 : decode cX1_init 40 = .ok (.aload_n 0, 1) := dk_1 da_1
theorem dX1_init_41 : decode cX1_init 41 = .ok (.iconst 2, 1) := dk_2 da_1
theorem dX1_init_42 : decode cX1_init 42 = .ok (.putfield 27, 3) := dk_3 da_1
theorem dX1_init_45 : decode cX1_init 45 = .ok (.aload_n 0, 1) := dk_4 da_1
theorem dX1_init_46 : decode cX1_init 46 = .ok (.iconst 4, 1) := dk_5 da_1
theorem dX1_init_47 : decode cX1_init 47 = .ok (.putfield 31, 3) := dk_6 da_1
theorem dX1_init_50 : decode cX1_init 50 = .ok (.aload_n 0, 1) := dk_7 da_1
theorem dX1_init_51 : decode cX1_init 51 = .ok (.bipush (-4), 2) := dk_8 da_1
theorem dX1_init_53 : decode cX1_init 53 = .ok (.putfield 34, 3) := dk_9 da_1
theorem dX1_init_56 : decode cX1_init 56 = .ok (.return_, 1) := dk_10 da_1
theorem da_2 : fd_G cX1_clear 0 [(0, .aload_n 0, 1), (1, .iconst 0, 1), (2, .putfield 37, 3), (5, .aload_n 0, 1), (6, .iconst 0, 1), (7, .putfield 40, 3), (10, .aload_n 0, 1), (11, .iconst 0, 1), (12, .putfield 43, 3), (15, .aload_n 0, 1), (16, .iconst 2, 1), (17, .putfield 27, 3), (20, .aload_n 0, 1), (21, .iconst 4, 1), (22, .putfield 31, 3), (25, .aload_n 0, 1)] = true := by decide +kernel
theorem dX1_clear_0 : decode cX1_clear 0 = .ok (.aload_n 0, 1) := dk_0 da_2
theorem dX1_clear_1 : decode cX1_clear 1 = .ok (.iconst 0, 1) := dk_1 da_2
theorem dX1_clear_2 : decode cX1_clear 2 = .ok (.putfield 37, 3) := dk_2 da_2
theorem dX1_clear_5 : decode cX1_clear 5 = .ok (.aload_n 0, 1) := dk_3 da_2
theorem dX1_clear_6 : decode cX1_clear 6 = .ok (.iconst 0, 1) := dk_4 da_2
theorem dX1_clear_7 : decode cX1_clear 7 = .ok (.putfield 40, 3) := dk_5 da_2
theorem dX1_clear_10 : decode cX1_clear 10 = .ok (.aload_n 0, 1) := dk_6 da_2
theorem dX1_clear_11 : decode cX1_clear 11 = .ok (.iconst 0, 1) := dk_7 da_2
theorem dX1_clear_12 : decode cX1_clear 12 = .ok (.putfield 43, 3) := dk_8 da_2
theorem dX1_clear_15 : decode cX1_clear 15 = .ok (.aload_n 0, 1) := dk_9 da_2
theorem dX1_clear_16 : decode cX1_clear 16 = .ok (.iconst 2, 1) := dk_10 da_2
theorem dX1_clear_17 : decode cX1_clear 17 = .ok (.putfield 27, 3) := dk_11 da_2
theorem dX1_clear_20 : decode cX1_clear 20 = .ok (.aload_n 0, 1) := dk_12 da_2
theorem dX1_clear_21 : decode cX1_clear 21 = .ok (.iconst 4, 1) := dk_13 da_2
theorem dX1_clear_22 : decode cX1_clear 22 = .ok (.putfield 31, 3) := dk_14 da_2
theorem dX1_clear_25 : decode cX1_clear 25 = .ok (.aload_n 0, 1) := dk_15 da_2
theorem da_3 : fd_G cX1_clear 26 [(26, .iconst 0, 1), (27, .putfield 46, 3), (30, .aload_n 0, 1), (31, .invokevirtual 49, 3), (34, .return_, 1)] = true := by decide +kernel
theorem dX1_clear_26 : decode cX1_clear 26 = .ok (.iconst 0, 1) := dk_0 da_3
theorem dX1_clear_27 : decode cX1_clear 27 = .ok (.putfield 46, 3) := dk_1 da_3
theorem dX1_clear_30 : decode cX1_clear 30 = .ok (.aload_n 0, 1) := dk_2 da_3
theorem dX1_clear_31 : decode cX1_clear 31 = .ok (.invokevirtual 49, 3) := dk_3 da_3
theorem dX1_clear_34 : decode cX1_clear 34 = .ok (.return_, 1) := dk_4 da_3
theorem da_4 : fd_G cX1_clearTally 0 [(0, .aload_n 0, 1), (1, .iconst 0, 1), (2, .putfield 52, 3), (5, .aload_n 0, 1), (6, .iconst 0, 1), (7, .putfield 55, 3), (10, .aload_n 0, 1), (11, .bipush (-4), 2), (13, .putfield 34, 3), (16, .return_, 1)] = true := by decide +kernel
theorem dX1_clearTally_0 : decode cX1_clearTally 0 = .ok (.aload_n 0, 1) := dk_0 da_4
theorem dX1_clearTally_1 : decode cX1_clearTally 1 = .ok (.iconst 0, 1) := dk_1 da_4
theorem dX1_clearTally_2 : decode cX1_clearTally 2 = .ok (.putfield 52, 3) := dk_2 da_4
theorem dX1_clearTally_5 : decode cX1_clearTally 5 = .ok (.aload_n 0, 1) := dk_3 da_4
theorem dX1_clearTally_6 : decode cX1_clearTally 6 = .ok (.iconst 0, 1) := dk_4 da_4
theorem dX1_clearTally_7 : decode cX1_clearTally 7 = .ok (.putfield 55, 3) := dk_5 da_4
theorem dX1_clearTally_10 : decode cX1_clearTally 10 = .ok (.aload_n 0, 1) := dk_6 da_4
theorem dX1_clearTally_11 : decode cX1_clearTally 11 = .ok (.bipush (-4), 2) := dk_7 da_4
theorem dX1_clearTally_13 : decode cX1_clearTally 13 = .ok (.putfield 34, 3) := dk_8 da_4
theorem dX1_clearTally_16 : decode cX1_clearTally 16 = .ok (.return_, 1) := dk_9 da_4
theorem da_5 : fd_G cX1_copyFrom 0 [(0, .aload_n 1, 1), (1, .getfield 9, 3), (4, .iconst 0, 1), (5, .aload_n 0, 1), (6, .getfield 9, 3), (9, .iconst 0, 1), (10, .iconst 5, 1), (11, .invokestatic 58, 3), (14, .aload_n 1, 1), (15, .getfield 15, 3), (18, .iconst 0, 1), (19, .aload_n 0, 1), (20, .getfield 15, 3), (23, .iconst 0, 1), (24, .iconst 5, 1), (25, .invokestatic 58, 3)] = true := by decide +kernel
theorem dX1_copyFrom_0 : decode cX1_copyFrom 0 = .ok (.aload_n 1, 1) := dk_0 da_5
theorem dX1_copyFrom_1 : decode cX1_copyFrom 1 = .ok (.getfield 9, 3) := dk_1 da_5
theorem dX1_copyFrom_4 : decode cX1_copyFrom 4 = .ok (.iconst 0, 1) := dk_2 da_5
theorem dX1_copyFrom_5 : decode cX1_copyFrom 5 = .ok (.aload_n 0, 1) := dk_3 da_5
theorem dX1_copyFrom_6 : decode cX1_copyFrom 6 = .ok (.getfield 9, 3) := dk_4 da_5
theorem dX1_copyFrom_9 : decode cX1_copyFrom 9 = .ok (.iconst 0, 1) := dk_5 da_5
theorem dX1_copyFrom_10 : decode cX1_copyFrom 10 = .ok (.iconst 5, 1) := dk_6 da_5
theorem dX1_copyFrom_11 : decode cX1_copyFrom 11 = .ok (.invokestatic 58, 3) := dk_7 da_5
theorem dX1_copyFrom_14 : decode cX1_copyFrom 14 = .ok (.aload_n 1, 1) := dk_8 da_5
theorem dX1_copyFrom_15 : decode cX1_copyFrom 15 = .ok (.getfield 15, 3) := dk_9 da_5
theorem dX1_copyFrom_18 : decode cX1_copyFrom 18 = .ok (.iconst 0, 1) := dk_10 da_5
theorem dX1_copyFrom_19 : decode cX1_copyFrom 19 = .ok (.aload_n 0, 1) := dk_11 da_5
theorem dX1_copyFrom_20 : decode cX1_copyFrom 20 = .ok (.getfield 15, 3) := dk_12 da_5
theorem dX1_copyFrom_23 : decode cX1_copyFrom 23 = .ok (.iconst 0, 1) := dk_13 da_5
theorem dX1_copyFrom_24 : decode cX1_copyFrom 24 = .ok (.iconst 5, 1) := dk_14 da_5
theorem dX1_copyFrom_25 : decode cX1_copyFrom 25 = .ok (.invokestatic 58, 3) := dk_15 da_5
theorem da_6 : fd_G cX1_copyFrom 28 [(28, .aload_n 1, 1), (29, .getfield 18, 3), (32, .iconst 0, 1), (33, .aload_n 0, 1), (34, .getfield 18, 3), (37, .iconst 0, 1), (38, .iconst 5, 1), (39, .invokestatic 58, 3), (42, .aload_n 1, 1), (43, .getfield 21, 3), (46, .iconst 0, 1), (47, .aload_n 0, 1), (48, .getfield 21, 3), (51, .iconst 0, 1), (52, .bipush 8, 2), (54, .invokestatic 58, 3)] = true := by decide +kernel
theorem dX1_copyFrom_28 : decode cX1_copyFrom 28 = .ok (.aload_n 1, 1) := dk_0 da_6
theorem dX1_copyFrom_29 : decode cX1_copyFrom 29 = .ok (.getfield 18, 3) := dk_1 da_6
theorem dX1_copyFrom_32 : decode cX1_copyFrom 32 = .ok (.iconst 0, 1) := dk_2 da_6
theorem dX1_copyFrom_33 : decode cX1_copyFrom 33 = .ok (.aload_n 0, 1) := dk_3 da_6
theorem dX1_copyFrom_34 : decode cX1_copyFrom 34 = .ok (.getfield 18, 3) := dk_4 da_6
theorem dX1_copyFrom_37 : decode cX1_copyFrom 37 = .ok (.iconst 0, 1) := dk_5 da_6
theorem dX1_copyFrom_38 : decode cX1_copyFrom 38 = .ok (.iconst 5, 1) := dk_6 da_6
theorem dX1_copyFrom_39 : decode cX1_copyFrom 39 = .ok (.invokestatic 58, 3) := dk_7 da_6
theorem dX1_copyFrom_42 : decode cX1_copyFrom 42 = .ok (.aload_n 1, 1) := dk_8 da_6
theorem dX1_copyFrom_43 : decode cX1_copyFrom 43 = .ok (.getfield 21, 3) := dk_9 da_6
theorem dX1_copyFrom_46 : decode cX1_copyFrom 46 = .ok (.iconst 0, 1) := dk_10 da_6
theorem dX1_copyFrom_47 : decode cX1_copyFrom 47 = .ok (.aload_n 0, 1) := dk_11 da_6
theorem dX1_copyFrom_48 : decode cX1_copyFrom 48 = .ok (.getfield 21, 3) := dk_12 da_6
theorem dX1_copyFrom_51 : decode cX1_copyFrom 51 = .ok (.iconst 0, 1) := dk_13 da_6
theorem dX1_copyFrom_52 : decode cX1_copyFrom 52 = .ok (.bipush 8, 2) := dk_14 da_6
theorem dX1_copyFrom_54 : decode cX1_copyFrom 54 = .ok (.invokestatic 58, 3) := dk_15 da_6
theorem da_7 : fd_G cX1_copyFrom 57 [(57, .aload_n 0, 1), (58, .aload_n 1, 1), (59, .getfield 37, 3), (62, .putfield 37, 3), (65, .aload_n 0, 1), (66, .aload_n 1, 1), (67, .getfield 40, 3), (70, .putfield 40, 3), (73, .aload_n 0, 1), (74, .aload_n 1, 1), (75, .getfield 43, 3), (78, .putfield 43, 3), (81, .aload_n 0, 1), (82, .aload_n 1, 1), (83, .getfield 27, 3), (86, .putfield 27, 3)] = true := by decide +kernel
theorem dX1_copyFrom_57 : decode cX1_copyFrom 57 = .ok (.aload_n 0, 1) := dk_0 da_7
theorem dX1_copyFrom_58 : decode cX1_copyFrom 58 = .ok (.aload_n 1, 1) := dk_1 da_7
theorem dX1_copyFrom_59 : decode cX1_copyFrom 59 = .ok (.getfield 37, 3) := dk_2 da_7
theorem dX1_copyFrom_62 : decode cX1_copyFrom 62 = .ok (.putfield 37, 3) := dk_3 da_7
theorem dX1_copyFrom_65 : decode cX1_copyFrom 65 = .ok (.aload_n 0, 1) := dk_4 da_7
theorem dX1_copyFrom_66 : decode cX1_copyFrom 66 = .ok (.aload_n 1, 1) := dk_5 da_7
theorem dX1_copyFrom_67 : decode cX1_copyFrom 67 = .ok (.getfield 40, 3) := dk_6 da_7
theorem dX1_copyFrom_70 : decode cX1_copyFrom 70 = .ok (.putfield 40, 3) := dk_7 da_7
theorem dX1_copyFrom_73 : decode cX1_copyFrom 73 = .ok (.aload_n 0, 1) := dk_8 da_7
theorem dX1_copyFrom_74 : decode cX1_copyFrom 74 = .ok (.aload_n 1, 1) := dk_9 da_7
theorem dX1_copyFrom_75 : decode cX1_copyFrom 75 = .ok (.getfield 43, 3) := dk_10 da_7
theorem dX1_copyFrom_78 : decode cX1_copyFrom 78 = .ok (.putfield 43, 3) := dk_11 da_7
theorem dX1_copyFrom_81 : decode cX1_copyFrom 81 = .ok (.aload_n 0, 1) := dk_12 da_7
theorem dX1_copyFrom_82 : decode cX1_copyFrom 82 = .ok (.aload_n 1, 1) := dk_13 da_7
theorem dX1_copyFrom_83 : decode cX1_copyFrom 83 = .ok (.getfield 27, 3) := dk_14 da_7
theorem dX1_copyFrom_86 : decode cX1_copyFrom 86 = .ok (.putfield 27, 3) := dk_15 da_7
theorem da_8 : fd_G cX1_copyFrom 89 [(89, .aload_n 0, 1), (90, .aload_n 1, 1), (91, .getfield 31, 3), (94, .putfield 31, 3), (97, .aload_n 0, 1), (98, .aload_n 1, 1), (99, .getfield 46, 3), (102, .putfield 46, 3), (105, .aload_n 0, 1), (106, .aload_n 1, 1), (107, .getfield 52, 3), (110, .putfield 52, 3), (113, .aload_n 0, 1), (114, .aload_n 1, 1), (115, .getfield 55, 3), (118, .putfield 55, 3)] = true := by decide +kernel
theorem dX1_copyFrom_89 : decode cX1_copyFrom 89 = .ok (.aload_n 0, 1) := dk_0 da_8
theorem dX1_copyFrom_90 : decode cX1_copyFrom 90 = .ok (.aload_n 1, 1) := dk_1 da_8
theorem dX1_copyFrom_91 : decode cX1_copyFrom 91 = .ok (.getfield 31, 3) := dk_2 da_8
theorem dX1_copyFrom_94 : decode cX1_copyFrom 94 = .ok (.putfield 31, 3) := dk_3 da_8
theorem dX1_copyFrom_97 : decode cX1_copyFrom 97 = .ok (.aload_n 0, 1) := dk_4 da_8
theorem dX1_copyFrom_98 : decode cX1_copyFrom 98 = .ok (.aload_n 1, 1) := dk_5 da_8
theorem dX1_copyFrom_99 : decode cX1_copyFrom 99 = .ok (.getfield 46, 3) := dk_6 da_8
theorem dX1_copyFrom_102 : decode cX1_copyFrom 102 = .ok (.putfield 46, 3) := dk_7 da_8
theorem dX1_copyFrom_105 : decode cX1_copyFrom 105 = .ok (.aload_n 0, 1) := dk_8 da_8
theorem dX1_copyFrom_106 : decode cX1_copyFrom 106 = .ok (.aload_n 1, 1) := dk_9 da_8
theorem dX1_copyFrom_107 : decode cX1_copyFrom 107 = .ok (.getfield 52, 3) := dk_10 da_8
theorem dX1_copyFrom_110 : decode cX1_copyFrom 110 = .ok (.putfield 52, 3) := dk_11 da_8
theorem dX1_copyFrom_113 : decode cX1_copyFrom 113 = .ok (.aload_n 0, 1) := dk_12 da_8
theorem dX1_copyFrom_114 : decode cX1_copyFrom 114 = .ok (.aload_n 1, 1) := dk_13 da_8
theorem dX1_copyFrom_115 : decode cX1_copyFrom 115 = .ok (.getfield 55, 3) := dk_14 da_8
theorem dX1_copyFrom_118 : decode cX1_copyFrom 118 = .ok (.putfield 55, 3) := dk_15 da_8
theorem da_9 : fd_G cX1_copyFrom 121 [(121, .aload_n 0, 1), (122, .aload_n 1, 1), (123, .getfield 34, 3), (126, .putfield 34, 3), (129, .return_, 1)] = true := by decide +kernel
theorem dX1_copyFrom_121 : decode cX1_copyFrom 121 = .ok (.aload_n 0, 1) := dk_0 da_9
theorem dX1_copyFrom_122 : decode cX1_copyFrom 122 = .ok (.aload_n 1, 1) := dk_1 da_9
theorem dX1_copyFrom_123 : decode cX1_copyFrom 123 = .ok (.getfield 34, 3) := dk_2 da_9
theorem dX1_copyFrom_126 : decode cX1_copyFrom 126 = .ok (.putfield 34, 3) := dk_3 da_9
theorem dX1_copyFrom_129 : decode cX1_copyFrom 129 = .ok (.return_, 1) := dk_4 da_9
theorem da_10 : fd_G cX1_startFrom 0 [(0, .aload_n 0, 1), (1, .aload_n 1, 1), (2, .invokevirtual 64, 3), (5, .aload_n 0, 1), (6, .invokevirtual 49, 3), (9, .return_, 1)] = true := by decide +kernel
theorem dX1_startFrom_0 : decode cX1_startFrom 0 = .ok (.aload_n 0, 1) := dk_0 da_10
theorem dX1_startFrom_1 : decode cX1_startFrom 1 = .ok (.aload_n 1, 1) := dk_1 da_10
theorem dX1_startFrom_2 : decode cX1_startFrom 2 = .ok (.invokevirtual 64, 3) := dk_2 da_10
theorem dX1_startFrom_5 : decode cX1_startFrom 5 = .ok (.aload_n 0, 1) := dk_3 da_10
theorem dX1_startFrom_6 : decode cX1_startFrom 6 = .ok (.invokevirtual 49, 3) := dk_4 da_10
theorem dX1_startFrom_9 : decode cX1_startFrom 9 = .ok (.return_, 1) := dk_5 da_10
theorem da_11 : fd_G cX1_isThere 0 [(0, .iload_n 1, 1), (1, .ifCond .lt 15, 3), (4, .iload_n 1, 1), (5, .aload_n 0, 1), (6, .getfield 37, 3), (9, .if_icmp .ge 7, 3), (12, .iconst 1, 1), (13, .goto 4, 3), (16, .iconst 0, 1), (17, .ireturn, 1)] = true := by decide +kernel
theorem dX1_isThere_0 : decode cX1_isThere 0 = .ok (.iload_n 1, 1) := dk_0 da_11
theorem dX1_isThere_1 : decode cX1_isThere 1 = .ok (.ifCond .lt 15, 3) := dk_1 da_11
theorem dX1_isThere_4 : decode cX1_isThere 4 = .ok (.iload_n 1, 1) := dk_2 da_11
theorem dX1_isThere_5 : decode cX1_isThere 5 = .ok (.aload_n 0, 1) := dk_3 da_11
theorem dX1_isThere_6 : decode cX1_isThere 6 = .ok (.getfield 37, 3) := dk_4 da_11
theorem dX1_isThere_9 : decode cX1_isThere 9 = .ok (.if_icmp .ge 7, 3) := dk_5 da_11
theorem dX1_isThere_12 : decode cX1_isThere 12 = .ok (.iconst 1, 1) := dk_6 da_11
theorem dX1_isThere_13 : decode cX1_isThere 13 = .ok (.goto 4, 3) := dk_7 da_11
theorem dX1_isThere_16 : decode cX1_isThere 16 = .ok (.iconst 0, 1) := dk_8 da_11
theorem dX1_isThere_17 : decode cX1_isThere 17 = .ok (.ireturn, 1) := dk_9 da_11
theorem da_12 : fd_G cX1_waits 0 [(0, .iload_n 1, 1), (1, .ifCond .lt 26, 3), (4, .iload_n 1, 1), (5, .aload_n 0, 1), (6, .getfield 37, 3), (9, .if_icmp .ge 18, 3), (12, .aload_n 0, 1), (13, .getfield 40, 3), (16, .iload_n 1, 1), (17, .ishr, 1), (18, .iconst 1, 1), (19, .iand, 1), (20, .ifCond .ne 7, 3), (23, .iconst 1, 1), (24, .goto 4, 3), (27, .iconst 0, 1)] = true := by decide +kernel
theorem dX1_waits_0 : decode cX1_waits 0 = .ok (.iload_n 1, 1) := dk_0 da_12
theorem dX1_waits_1 : decode cX1_waits 1 = .ok (.ifCond .lt 26, 3) := dk_1 da_12
theorem dX1_waits_4 : decode cX1_waits 4 = .ok (.iload_n 1, 1) := dk_2 da_12
theorem dX1_waits_5 : decode cX1_waits 5 = .ok (.aload_n 0, 1) := dk_3 da_12
theorem dX1_waits_6 : decode cX1_waits 6 = .ok (.getfield 37, 3) := dk_4 da_12
theorem dX1_waits_9 : decode cX1_waits 9 = .ok (.if_icmp .ge 18, 3) := dk_5 da_12
theorem dX1_waits_12 : decode cX1_waits 12 = .ok (.aload_n 0, 1) := dk_6 da_12
theorem dX1_waits_13 : decode cX1_waits 13 = .ok (.getfield 40, 3) := dk_7 da_12
theorem dX1_waits_16 : decode cX1_waits 16 = .ok (.iload_n 1, 1) := dk_8 da_12
theorem dX1_waits_17 : decode cX1_waits 17 = .ok (.ishr, 1) := dk_9 da_12
theorem dX1_waits_18 : decode cX1_waits 18 = .ok (.iconst 1, 1) := dk_10 da_12
theorem dX1_waits_19 : decode cX1_waits 19 = .ok (.iand, 1) := dk_11 da_12
theorem dX1_waits_20 : decode cX1_waits 20 = .ok (.ifCond .ne 7, 3) := dk_12 da_12
theorem dX1_waits_23 : decode cX1_waits 23 = .ok (.iconst 1, 1) := dk_13 da_12
theorem dX1_waits_24 : decode cX1_waits 24 = .ok (.goto 4, 3) := dk_14 da_12
theorem dX1_waits_27 : decode cX1_waits 27 = .ok (.iconst 0, 1) := dk_15 da_12
theorem da_13 : fd_G cX1_waits 28 [(28, .ireturn, 1)] = true := by decide +kernel
theorem dX1_waits_28 : decode cX1_waits 28 = .ok (.ireturn, 1) := dk_0 da_13
theorem da_14 : fd_G cX1_isAct 0 [(0, .aload_n 0, 1), (1, .iload_n 1, 1), (2, .invokevirtual 68, 3), (5, .ifCond .ne 14, 3), (8, .iload_n 1, 1), (9, .iconst 5, 1), (10, .if_icmp .eq 9, 3), (13, .iload_n 1, 1), (14, .bipush 6, 2), (16, .if_icmp .ne 7, 3), (19, .iconst 1, 1), (20, .goto 4, 3), (23, .iconst 0, 1), (24, .ireturn, 1)] = true := by decide +kernel
theorem dX1_isAct_0 : decode cX1_isAct 0 = .ok (.aload_n 0, 1) := dk_0 da_14
theorem dX1_isAct_1 : decode cX1_isAct 1 = .ok (.iload_n 1, 1) := dk_1 da_14
theorem dX1_isAct_2 : decode cX1_isAct 2 = .ok (.invokevirtual 68, 3) := dk_2 da_14
theorem dX1_isAct_5 : decode cX1_isAct 5 = .ok (.ifCond .ne 14, 3) := dk_3 da_14
theorem dX1_isAct_8 : decode cX1_isAct 8 = .ok (.iload_n 1, 1) := dk_4 da_14
theorem dX1_isAct_9 : decode cX1_isAct 9 = .ok (.iconst 5, 1) := dk_5 da_14
theorem dX1_isAct_10 : decode cX1_isAct 10 = .ok (.if_icmp .eq 9, 3) := dk_6 da_14
theorem dX1_isAct_13 : decode cX1_isAct 13 = .ok (.iload_n 1, 1) := dk_7 da_14
theorem dX1_isAct_14 : decode cX1_isAct 14 = .ok (.bipush 6, 2) := dk_8 da_14
theorem dX1_isAct_16 : decode cX1_isAct 16 = .ok (.if_icmp .ne 7, 3) := dk_9 da_14
theorem dX1_isAct_19 : decode cX1_isAct 19 = .ok (.iconst 1, 1) := dk_10 da_14
theorem dX1_isAct_20 : decode cX1_isAct 20 = .ok (.goto 4, 3) := dk_11 da_14
theorem dX1_isAct_23 : decode cX1_isAct 23 = .ok (.iconst 0, 1) := dk_12 da_14
theorem dX1_isAct_24 : decode cX1_isAct 24 = .ok (.ireturn, 1) := dk_13 da_14
theorem dX1_brim_0 : decode cX1_brim 0 = .ok (.getstatic 72, 3) := by decide +kernel
theorem da_15 : fd_G cX1_brim 3 [(3, .aload_n 0, 1), (4, .getfield 9, 3), (7, .iload_n 1, 1), (8, .iaload, 1), (9, .iaload, 1), (10, .ireturn, 1)] = true := by decide +kernel
theorem dX1_brim_3 : decode cX1_brim 3 = .ok (.aload_n 0, 1) := dk_0 da_15
theorem dX1_brim_4 : decode cX1_brim 4 = .ok (.getfield 9, 3) := dk_1 da_15
theorem dX1_brim_7 : decode cX1_brim 7 = .ok (.iload_n 1, 1) := dk_2 da_15
theorem dX1_brim_8 : decode cX1_brim 8 = .ok (.iaload, 1) := dk_3 da_15
theorem dX1_brim_9 : decode cX1_brim 9 = .ok (.iaload, 1) := dk_4 da_15
theorem dX1_brim_10 : decode cX1_brim 10 = .ok (.ireturn, 1) := dk_5 da_15
theorem da_16 : fd_G cX1_weptOrNone 0 [(0, .aload_n 0, 1), (1, .getfield 18, 3), (4, .iload_n 1, 1), (5, .iaload, 1), (6, .iconst (-1), 1), (7, .if_icmp .ne 8, 3), (10, .bipush (-4), 2), (12, .goto 9, 3), (15, .aload_n 0, 1), (16, .getfield 18, 3), (19, .iload_n 1, 1), (20, .iaload, 1), (21, .ireturn, 1)] = true := by decide +kernel
theorem dX1_weptOrNone_0 : decode cX1_weptOrNone 0 = .ok (.aload_n 0, 1) := dk_0 da_16
theorem dX1_weptOrNone_1 : decode cX1_weptOrNone 1 = .ok (.getfield 18, 3) := dk_1 da_16
theorem dX1_weptOrNone_4 : decode cX1_weptOrNone 4 = .ok (.iload_n 1, 1) := dk_2 da_16
theorem dX1_weptOrNone_5 : decode cX1_weptOrNone 5 = .ok (.iaload, 1) := dk_3 da_16
theorem dX1_weptOrNone_6 : decode cX1_weptOrNone 6 = .ok (.iconst (-1), 1) := dk_4 da_16
theorem dX1_weptOrNone_7 : decode cX1_weptOrNone 7 = .ok (.if_icmp .ne 8, 3) := dk_5 da_16
theorem dX1_weptOrNone_10 : decode cX1_weptOrNone 10 = .ok (.bipush (-4), 2) := dk_6 da_16
theorem dX1_weptOrNone_12 : decode cX1_weptOrNone 12 = .ok (.goto 9, 3) := dk_7 da_16
theorem dX1_weptOrNone_15 : decode cX1_weptOrNone 15 = .ok (.aload_n 0, 1) := dk_8 da_16
theorem dX1_weptOrNone_16 : decode cX1_weptOrNone 16 = .ok (.getfield 18, 3) := dk_9 da_16
theorem dX1_weptOrNone_19 : decode cX1_weptOrNone 19 = .ok (.iload_n 1, 1) := dk_10 da_16
theorem dX1_weptOrNone_20 : decode cX1_weptOrNone 20 = .ok (.iaload, 1) := dk_11 da_16
theorem dX1_weptOrNone_21 : decode cX1_weptOrNone 21 = .ok (.ireturn, 1) := dk_12 da_16
theorem dX1_waitingBits_13 : decode cX1_waitingBits 13 = .ok (.ixor, 1) := by decide +kernel
theorem da_17 : fd_G cX1_waitingBits 0 [(0, .iconst 1, 1), (1, .aload_n 0, 1), (2, .getfield 37, 3), (5, .ishl, 1), (6, .iconst 1, 1), (7, .isub, 1), (8, .aload_n 0, 1), (9, .getfield 40, 3), (12, .iconst (-1), 1), (14, .iand, 1), (15, .ireturn, 1)] = true := by decide +kernel
theorem dX1_waitingBits_0 : decode cX1_waitingBits 0 = .ok (.iconst 1, 1) := dk_0 da_17
theorem dX1_waitingBits_1 : decode cX1_waitingBits 1 = .ok (.aload_n 0, 1) := dk_1 da_17
theorem dX1_waitingBits_2 : decode cX1_waitingBits 2 = .ok (.getfield 37, 3) := dk_2 da_17
theorem dX1_waitingBits_5 : decode cX1_waitingBits 5 = .ok (.ishl, 1) := dk_3 da_17
theorem dX1_waitingBits_6 : decode cX1_waitingBits 6 = .ok (.iconst 1, 1) := dk_4 da_17
theorem dX1_waitingBits_7 : decode cX1_waitingBits 7 = .ok (.isub, 1) := dk_5 da_17
theorem dX1_waitingBits_8 : decode cX1_waitingBits 8 = .ok (.aload_n 0, 1) := dk_6 da_17
theorem dX1_waitingBits_9 : decode cX1_waitingBits 9 = .ok (.getfield 40, 3) := dk_7 da_17
theorem dX1_waitingBits_12 : decode cX1_waitingBits 12 = .ok (.iconst (-1), 1) := dk_8 da_17
theorem dX1_waitingBits_14 : decode cX1_waitingBits 14 = .ok (.iand, 1) := dk_9 da_17
theorem dX1_waitingBits_15 : decode cX1_waitingBits 15 = .ok (.ireturn, 1) := dk_10 da_17
theorem da_18 : fd_G cX1_allSorrow 0 [(0, .iconst 0, 1), (1, .istore_n 1, 1), (2, .iconst 0, 1), (3, .istore_n 2, 1), (4, .iload_n 2, 1), (5, .aload_n 0, 1), (6, .getfield 37, 3), (9, .if_icmp .ge 26, 3), (12, .aload_n 0, 1), (13, .iload_n 2, 1), (14, .invokevirtual 75, 3), (17, .ifCond .eq 12, 3), (20, .iload_n 1, 1), (21, .aload_n 0, 1), (22, .getfield 15, 3), (25, .iload_n 2, 1)] = true := by decide +kernel
theorem dX1_allSorrow_0 : decode cX1_allSorrow 0 = .ok (.iconst 0, 1) := dk_0 da_18
theorem dX1_allSorrow_1 : decode cX1_allSorrow 1 = .ok (.istore_n 1, 1) := dk_1 da_18
theorem dX1_allSorrow_2 : decode cX1_allSorrow 2 = .ok (.iconst 0, 1) := dk_2 da_18
theorem dX1_allSorrow_3 : decode cX1_allSorrow 3 = .ok (.istore_n 2, 1) := dk_3 da_18
theorem dX1_allSorrow_4 : decode cX1_allSorrow 4 = .ok (.iload_n 2, 1) := dk_4 da_18
theorem dX1_allSorrow_5 : decode cX1_allSorrow 5 = .ok (.aload_n 0, 1) := dk_5 da_18
theorem dX1_allSorrow_6 : decode cX1_allSorrow 6 = .ok (.getfield 37, 3) := dk_6 da_18
theorem dX1_allSorrow_9 : decode cX1_allSorrow 9 = .ok (.if_icmp .ge 26, 3) := dk_7 da_18
theorem dX1_allSorrow_12 : decode cX1_allSorrow 12 = .ok (.aload_n 0, 1) := dk_8 da_18
theorem dX1_allSorrow_13 : decode cX1_allSorrow 13 = .ok (.iload_n 2, 1) := dk_9 da_18
theorem dX1_allSorrow_14 : decode cX1_allSorrow 14 = .ok (.invokevirtual 75, 3) := dk_10 da_18
theorem dX1_allSorrow_17 : decode cX1_allSorrow 17 = .ok (.ifCond .eq 12, 3) := dk_11 da_18
theorem dX1_allSorrow_20 : decode cX1_allSorrow 20 = .ok (.iload_n 1, 1) := dk_12 da_18
theorem dX1_allSorrow_21 : decode cX1_allSorrow 21 = .ok (.aload_n 0, 1) := dk_13 da_18
theorem dX1_allSorrow_22 : decode cX1_allSorrow 22 = .ok (.getfield 15, 3) := dk_14 da_18
theorem dX1_allSorrow_25 : decode cX1_allSorrow 25 = .ok (.iload_n 2, 1) := dk_15 da_18
theorem da_19 : fd_G cX1_allSorrow 26 [(26, .iaload, 1), (27, .iadd, 1), (28, .istore_n 1, 1), (29, .iinc 2 1, 3), (32, .goto (-28), 3), (35, .iload_n 1, 1), (36, .ireturn, 1)] = true := by decide +kernel
theorem dX1_allSorrow_26 : decode cX1_allSorrow 26 = .ok (.iaload, 1) := dk_0 da_19
theorem dX1_allSorrow_27 : decode cX1_allSorrow 27 = .ok (.iadd, 1) := dk_1 da_19
theorem dX1_allSorrow_28 : decode cX1_allSorrow 28 = .ok (.istore_n 1, 1) := dk_2 da_19
theorem dX1_allSorrow_29 : decode cX1_allSorrow 29 = .ok (.iinc 2 1, 3) := dk_3 da_19
theorem dX1_allSorrow_32 : decode cX1_allSorrow 32 = .ok (.goto (-28), 3) := dk_4 da_19
theorem dX1_allSorrow_35 : decode cX1_allSorrow 35 = .ok (.iload_n 1, 1) := dk_5 da_19
theorem dX1_allSorrow_36 : decode cX1_allSorrow 36 = .ok (.ireturn, 1) := dk_6 da_19
theorem da_20 : fd_G cX1_everWept 0 [(0, .iconst 0, 1), (1, .istore_n 1, 1), (2, .iconst 0, 1), (3, .istore_n 2, 1), (4, .iload_n 2, 1), (5, .aload_n 0, 1), (6, .getfield 37, 3), (9, .if_icmp .ge 22, 3), (12, .aload_n 0, 1), (13, .getfield 18, 3), (16, .iload_n 2, 1), (17, .iaload, 1), (18, .iconst (-1), 1), (19, .if_icmp .eq 6, 3), (22, .iinc 1 1, 3), (25, .iinc 2 1, 3)] = true := by decide +kernel
theorem dX1_everWept_0 : decode cX1_everWept 0 = .ok (.iconst 0, 1) := dk_0 da_20
theorem dX1_everWept_1 : decode cX1_everWept 1 = .ok (.istore_n 1, 1) := dk_1 da_20
theorem dX1_everWept_2 : decode cX1_everWept 2 = .ok (.iconst 0, 1) := dk_2 da_20
theorem dX1_everWept_3 : decode cX1_everWept 3 = .ok (.istore_n 2, 1) := dk_3 da_20
theorem dX1_everWept_4 : decode cX1_everWept 4 = .ok (.iload_n 2, 1) := dk_4 da_20
theorem dX1_everWept_5 : decode cX1_everWept 5 = .ok (.aload_n 0, 1) := dk_5 da_20
theorem dX1_everWept_6 : decode cX1_everWept 6 = .ok (.getfield 37, 3) := dk_6 da_20
theorem dX1_everWept_9 : decode cX1_everWept 9 = .ok (.if_icmp .ge 22, 3) := dk_7 da_20
theorem dX1_everWept_12 : decode cX1_everWept 12 = .ok (.aload_n 0, 1) := dk_8 da_20
theorem dX1_everWept_13 : decode cX1_everWept 13 = .ok (.getfield 18, 3) := dk_9 da_20
theorem dX1_everWept_16 : decode cX1_everWept 16 = .ok (.iload_n 2, 1) := dk_10 da_20
theorem dX1_everWept_17 : decode cX1_everWept 17 = .ok (.iaload, 1) := dk_11 da_20
theorem dX1_everWept_18 : decode cX1_everWept 18 = .ok (.iconst (-1), 1) := dk_12 da_20
theorem dX1_everWept_19 : decode cX1_everWept 19 = .ok (.if_icmp .eq 6, 3) := dk_13 da_20
theorem dX1_everWept_22 : decode cX1_everWept 22 = .ok (.iinc 1 1, 3) := dk_14 da_20
theorem dX1_everWept_25 : decode cX1_everWept 25 = .ok (.iinc 2 1, 3) := dk_15 da_20
theorem da_21 : fd_G cX1_everWept 28 [(28, .goto (-24), 3), (31, .iload_n 1, 1), (32, .ireturn, 1)] = true := by decide +kernel
theorem dX1_everWept_28 : decode cX1_everWept 28 = .ok (.goto (-24), 3) := dk_0 da_21
theorem dX1_everWept_31 : decode cX1_everWept 31 = .ok (.iload_n 1, 1) := dk_1 da_21
theorem dX1_everWept_32 : decode cX1_everWept 32 = .ok (.ireturn, 1) := dk_2 da_21
theorem da_22 : fd_G cX1_tramsPlanned 0 [(0, .iconst 0, 1), (1, .istore_n 1, 1), (2, .iconst 0, 1), (3, .istore_n 2, 1), (4, .iload_n 2, 1), (5, .aload_n 0, 1), (6, .getfield 46, 3), (9, .if_icmp .ge 23, 3), (12, .aload_n 0, 1), (13, .getfield 21, 3), (16, .iload_n 2, 1), (17, .iaload, 1), (18, .bipush 6, 2), (20, .if_icmp .ne 6, 3), (23, .iinc 1 1, 3), (26, .iinc 2 1, 3)] = true := by decide +kernel
theorem dX1_tramsPlanned_0 : decode cX1_tramsPlanned 0 = .ok (.iconst 0, 1) := dk_0 da_22
theorem dX1_tramsPlanned_1 : decode cX1_tramsPlanned 1 = .ok (.istore_n 1, 1) := dk_1 da_22
theorem dX1_tramsPlanned_2 : decode cX1_tramsPlanned 2 = .ok (.iconst 0, 1) := dk_2 da_22
theorem dX1_tramsPlanned_3 : decode cX1_tramsPlanned 3 = .ok (.istore_n 2, 1) := dk_3 da_22
theorem dX1_tramsPlanned_4 : decode cX1_tramsPlanned 4 = .ok (.iload_n 2, 1) := dk_4 da_22
theorem dX1_tramsPlanned_5 : decode cX1_tramsPlanned 5 = .ok (.aload_n 0, 1) := dk_5 da_22
theorem dX1_tramsPlanned_6 : decode cX1_tramsPlanned 6 = .ok (.getfield 46, 3) := dk_6 da_22
theorem dX1_tramsPlanned_9 : decode cX1_tramsPlanned 9 = .ok (.if_icmp .ge 23, 3) := dk_7 da_22
theorem dX1_tramsPlanned_12 : decode cX1_tramsPlanned 12 = .ok (.aload_n 0, 1) := dk_8 da_22
theorem dX1_tramsPlanned_13 : decode cX1_tramsPlanned 13 = .ok (.getfield 21, 3) := dk_9 da_22
theorem dX1_tramsPlanned_16 : decode cX1_tramsPlanned 16 = .ok (.iload_n 2, 1) := dk_10 da_22
theorem dX1_tramsPlanned_17 : decode cX1_tramsPlanned 17 = .ok (.iaload, 1) := dk_11 da_22
theorem dX1_tramsPlanned_18 : decode cX1_tramsPlanned 18 = .ok (.bipush 6, 2) := dk_12 da_22
theorem dX1_tramsPlanned_20 : decode cX1_tramsPlanned 20 = .ok (.if_icmp .ne 6, 3) := dk_13 da_22
theorem dX1_tramsPlanned_23 : decode cX1_tramsPlanned 23 = .ok (.iinc 1 1, 3) := dk_14 da_22
theorem dX1_tramsPlanned_26 : decode cX1_tramsPlanned 26 = .ok (.iinc 2 1, 3) := dk_15 da_22
theorem da_23 : fd_G cX1_tramsPlanned 29 [(29, .goto (-25), 3), (32, .iload_n 1, 1), (33, .ireturn, 1)] = true := by decide +kernel
theorem dX1_tramsPlanned_29 : decode cX1_tramsPlanned 29 = .ok (.goto (-25), 3) := dk_0 da_23
theorem dX1_tramsPlanned_32 : decode cX1_tramsPlanned 32 = .ok (.iload_n 1, 1) := dk_1 da_23
theorem dX1_tramsPlanned_33 : decode cX1_tramsPlanned 33 = .ok (.ireturn, 1) := dk_2 da_23
theorem da_24 : fd_G cX1_addOne 0 [(0, .aload_n 0, 1), (1, .getfield 37, 3), (4, .iconst 5, 1), (5, .if_icmp .ge 43, 3), (8, .aload_n 0, 1), (9, .getfield 9, 3), (12, .aload_n 0, 1), (13, .getfield 37, 3), (16, .iload_n 1, 1), (17, .iastore, 1), (18, .aload_n 0, 1), (19, .getfield 15, 3), (22, .aload_n 0, 1), (23, .getfield 37, 3), (26, .iload_n 2, 1), (27, .iastore, 1)] = true := by decide +kernel
theorem dX1_addOne_0 : decode cX1_addOne 0 = .ok (.aload_n 0, 1) := dk_0 da_24
theorem dX1_addOne_1 : decode cX1_addOne 1 = .ok (.getfield 37, 3) := dk_1 da_24
theorem dX1_addOne_4 : decode cX1_addOne 4 = .ok (.iconst 5, 1) := dk_2 da_24
theorem dX1_addOne_5 : decode cX1_addOne 5 = .ok (.if_icmp .ge 43, 3) := dk_3 da_24
theorem dX1_addOne_8 : decode cX1_addOne 8 = .ok (.aload_n 0, 1) := dk_4 da_24
theorem dX1_addOne_9 : decode cX1_addOne 9 = .ok (.getfield 9, 3) := dk_5 da_24
theorem dX1_addOne_12 : decode cX1_addOne 12 = .ok (.aload_n 0, 1) := dk_6 da_24
theorem dX1_addOne_13 : decode cX1_addOne 13 = .ok (.getfield 37, 3) := dk_7 da_24
theorem dX1_addOne_16 : decode cX1_addOne 16 = .ok (.iload_n 1, 1) := dk_8 da_24
theorem dX1_addOne_17 : decode cX1_addOne 17 = .ok (.iastore, 1) := dk_9 da_24
theorem dX1_addOne_18 : decode cX1_addOne 18 = .ok (.aload_n 0, 1) := dk_10 da_24
theorem dX1_addOne_19 : decode cX1_addOne 19 = .ok (.getfield 15, 3) := dk_11 da_24
theorem dX1_addOne_22 : decode cX1_addOne 22 = .ok (.aload_n 0, 1) := dk_12 da_24
theorem dX1_addOne_23 : decode cX1_addOne 23 = .ok (.getfield 37, 3) := dk_13 da_24
theorem dX1_addOne_26 : decode cX1_addOne 26 = .ok (.iload_n 2, 1) := dk_14 da_24
theorem dX1_addOne_27 : decode cX1_addOne 27 = .ok (.iastore, 1) := dk_15 da_24
theorem da_25 : fd_G cX1_addOne 28 [(28, .aload_n 0, 1), (29, .getfield 18, 3), (32, .aload_n 0, 1), (33, .getfield 37, 3), (36, .iconst (-1), 1), (37, .iastore, 1), (38, .aload_n 0, 1), (39, .dup, 1), (40, .getfield 37, 3), (43, .iconst 1, 1), (44, .iadd, 1), (45, .putfield 37, 3), (48, .return_, 1)] = true := by decide +kernel
theorem dX1_addOne_28 : decode cX1_addOne 28 = .ok (.aload_n 0, 1) := dk_0 da_25
theorem dX1_addOne_29 : decode cX1_addOne 29 = .ok (.getfield 18, 3) := dk_1 da_25
theorem dX1_addOne_32 : decode cX1_addOne 32 = .ok (.aload_n 0, 1) := dk_2 da_25
theorem dX1_addOne_33 : decode cX1_addOne 33 = .ok (.getfield 37, 3) := dk_3 da_25
theorem dX1_addOne_36 : decode cX1_addOne 36 = .ok (.iconst (-1), 1) := dk_4 da_25
theorem dX1_addOne_37 : decode cX1_addOne 37 = .ok (.iastore, 1) := dk_5 da_25
theorem dX1_addOne_38 : decode cX1_addOne 38 = .ok (.aload_n 0, 1) := dk_6 da_25
theorem dX1_addOne_39 : decode cX1_addOne 39 = .ok (.dup, 1) := dk_7 da_25
theorem dX1_addOne_40 : decode cX1_addOne 40 = .ok (.getfield 37, 3) := dk_8 da_25
theorem dX1_addOne_43 : decode cX1_addOne 43 = .ok (.iconst 1, 1) := dk_9 da_25
theorem dX1_addOne_44 : decode cX1_addOne 44 = .ok (.iadd, 1) := dk_10 da_25
theorem dX1_addOne_45 : decode cX1_addOne 45 = .ok (.putfield 37, 3) := dk_11 da_25
theorem dX1_addOne_48 : decode cX1_addOne 48 = .ok (.return_, 1) := dk_12 da_25
theorem da_26 : fd_G cX1_addAct 0 [(0, .aload_n 0, 1), (1, .getfield 46, 3), (4, .bipush 8, 2), (6, .if_icmp .lt 5, 3), (9, .iconst 0, 1), (10, .ireturn, 1), (11, .aload_n 0, 1), (12, .getfield 21, 3), (15, .aload_n 0, 1), (16, .getfield 46, 3), (19, .iload_n 1, 1), (20, .iastore, 1), (21, .aload_n 0, 1), (22, .dup, 1), (23, .getfield 46, 3), (26, .iconst 1, 1)] = true := by decide +kernel
theorem dX1_addAct_0 : decode cX1_addAct 0 = .ok (.aload_n 0, 1) := dk_0 da_26
theorem dX1_addAct_1 : decode cX1_addAct 1 = .ok (.getfield 46, 3) := dk_1 da_26
theorem dX1_addAct_4 : decode cX1_addAct 4 = .ok (.bipush 8, 2) := dk_2 da_26
theorem dX1_addAct_6 : decode cX1_addAct 6 = .ok (.if_icmp .lt 5, 3) := dk_3 da_26
theorem dX1_addAct_9 : decode cX1_addAct 9 = .ok (.iconst 0, 1) := dk_4 da_26
theorem dX1_addAct_10 : decode cX1_addAct 10 = .ok (.ireturn, 1) := dk_5 da_26
theorem dX1_addAct_11 : decode cX1_addAct 11 = .ok (.aload_n 0, 1) := dk_6 da_26
theorem dX1_addAct_12 : decode cX1_addAct 12 = .ok (.getfield 21, 3) := dk_7 da_26
theorem dX1_addAct_15 : decode cX1_addAct 15 = .ok (.aload_n 0, 1) := dk_8 da_26
theorem dX1_addAct_16 : decode cX1_addAct 16 = .ok (.getfield 46, 3) := dk_9 da_26
theorem dX1_addAct_19 : decode cX1_addAct 19 = .ok (.iload_n 1, 1) := dk_10 da_26
theorem dX1_addAct_20 : decode cX1_addAct 20 = .ok (.iastore, 1) := dk_11 da_26
theorem dX1_addAct_21 : decode cX1_addAct 21 = .ok (.aload_n 0, 1) := dk_12 da_26
theorem dX1_addAct_22 : decode cX1_addAct 22 = .ok (.dup, 1) := dk_13 da_26
theorem dX1_addAct_23 : decode cX1_addAct 23 = .ok (.getfield 46, 3) := dk_14 da_26
theorem dX1_addAct_26 : decode cX1_addAct 26 = .ok (.iconst 1, 1) := dk_15 da_26
theorem da_27 : fd_G cX1_addAct 27 [(27, .iadd, 1), (28, .putfield 46, 3), (31, .iconst 1, 1), (32, .ireturn, 1)] = true := by decide +kernel
theorem dX1_addAct_27 : decode cX1_addAct 27 = .ok (.iadd, 1) := dk_0 da_27
theorem dX1_addAct_28 : decode cX1_addAct 28 = .ok (.putfield 46, 3) := dk_1 da_27
theorem dX1_addAct_31 : decode cX1_addAct 31 = .ok (.iconst 1, 1) := dk_2 da_27
theorem dX1_addAct_32 : decode cX1_addAct 32 = .ok (.ireturn, 1) := dk_3 da_27
theorem da_28 : fd_G cX1_changeActs 0 [(0, .iload_n 1, 1), (1, .ifCond .lt 49, 3), (4, .iload_n 1, 1), (5, .aload_n 0, 1), (6, .getfield 46, 3), (9, .if_icmp .ge 41, 3), (12, .iload_n 2, 1), (13, .ifCond .lt 37, 3), (16, .iload_n 2, 1), (17, .aload_n 0, 1), (18, .getfield 46, 3), (21, .if_icmp .ge 29, 3), (24, .aload_n 0, 1), (25, .getfield 21, 3), (28, .iload_n 1, 1), (29, .iaload, 1)] = true := by decide +kernel
theorem dX1_changeActs_0 : decode cX1_changeActs 0 = .ok (.iload_n 1, 1) := dk_0 da_28
theorem dX1_changeActs_1 : decode cX1_changeActs 1 = .ok (.ifCond .lt 49, 3) := dk_1 da_28
theorem dX1_changeActs_4 : decode cX1_changeActs 4 = .ok (.iload_n 1, 1) := dk_2 da_28
theorem dX1_changeActs_5 : decode cX1_changeActs 5 = .ok (.aload_n 0, 1) := dk_3 da_28
theorem dX1_changeActs_6 : decode cX1_changeActs 6 = .ok (.getfield 46, 3) := dk_4 da_28
theorem dX1_changeActs_9 : decode cX1_changeActs 9 = .ok (.if_icmp .ge 41, 3) := dk_5 da_28
theorem dX1_changeActs_12 : decode cX1_changeActs 12 = .ok (.iload_n 2, 1) := dk_6 da_28
theorem dX1_changeActs_13 : decode cX1_changeActs 13 = .ok (.ifCond .lt 37, 3) := dk_7 da_28
theorem dX1_changeActs_16 : decode cX1_changeActs 16 = .ok (.iload_n 2, 1) := dk_8 da_28
theorem dX1_changeActs_17 : decode cX1_changeActs 17 = .ok (.aload_n 0, 1) := dk_9 da_28
theorem dX1_changeActs_18 : decode cX1_changeActs 18 = .ok (.getfield 46, 3) := dk_10 da_28
theorem dX1_changeActs_21 : decode cX1_changeActs 21 = .ok (.if_icmp .ge 29, 3) := dk_11 da_28
theorem dX1_changeActs_24 : decode cX1_changeActs 24 = .ok (.aload_n 0, 1) := dk_12 da_28
theorem dX1_changeActs_25 : decode cX1_changeActs 25 = .ok (.getfield 21, 3) := dk_13 da_28
theorem dX1_changeActs_28 : decode cX1_changeActs 28 = .ok (.iload_n 1, 1) := dk_14 da_28
theorem dX1_changeActs_29 : decode cX1_changeActs 29 = .ok (.iaload, 1) := dk_15 da_28
theorem da_29 : fd_G cX1_changeActs 30 [(30, .istore_n 3, 1), (31, .aload_n 0, 1), (32, .getfield 21, 3), (35, .iload_n 1, 1), (36, .aload_n 0, 1), (37, .getfield 21, 3), (40, .iload_n 2, 1), (41, .iaload, 1), (42, .iastore, 1), (43, .aload_n 0, 1), (44, .getfield 21, 3), (47, .iload_n 2, 1), (48, .iload_n 3, 1), (49, .iastore, 1), (50, .return_, 1)] = true := by decide +kernel
theorem dX1_changeActs_30 : decode cX1_changeActs 30 = .ok (.istore_n 3, 1) := dk_0 da_29
theorem dX1_changeActs_31 : decode cX1_changeActs 31 = .ok (.aload_n 0, 1) := dk_1 da_29
theorem dX1_changeActs_32 : decode cX1_changeActs 32 = .ok (.getfield 21, 3) := dk_2 da_29
theorem dX1_changeActs_35 : decode cX1_changeActs 35 = .ok (.iload_n 1, 1) := dk_3 da_29
theorem dX1_changeActs_36 : decode cX1_changeActs 36 = .ok (.aload_n 0, 1) := dk_4 da_29
theorem dX1_changeActs_37 : decode cX1_changeActs 37 = .ok (.getfield 21, 3) := dk_5 da_29
theorem dX1_changeActs_40 : decode cX1_changeActs 40 = .ok (.iload_n 2, 1) := dk_6 da_29
theorem dX1_changeActs_41 : decode cX1_changeActs 41 = .ok (.iaload, 1) := dk_7 da_29
theorem dX1_changeActs_42 : decode cX1_changeActs 42 = .ok (.iastore, 1) := dk_8 da_29
theorem dX1_changeActs_43 : decode cX1_changeActs 43 = .ok (.aload_n 0, 1) := dk_9 da_29
theorem dX1_changeActs_44 : decode cX1_changeActs 44 = .ok (.getfield 21, 3) := dk_10 da_29
theorem dX1_changeActs_47 : decode cX1_changeActs 47 = .ok (.iload_n 2, 1) := dk_11 da_29
theorem dX1_changeActs_48 : decode cX1_changeActs 48 = .ok (.iload_n 3, 1) := dk_12 da_29
theorem dX1_changeActs_49 : decode cX1_changeActs 49 = .ok (.iastore, 1) := dk_13 da_29
theorem dX1_changeActs_50 : decode cX1_changeActs 50 = .ok (.return_, 1) := dk_14 da_29
theorem da_30 : fd_G cX1_allActsFit 0 [(0, .iconst 0, 1), (1, .istore_n 1, 1), (2, .iload_n 1, 1), (3, .aload_n 0, 1), (4, .getfield 46, 3), (7, .if_icmp .ge 24, 3), (10, .aload_n 0, 1), (11, .aload_n 0, 1), (12, .getfield 21, 3), (15, .iload_n 1, 1), (16, .iaload, 1), (17, .invokevirtual 78, 3), (20, .ifCond .ne 5, 3), (23, .iconst 0, 1), (24, .ireturn, 1), (25, .iinc 1 1, 3)] = true := by decide +kernel
theorem dX1_allActsFit_0 : decode cX1_allActsFit 0 = .ok (.iconst 0, 1) := dk_0 da_30
theorem dX1_allActsFit_1 : decode cX1_allActsFit 1 = .ok (.istore_n 1, 1) := dk_1 da_30
theorem dX1_allActsFit_2 : decode cX1_allActsFit 2 = .ok (.iload_n 1, 1) := dk_2 da_30
theorem dX1_allActsFit_3 : decode cX1_allActsFit 3 = .ok (.aload_n 0, 1) := dk_3 da_30
theorem dX1_allActsFit_4 : decode cX1_allActsFit 4 = .ok (.getfield 46, 3) := dk_4 da_30
theorem dX1_allActsFit_7 : decode cX1_allActsFit 7 = .ok (.if_icmp .ge 24, 3) := dk_5 da_30
theorem dX1_allActsFit_10 : decode cX1_allActsFit 10 = .ok (.aload_n 0, 1) := dk_6 da_30
theorem dX1_allActsFit_11 : decode cX1_allActsFit 11 = .ok (.aload_n 0, 1) := dk_7 da_30
theorem dX1_allActsFit_12 : decode cX1_allActsFit 12 = .ok (.getfield 21, 3) := dk_8 da_30
theorem dX1_allActsFit_15 : decode cX1_allActsFit 15 = .ok (.iload_n 1, 1) := dk_9 da_30
theorem dX1_allActsFit_16 : decode cX1_allActsFit 16 = .ok (.iaload, 1) := dk_10 da_30
theorem dX1_allActsFit_17 : decode cX1_allActsFit 17 = .ok (.invokevirtual 78, 3) := dk_11 da_30
theorem dX1_allActsFit_20 : decode cX1_allActsFit 20 = .ok (.ifCond .ne 5, 3) := dk_12 da_30
theorem dX1_allActsFit_23 : decode cX1_allActsFit 23 = .ok (.iconst 0, 1) := dk_13 da_30
theorem dX1_allActsFit_24 : decode cX1_allActsFit 24 = .ok (.ireturn, 1) := dk_14 da_30
theorem dX1_allActsFit_25 : decode cX1_allActsFit 25 = .ok (.iinc 1 1, 3) := dk_15 da_30
theorem da_31 : fd_G cX1_allActsFit 28 [(28, .goto (-26), 3), (31, .iconst 1, 1), (32, .ireturn, 1)] = true := by decide +kernel
theorem dX1_allActsFit_28 : decode cX1_allActsFit 28 = .ok (.goto (-26), 3) := dk_0 da_31
theorem dX1_allActsFit_31 : decode cX1_allActsFit 31 = .ok (.iconst 1, 1) := dk_1 da_31
theorem dX1_allActsFit_32 : decode cX1_allActsFit 32 = .ok (.ireturn, 1) := dk_2 da_31
theorem da_32 : fd_G cX1_followPlan 0 [(0, .iconst 0, 1), (1, .istore_n 1, 1), (2, .iload_n 1, 1), (3, .aload_n 0, 1), (4, .getfield 46, 3), (7, .if_icmp .ge 36, 3), (10, .aload_n 0, 1), (11, .aload_n 0, 1), (12, .getfield 21, 3), (15, .iload_n 1, 1), (16, .iaload, 1), (17, .invokevirtual 81, 3), (20, .ifCond .ne 17, 3), (23, .aload_n 0, 1), (24, .getfield 34, 3), (27, .bipush (-4), 2)] = true := by decide +kernel
theorem dX1_followPlan_0 : decode cX1_followPlan 0 = .ok (.iconst 0, 1) := dk_0 da_32
theorem dX1_followPlan_1 : decode cX1_followPlan 1 = .ok (.istore_n 1, 1) := dk_1 da_32
theorem dX1_followPlan_2 : decode cX1_followPlan 2 = .ok (.iload_n 1, 1) := dk_2 da_32
theorem dX1_followPlan_3 : decode cX1_followPlan 3 = .ok (.aload_n 0, 1) := dk_3 da_32
theorem dX1_followPlan_4 : decode cX1_followPlan 4 = .ok (.getfield 46, 3) := dk_4 da_32
theorem dX1_followPlan_7 : decode cX1_followPlan 7 = .ok (.if_icmp .ge 36, 3) := dk_5 da_32
theorem dX1_followPlan_10 : decode cX1_followPlan 10 = .ok (.aload_n 0, 1) := dk_6 da_32
theorem dX1_followPlan_11 : decode cX1_followPlan 11 = .ok (.aload_n 0, 1) := dk_7 da_32
theorem dX1_followPlan_12 : decode cX1_followPlan 12 = .ok (.getfield 21, 3) := dk_8 da_32
theorem dX1_followPlan_15 : decode cX1_followPlan 15 = .ok (.iload_n 1, 1) := dk_9 da_32
theorem dX1_followPlan_16 : decode cX1_followPlan 16 = .ok (.iaload, 1) := dk_10 da_32
theorem dX1_followPlan_17 : decode cX1_followPlan 17 = .ok (.invokevirtual 81, 3) := dk_11 da_32
theorem dX1_followPlan_20 : decode cX1_followPlan 20 = .ok (.ifCond .ne 17, 3) := dk_12 da_32
theorem dX1_followPlan_23 : decode cX1_followPlan 23 = .ok (.aload_n 0, 1) := dk_13 da_32
theorem dX1_followPlan_24 : decode cX1_followPlan 24 = .ok (.getfield 34, 3) := dk_14 da_32
theorem dX1_followPlan_27 : decode cX1_followPlan 27 = .ok (.bipush (-4), 2) := dk_15 da_32
theorem da_33 : fd_G cX1_followPlan 29 [(29, .if_icmp .ne 8, 3), (32, .aload_n 0, 1), (33, .iload_n 1, 1), (34, .putfield 34, 3), (37, .iinc 1 1, 3), (40, .goto (-38), 3), (43, .return_, 1)] = true := by decide +kernel
theorem dX1_followPlan_29 : decode cX1_followPlan 29 = .ok (.if_icmp .ne 8, 3) := dk_0 da_33
theorem dX1_followPlan_32 : decode cX1_followPlan 32 = .ok (.aload_n 0, 1) := dk_1 da_33
theorem dX1_followPlan_33 : decode cX1_followPlan 33 = .ok (.iload_n 1, 1) := dk_2 da_33
theorem dX1_followPlan_34 : decode cX1_followPlan 34 = .ok (.putfield 34, 3) := dk_3 da_33
theorem dX1_followPlan_37 : decode cX1_followPlan 37 = .ok (.iinc 1 1, 3) := dk_4 da_33
theorem dX1_followPlan_40 : decode cX1_followPlan 40 = .ok (.goto (-38), 3) := dk_5 da_33
theorem dX1_followPlan_43 : decode cX1_followPlan 43 = .ok (.return_, 1) := dk_6 da_33
theorem da_34 : fd_G cX1_play 0 [(0, .iload_n 1, 1), (1, .iconst 5, 1), (2, .if_icmp .ne 9, 3), (5, .aload_n 0, 1), (6, .invokevirtual 84, 3), (9, .iconst 1, 1), (10, .ireturn, 1), (11, .iload_n 1, 1), (12, .bipush 6, 2), (14, .if_icmp .ne 10, 3), (17, .aload_n 0, 1), (18, .invokevirtual 87, 3), (21, .pop, 1), (22, .iconst 1, 1), (23, .ireturn, 1), (24, .aload_n 0, 1)] = true := by decide +kernel
theorem dX1_play_0 : decode cX1_play 0 = .ok (.iload_n 1, 1) := dk_0 da_34
theorem dX1_play_1 : decode cX1_play 1 = .ok (.iconst 5, 1) := dk_1 da_34
theorem dX1_play_2 : decode cX1_play 2 = .ok (.if_icmp .ne 9, 3) := dk_2 da_34
theorem dX1_play_5 : decode cX1_play 5 = .ok (.aload_n 0, 1) := dk_3 da_34
theorem dX1_play_6 : decode cX1_play 6 = .ok (.invokevirtual 84, 3) := dk_4 da_34
theorem dX1_play_9 : decode cX1_play 9 = .ok (.iconst 1, 1) := dk_5 da_34
theorem dX1_play_10 : decode cX1_play 10 = .ok (.ireturn, 1) := dk_6 da_34
theorem dX1_play_11 : decode cX1_play 11 = .ok (.iload_n 1, 1) := dk_7 da_34
theorem dX1_play_12 : decode cX1_play 12 = .ok (.bipush 6, 2) := dk_8 da_34
theorem dX1_play_14 : decode cX1_play 14 = .ok (.if_icmp .ne 10, 3) := dk_9 da_34
theorem dX1_play_17 : decode cX1_play 17 = .ok (.aload_n 0, 1) := dk_10 da_34
theorem dX1_play_18 : decode cX1_play 18 = .ok (.invokevirtual 87, 3) := dk_11 da_34
theorem dX1_play_21 : decode cX1_play 21 = .ok (.pop, 1) := dk_12 da_34
theorem dX1_play_22 : decode cX1_play 22 = .ok (.iconst 1, 1) := dk_13 da_34
theorem dX1_play_23 : decode cX1_play 23 = .ok (.ireturn, 1) := dk_14 da_34
theorem dX1_play_24 : decode cX1_play 24 = .ok (.aload_n 0, 1) := dk_15 da_34
theorem da_35 : fd_G cX1_play 25 [(25, .iload_n 1, 1), (26, .invokevirtual 75, 3), (29, .ifCond .ne 5, 3), (32, .iconst 0, 1), (33, .ireturn, 1), (34, .aload_n 0, 1), (35, .iload_n 1, 1), (36, .invokevirtual 91, 3), (39, .pop, 1), (40, .iconst 1, 1), (41, .ireturn, 1)] = true := by decide +kernel
theorem dX1_play_25 : decode cX1_play 25 = .ok (.iload_n 1, 1) := dk_0 da_35
theorem dX1_play_26 : decode cX1_play 26 = .ok (.invokevirtual 75, 3) := dk_1 da_35
theorem dX1_play_29 : decode cX1_play 29 = .ok (.ifCond .ne 5, 3) := dk_2 da_35
theorem dX1_play_32 : decode cX1_play 32 = .ok (.iconst 0, 1) := dk_3 da_35
theorem dX1_play_33 : decode cX1_play 33 = .ok (.ireturn, 1) := dk_4 da_35
theorem dX1_play_34 : decode cX1_play 34 = .ok (.aload_n 0, 1) := dk_5 da_35
theorem dX1_play_35 : decode cX1_play 35 = .ok (.iload_n 1, 1) := dk_6 da_35
theorem dX1_play_36 : decode cX1_play 36 = .ok (.invokevirtual 91, 3) := dk_7 da_35
theorem dX1_play_39 : decode cX1_play 39 = .ok (.pop, 1) := dk_8 da_35
theorem dX1_play_40 : decode cX1_play 40 = .ok (.iconst 1, 1) := dk_9 da_35
theorem dX1_play_41 : decode cX1_play 41 = .ok (.ireturn, 1) := dk_10 da_35
theorem da_36 : fd_G cX1_thinkAndWeep 0 [(0, .aload_n 0, 1), (1, .iload_n 1, 1), (2, .aload_n 0, 1), (3, .getfield 31, 3), (6, .invokevirtual 95, 3), (9, .iconst 0, 1), (10, .istore_n 2, 1), (11, .iconst 0, 1), (12, .istore_n 3, 1), (13, .iload_n 3, 1), (14, .aload_n 0, 1), (15, .getfield 37, 3), (18, .if_icmp .ge 39, 3), (21, .aload_n 0, 1), (22, .iload_n 2, 1), (23, .invokevirtual 99, 3)] = true := by decide +kernel
theorem dX1_thinkAndWeep_0 : decode cX1_thinkAndWeep 0 = .ok (.aload_n 0, 1) := dk_0 da_36
theorem dX1_thinkAndWeep_1 : decode cX1_thinkAndWeep 1 = .ok (.iload_n 1, 1) := dk_1 da_36
theorem dX1_thinkAndWeep_2 : decode cX1_thinkAndWeep 2 = .ok (.aload_n 0, 1) := dk_2 da_36
theorem dX1_thinkAndWeep_3 : decode cX1_thinkAndWeep 3 = .ok (.getfield 31, 3) := dk_3 da_36
theorem dX1_thinkAndWeep_6 : decode cX1_thinkAndWeep 6 = .ok (.invokevirtual 95, 3) := dk_4 da_36
theorem dX1_thinkAndWeep_9 : decode cX1_thinkAndWeep 9 = .ok (.iconst 0, 1) := dk_5 da_36
theorem dX1_thinkAndWeep_10 : decode cX1_thinkAndWeep 10 = .ok (.istore_n 2, 1) := dk_6 da_36
theorem dX1_thinkAndWeep_11 : decode cX1_thinkAndWeep 11 = .ok (.iconst 0, 1) := dk_7 da_36
theorem dX1_thinkAndWeep_12 : decode cX1_thinkAndWeep 12 = .ok (.istore_n 3, 1) := dk_8 da_36
theorem dX1_thinkAndWeep_13 : decode cX1_thinkAndWeep 13 = .ok (.iload_n 3, 1) := dk_9 da_36
theorem dX1_thinkAndWeep_14 : decode cX1_thinkAndWeep 14 = .ok (.aload_n 0, 1) := dk_10 da_36
theorem dX1_thinkAndWeep_15 : decode cX1_thinkAndWeep 15 = .ok (.getfield 37, 3) := dk_11 da_36
theorem dX1_thinkAndWeep_18 : decode cX1_thinkAndWeep 18 = .ok (.if_icmp .ge 39, 3) := dk_12 da_36
theorem dX1_thinkAndWeep_21 : decode cX1_thinkAndWeep 21 = .ok (.aload_n 0, 1) := dk_13 da_36
theorem dX1_thinkAndWeep_22 : decode cX1_thinkAndWeep 22 = .ok (.iload_n 2, 1) := dk_14 da_36
theorem dX1_thinkAndWeep_23 : decode cX1_thinkAndWeep 23 = .ok (.invokevirtual 99, 3) := dk_15 da_36
theorem da_37 : fd_G cX1_thinkAndWeep 26 [(26, .istore 4, 2), (28, .iload 4, 2), (30, .bipush (-4), 2), (32, .if_icmp .ne 6, 3), (35, .goto 22, 3), (38, .aload_n 0, 1), (39, .iload 4, 2), (41, .invokevirtual 102, 3), (44, .iload_n 2, 1), (45, .iconst 1, 1), (46, .iload 4, 2), (48, .ishl, 1), (49, .ior, 1), (50, .istore_n 2, 1), (51, .iinc 3 1, 3), (54, .goto (-41), 3)] = true := by decide +kernel
theorem dX1_thinkAndWeep_26 : decode cX1_thinkAndWeep 26 = .ok (.istore 4, 2) := dk_0 da_37
theorem dX1_thinkAndWeep_28 : decode cX1_thinkAndWeep 28 = .ok (.iload 4, 2) := dk_1 da_37
theorem dX1_thinkAndWeep_30 : decode cX1_thinkAndWeep 30 = .ok (.bipush (-4), 2) := dk_2 da_37
theorem dX1_thinkAndWeep_32 : decode cX1_thinkAndWeep 32 = .ok (.if_icmp .ne 6, 3) := dk_3 da_37
theorem dX1_thinkAndWeep_35 : decode cX1_thinkAndWeep 35 = .ok (.goto 22, 3) := dk_4 da_37
theorem dX1_thinkAndWeep_38 : decode cX1_thinkAndWeep 38 = .ok (.aload_n 0, 1) := dk_5 da_37
theorem dX1_thinkAndWeep_39 : decode cX1_thinkAndWeep 39 = .ok (.iload 4, 2) := dk_6 da_37
theorem dX1_thinkAndWeep_41 : decode cX1_thinkAndWeep 41 = .ok (.invokevirtual 102, 3) := dk_7 da_37
theorem dX1_thinkAndWeep_44 : decode cX1_thinkAndWeep 44 = .ok (.iload_n 2, 1) := dk_8 da_37
theorem dX1_thinkAndWeep_45 : decode cX1_thinkAndWeep 45 = .ok (.iconst 1, 1) := dk_9 da_37
theorem dX1_thinkAndWeep_46 : decode cX1_thinkAndWeep 46 = .ok (.iload 4, 2) := dk_10 da_37
theorem dX1_thinkAndWeep_48 : decode cX1_thinkAndWeep 48 = .ok (.ishl, 1) := dk_11 da_37
theorem dX1_thinkAndWeep_49 : decode cX1_thinkAndWeep 49 = .ok (.ior, 1) := dk_12 da_37
theorem dX1_thinkAndWeep_50 : decode cX1_thinkAndWeep 50 = .ok (.istore_n 2, 1) := dk_13 da_37
theorem dX1_thinkAndWeep_51 : decode cX1_thinkAndWeep 51 = .ok (.iinc 3 1, 3) := dk_14 da_37
theorem dX1_thinkAndWeep_54 : decode cX1_thinkAndWeep 54 = .ok (.goto (-41), 3) := dk_15 da_37
theorem da_38 : fd_G cX1_thinkAndWeep 57 [(57, .aload_n 0, 1), (58, .dup, 1), (59, .getfield 52, 3), (62, .iload_n 2, 1), (63, .ior, 1), (64, .putfield 52, 3), (67, .aload_n 0, 1), (68, .dup, 1), (69, .getfield 55, 3), (72, .iload_n 2, 1), (73, .invokestatic 106, 3), (76, .iadd, 1), (77, .putfield 55, 3), (80, .iload_n 2, 1), (81, .ireturn, 1)] = true := by decide +kernel
theorem dX1_thinkAndWeep_57 : decode cX1_thinkAndWeep 57 = .ok (.aload_n 0, 1) := dk_0 da_38
theorem dX1_thinkAndWeep_58 : decode cX1_thinkAndWeep 58 = .ok (.dup, 1) := dk_1 da_38
theorem dX1_thinkAndWeep_59 : decode cX1_thinkAndWeep 59 = .ok (.getfield 52, 3) := dk_2 da_38
theorem dX1_thinkAndWeep_62 : decode cX1_thinkAndWeep 62 = .ok (.iload_n 2, 1) := dk_3 da_38
theorem dX1_thinkAndWeep_63 : decode cX1_thinkAndWeep 63 = .ok (.ior, 1) := dk_4 da_38
theorem dX1_thinkAndWeep_64 : decode cX1_thinkAndWeep 64 = .ok (.putfield 52, 3) := dk_5 da_38
theorem dX1_thinkAndWeep_67 : decode cX1_thinkAndWeep 67 = .ok (.aload_n 0, 1) := dk_6 da_38
theorem dX1_thinkAndWeep_68 : decode cX1_thinkAndWeep 68 = .ok (.dup, 1) := dk_7 da_38
theorem dX1_thinkAndWeep_69 : decode cX1_thinkAndWeep 69 = .ok (.getfield 55, 3) := dk_8 da_38
theorem dX1_thinkAndWeep_72 : decode cX1_thinkAndWeep 72 = .ok (.iload_n 2, 1) := dk_9 da_38
theorem dX1_thinkAndWeep_73 : decode cX1_thinkAndWeep 73 = .ok (.invokestatic 106, 3) := dk_10 da_38
theorem dX1_thinkAndWeep_76 : decode cX1_thinkAndWeep 76 = .ok (.iadd, 1) := dk_11 da_38
theorem dX1_thinkAndWeep_77 : decode cX1_thinkAndWeep 77 = .ok (.putfield 55, 3) := dk_12 da_38
theorem dX1_thinkAndWeep_80 : decode cX1_thinkAndWeep 80 = .ok (.iload_n 2, 1) := dk_13 da_38
theorem dX1_thinkAndWeep_81 : decode cX1_thinkAndWeep 81 = .ok (.ireturn, 1) := dk_14 da_38
theorem da_39 : fd_G cX1_firstToWeep 0 [(0, .iconst 0, 1), (1, .istore_n 2, 1), (2, .iload_n 2, 1), (3, .aload_n 0, 1), (4, .getfield 37, 3), (7, .if_icmp .ge 41, 3), (10, .aload_n 0, 1), (11, .iload_n 2, 1), (12, .invokevirtual 75, 3), (15, .ifCond .eq 27, 3), (18, .aload_n 0, 1), (19, .getfield 15, 3), (22, .iload_n 2, 1), (23, .iaload, 1), (24, .aload_n 0, 1), (25, .iload_n 2, 1)] = true := by decide +kernel
theorem dX1_firstToWeep_0 : decode cX1_firstToWeep 0 = .ok (.iconst 0, 1) := dk_0 da_39
theorem dX1_firstToWeep_1 : decode cX1_firstToWeep 1 = .ok (.istore_n 2, 1) := dk_1 da_39
theorem dX1_firstToWeep_2 : decode cX1_firstToWeep 2 = .ok (.iload_n 2, 1) := dk_2 da_39
theorem dX1_firstToWeep_3 : decode cX1_firstToWeep 3 = .ok (.aload_n 0, 1) := dk_3 da_39
theorem dX1_firstToWeep_4 : decode cX1_firstToWeep 4 = .ok (.getfield 37, 3) := dk_4 da_39
theorem dX1_firstToWeep_7 : decode cX1_firstToWeep 7 = .ok (.if_icmp .ge 41, 3) := dk_5 da_39
theorem dX1_firstToWeep_10 : decode cX1_firstToWeep 10 = .ok (.aload_n 0, 1) := dk_6 da_39
theorem dX1_firstToWeep_11 : decode cX1_firstToWeep 11 = .ok (.iload_n 2, 1) := dk_7 da_39
theorem dX1_firstToWeep_12 : decode cX1_firstToWeep 12 = .ok (.invokevirtual 75, 3) := dk_8 da_39
theorem dX1_firstToWeep_15 : decode cX1_firstToWeep 15 = .ok (.ifCond .eq 27, 3) := dk_9 da_39
theorem dX1_firstToWeep_18 : decode cX1_firstToWeep 18 = .ok (.aload_n 0, 1) := dk_10 da_39
theorem dX1_firstToWeep_19 : decode cX1_firstToWeep 19 = .ok (.getfield 15, 3) := dk_11 da_39
theorem dX1_firstToWeep_22 : decode cX1_firstToWeep 22 = .ok (.iload_n 2, 1) := dk_12 da_39
theorem dX1_firstToWeep_23 : decode cX1_firstToWeep 23 = .ok (.iaload, 1) := dk_13 da_39
theorem dX1_firstToWeep_24 : decode cX1_firstToWeep 24 = .ok (.aload_n 0, 1) := dk_14 da_39
theorem dX1_firstToWeep_25 : decode cX1_firstToWeep 25 = .ok (.iload_n 2, 1) := dk_15 da_39
theorem da_40 : fd_G cX1_firstToWeep 26 [(26, .invokevirtual 111, 3), (29, .if_icmp .lt 13, 3), (32, .iload_n 1, 1), (33, .iload_n 2, 1), (34, .ishr, 1), (35, .iconst 1, 1), (36, .iand, 1), (37, .ifCond .ne 5, 3), (40, .iload_n 2, 1), (41, .ireturn, 1), (42, .iinc 2 1, 3), (45, .goto (-43), 3), (48, .bipush (-4), 2), (50, .ireturn, 1)] = true := by decide +kernel
theorem dX1_firstToWeep_26 : decode cX1_firstToWeep 26 = .ok (.invokevirtual 111, 3) := dk_0 da_40
theorem dX1_firstToWeep_29 : decode cX1_firstToWeep 29 = .ok (.if_icmp .lt 13, 3) := dk_1 da_40
theorem dX1_firstToWeep_32 : decode cX1_firstToWeep 32 = .ok (.iload_n 1, 1) := dk_2 da_40
theorem dX1_firstToWeep_33 : decode cX1_firstToWeep 33 = .ok (.iload_n 2, 1) := dk_3 da_40
theorem dX1_firstToWeep_34 : decode cX1_firstToWeep 34 = .ok (.ishr, 1) := dk_4 da_40
theorem dX1_firstToWeep_35 : decode cX1_firstToWeep 35 = .ok (.iconst 1, 1) := dk_5 da_40
theorem dX1_firstToWeep_36 : decode cX1_firstToWeep 36 = .ok (.iand, 1) := dk_6 da_40
theorem dX1_firstToWeep_37 : decode cX1_firstToWeep 37 = .ok (.ifCond .ne 5, 3) := dk_7 da_40
theorem dX1_firstToWeep_40 : decode cX1_firstToWeep 40 = .ok (.iload_n 2, 1) := dk_8 da_40
theorem dX1_firstToWeep_41 : decode cX1_firstToWeep 41 = .ok (.ireturn, 1) := dk_9 da_40
theorem dX1_firstToWeep_42 : decode cX1_firstToWeep 42 = .ok (.iinc 2 1, 3) := dk_10 da_40
theorem dX1_firstToWeep_45 : decode cX1_firstToWeep 45 = .ok (.goto (-43), 3) := dk_11 da_40
theorem dX1_firstToWeep_48 : decode cX1_firstToWeep 48 = .ok (.bipush (-4), 2) := dk_12 da_40
theorem dX1_firstToWeep_50 : decode cX1_firstToWeep 50 = .ok (.ireturn, 1) := dk_13 da_40
theorem da_41 : fd_G cX1_weep 0 [(0, .aload_n 0, 1), (1, .getfield 18, 3), (4, .iload_n 1, 1), (5, .aload_n 0, 1), (6, .getfield 43, 3), (9, .iastore, 1), (10, .aload_n 0, 1), (11, .getfield 15, 3), (14, .iload_n 1, 1), (15, .iconst 0, 1), (16, .iastore, 1), (17, .aload_n 0, 1), (18, .aload_n 0, 1), (19, .iload_n 1, 1), (20, .iconst (-1), 1), (21, .invokevirtual 114, 3)] = true := by decide +kernel
theorem dX1_weep_0 : decode cX1_weep 0 = .ok (.aload_n 0, 1) := dk_0 da_41
theorem dX1_weep_1 : decode cX1_weep 1 = .ok (.getfield 18, 3) := dk_1 da_41
theorem dX1_weep_4 : decode cX1_weep 4 = .ok (.iload_n 1, 1) := dk_2 da_41
theorem dX1_weep_5 : decode cX1_weep 5 = .ok (.aload_n 0, 1) := dk_3 da_41
theorem dX1_weep_6 : decode cX1_weep 6 = .ok (.getfield 43, 3) := dk_4 da_41
theorem dX1_weep_9 : decode cX1_weep 9 = .ok (.iastore, 1) := dk_5 da_41
theorem dX1_weep_10 : decode cX1_weep 10 = .ok (.aload_n 0, 1) := dk_6 da_41
theorem dX1_weep_11 : decode cX1_weep 11 = .ok (.getfield 15, 3) := dk_7 da_41
theorem dX1_weep_14 : decode cX1_weep 14 = .ok (.iload_n 1, 1) := dk_8 da_41
theorem dX1_weep_15 : decode cX1_weep 15 = .ok (.iconst 0, 1) := dk_9 da_41
theorem dX1_weep_16 : decode cX1_weep 16 = .ok (.iastore, 1) := dk_10 da_41
theorem dX1_weep_17 : decode cX1_weep 17 = .ok (.aload_n 0, 1) := dk_11 da_41
theorem dX1_weep_18 : decode cX1_weep 18 = .ok (.aload_n 0, 1) := dk_12 da_41
theorem dX1_weep_19 : decode cX1_weep 19 = .ok (.iload_n 1, 1) := dk_13 da_41
theorem dX1_weep_20 : decode cX1_weep 20 = .ok (.iconst (-1), 1) := dk_14 da_41
theorem dX1_weep_21 : decode cX1_weep 21 = .ok (.invokevirtual 114, 3) := dk_15 da_41
theorem da_42 : fd_G cX1_weep 24 [(24, .iconst 2, 1), (25, .invokevirtual 95, 3), (28, .aload_n 0, 1), (29, .aload_n 0, 1), (30, .iload_n 1, 1), (31, .iconst 1, 1), (32, .invokevirtual 114, 3), (35, .iconst 2, 1), (36, .invokevirtual 95, 3), (39, .return_, 1)] = true := by decide +kernel
theorem dX1_weep_24 : decode cX1_weep 24 = .ok (.iconst 2, 1) := dk_0 da_42
theorem dX1_weep_25 : decode cX1_weep 25 = .ok (.invokevirtual 95, 3) := dk_1 da_42
theorem dX1_weep_28 : decode cX1_weep 28 = .ok (.aload_n 0, 1) := dk_2 da_42
theorem dX1_weep_29 : decode cX1_weep 29 = .ok (.aload_n 0, 1) := dk_3 da_42
theorem dX1_weep_30 : decode cX1_weep 30 = .ok (.iload_n 1, 1) := dk_4 da_42
theorem dX1_weep_31 : decode cX1_weep 31 = .ok (.iconst 1, 1) := dk_5 da_42
theorem dX1_weep_32 : decode cX1_weep 32 = .ok (.invokevirtual 114, 3) := dk_6 da_42
theorem dX1_weep_35 : decode cX1_weep 35 = .ok (.iconst 2, 1) := dk_7 da_42
theorem dX1_weep_36 : decode cX1_weep 36 = .ok (.invokevirtual 95, 3) := dk_8 da_42
theorem dX1_weep_39 : decode cX1_weep 39 = .ok (.return_, 1) := dk_9 da_42
theorem da_43 : fd_G cX1_nearest 0 [(0, .iload_n 1, 1), (1, .istore_n 3, 1), (2, .iconst 0, 1), (3, .istore 4, 2), (5, .iload 4, 2), (7, .iconst 5, 1), (8, .if_icmp .ge 23, 3), (11, .iload_n 3, 1), (12, .iload_n 2, 1), (13, .iadd, 1), (14, .istore_n 3, 1), (15, .aload_n 0, 1), (16, .iload_n 3, 1), (17, .invokevirtual 75, 3), (20, .ifCond .eq 5, 3), (23, .iload_n 3, 1)] = true := by decide +kernel
theorem dX1_nearest_0 : decode cX1_nearest 0 = .ok (.iload_n 1, 1) := dk_0 da_43
theorem dX1_nearest_1 : decode cX1_nearest 1 = .ok (.istore_n 3, 1) := dk_1 da_43
theorem dX1_nearest_2 : decode cX1_nearest 2 = .ok (.iconst 0, 1) := dk_2 da_43
theorem dX1_nearest_3 : decode cX1_nearest 3 = .ok (.istore 4, 2) := dk_3 da_43
theorem dX1_nearest_5 : decode cX1_nearest 5 = .ok (.iload 4, 2) := dk_4 da_43
theorem dX1_nearest_7 : decode cX1_nearest 7 = .ok (.iconst 5, 1) := dk_5 da_43
theorem dX1_nearest_8 : decode cX1_nearest 8 = .ok (.if_icmp .ge 23, 3) := dk_6 da_43
theorem dX1_nearest_11 : decode cX1_nearest 11 = .ok (.iload_n 3, 1) := dk_7 da_43
theorem dX1_nearest_12 : decode cX1_nearest 12 = .ok (.iload_n 2, 1) := dk_8 da_43
theorem dX1_nearest_13 : decode cX1_nearest 13 = .ok (.iadd, 1) := dk_9 da_43
theorem dX1_nearest_14 : decode cX1_nearest 14 = .ok (.istore_n 3, 1) := dk_10 da_43
theorem dX1_nearest_15 : decode cX1_nearest 15 = .ok (.aload_n 0, 1) := dk_11 da_43
theorem dX1_nearest_16 : decode cX1_nearest 16 = .ok (.iload_n 3, 1) := dk_12 da_43
theorem dX1_nearest_17 : decode cX1_nearest 17 = .ok (.invokevirtual 75, 3) := dk_13 da_43
theorem dX1_nearest_20 : decode cX1_nearest 20 = .ok (.ifCond .eq 5, 3) := dk_14 da_43
theorem dX1_nearest_23 : decode cX1_nearest 23 = .ok (.iload_n 3, 1) := dk_15 da_43
theorem da_44 : fd_G cX1_nearest 24 [(24, .ireturn, 1), (25, .iinc 4 1, 3), (28, .goto (-23), 3), (31, .bipush (-4), 2), (33, .ireturn, 1)] = true := by decide +kernel
theorem dX1_nearest_24 : decode cX1_nearest 24 = .ok (.ireturn, 1) := dk_0 da_44
theorem dX1_nearest_25 : decode cX1_nearest 25 = .ok (.iinc 4 1, 3) := dk_1 da_44
theorem dX1_nearest_28 : decode cX1_nearest 28 = .ok (.goto (-23), 3) := dk_2 da_44
theorem dX1_nearest_31 : decode cX1_nearest 31 = .ok (.bipush (-4), 2) := dk_3 da_44
theorem dX1_nearest_33 : decode cX1_nearest 33 = .ok (.ireturn, 1) := dk_4 da_44
theorem da_45 : fd_G cX1_sadden 0 [(0, .iload_n 1, 1), (1, .ifCond .lt 30, 3), (4, .iload_n 1, 1), (5, .aload_n 0, 1), (6, .getfield 37, 3), (9, .if_icmp .ge 22, 3), (12, .aload_n 0, 1), (13, .getfield 15, 3), (16, .iload_n 1, 1), (17, .bipush 40, 2), (19, .aload_n 0, 1), (20, .getfield 15, 3), (23, .iload_n 1, 1), (24, .iaload, 1), (25, .iload_n 2, 1), (26, .iadd, 1)] = true := by decide +kernel
theorem dX1_sadden_0 : decode cX1_sadden 0 = .ok (.iload_n 1, 1) := dk_0 da_45
theorem dX1_sadden_1 : decode cX1_sadden 1 = .ok (.ifCond .lt 30, 3) := dk_1 da_45
theorem dX1_sadden_4 : decode cX1_sadden 4 = .ok (.iload_n 1, 1) := dk_2 da_45
theorem dX1_sadden_5 : decode cX1_sadden 5 = .ok (.aload_n 0, 1) := dk_3 da_45
theorem dX1_sadden_6 : decode cX1_sadden 6 = .ok (.getfield 37, 3) := dk_4 da_45
theorem dX1_sadden_9 : decode cX1_sadden 9 = .ok (.if_icmp .ge 22, 3) := dk_5 da_45
theorem dX1_sadden_12 : decode cX1_sadden 12 = .ok (.aload_n 0, 1) := dk_6 da_45
theorem dX1_sadden_13 : decode cX1_sadden 13 = .ok (.getfield 15, 3) := dk_7 da_45
theorem dX1_sadden_16 : decode cX1_sadden 16 = .ok (.iload_n 1, 1) := dk_8 da_45
theorem dX1_sadden_17 : decode cX1_sadden 17 = .ok (.bipush 40, 2) := dk_9 da_45
theorem dX1_sadden_19 : decode cX1_sadden 19 = .ok (.aload_n 0, 1) := dk_10 da_45
theorem dX1_sadden_20 : decode cX1_sadden 20 = .ok (.getfield 15, 3) := dk_11 da_45
theorem dX1_sadden_23 : decode cX1_sadden 23 = .ok (.iload_n 1, 1) := dk_12 da_45
theorem dX1_sadden_24 : decode cX1_sadden 24 = .ok (.iaload, 1) := dk_13 da_45
theorem dX1_sadden_25 : decode cX1_sadden 25 = .ok (.iload_n 2, 1) := dk_14 da_45
theorem dX1_sadden_26 : decode cX1_sadden 26 = .ok (.iadd, 1) := dk_15 da_45
theorem da_46 : fd_G cX1_sadden 27 [(27, .invokestatic 118, 3), (30, .iastore, 1), (31, .return_, 1)] = true := by decide +kernel
theorem dX1_sadden_27 : decode cX1_sadden 27 = .ok (.invokestatic 118, 3) := dk_0 da_46
theorem dX1_sadden_30 : decode cX1_sadden 30 = .ok (.iastore, 1) := dk_1 da_46
theorem dX1_sadden_31 : decode cX1_sadden 31 = .ok (.return_, 1) := dk_2 da_46
theorem da_47 : fd_G cX1_dry 0 [(0, .iconst 0, 1), (1, .istore_n 1, 1), (2, .iload_n 1, 1), (3, .aload_n 0, 1), (4, .getfield 37, 3), (7, .if_icmp .ge 35, 3), (10, .aload_n 0, 1), (11, .iload_n 1, 1), (12, .invokevirtual 75, 3), (15, .ifCond .eq 21, 3), (18, .aload_n 0, 1), (19, .getfield 15, 3), (22, .iload_n 1, 1), (23, .iconst 0, 1), (24, .aload_n 0, 1), (25, .getfield 15, 3)] = true := by decide +kernel
theorem dX1_dry_0 : decode cX1_dry 0 = .ok (.iconst 0, 1) := dk_0 da_47
theorem dX1_dry_1 : decode cX1_dry 1 = .ok (.istore_n 1, 1) := dk_1 da_47
theorem dX1_dry_2 : decode cX1_dry 2 = .ok (.iload_n 1, 1) := dk_2 da_47
theorem dX1_dry_3 : decode cX1_dry 3 = .ok (.aload_n 0, 1) := dk_3 da_47
theorem dX1_dry_4 : decode cX1_dry 4 = .ok (.getfield 37, 3) := dk_4 da_47
theorem dX1_dry_7 : decode cX1_dry 7 = .ok (.if_icmp .ge 35, 3) := dk_5 da_47
theorem dX1_dry_10 : decode cX1_dry 10 = .ok (.aload_n 0, 1) := dk_6 da_47
theorem dX1_dry_11 : decode cX1_dry 11 = .ok (.iload_n 1, 1) := dk_7 da_47
theorem dX1_dry_12 : decode cX1_dry 12 = .ok (.invokevirtual 75, 3) := dk_8 da_47
theorem dX1_dry_15 : decode cX1_dry 15 = .ok (.ifCond .eq 21, 3) := dk_9 da_47
theorem dX1_dry_18 : decode cX1_dry 18 = .ok (.aload_n 0, 1) := dk_10 da_47
theorem dX1_dry_19 : decode cX1_dry 19 = .ok (.getfield 15, 3) := dk_11 da_47
theorem dX1_dry_22 : decode cX1_dry 22 = .ok (.iload_n 1, 1) := dk_12 da_47
theorem dX1_dry_23 : decode cX1_dry 23 = .ok (.iconst 0, 1) := dk_13 da_47
theorem dX1_dry_24 : decode cX1_dry 24 = .ok (.aload_n 0, 1) := dk_14 da_47
theorem dX1_dry_25 : decode cX1_dry 25 = .ok (.getfield 15, 3) := dk_15 da_47
theorem da_48 : fd_G cX1_dry 28 [(28, .iload_n 1, 1), (29, .iaload, 1), (30, .iconst 1, 1), (31, .isub, 1), (32, .invokestatic 123, 3), (35, .iastore, 1), (36, .iinc 1 1, 3), (39, .goto (-37), 3), (42, .aload_n 0, 1), (43, .sipush 999, 3), (46, .aload_n 0, 1), (47, .getfield 43, 3), (50, .iconst 1, 1), (51, .iadd, 1), (52, .invokestatic 118, 3), (55, .putfield 43, 3)] = true := by decide +kernel
theorem dX1_dry_28 : decode cX1_dry 28 = .ok (.iload_n 1, 1) := dk_0 da_48
theorem dX1_dry_29 : decode cX1_dry 29 = .ok (.iaload, 1) := dk_1 da_48
theorem dX1_dry_30 : decode cX1_dry 30 = .ok (.iconst 1, 1) := dk_2 da_48
theorem dX1_dry_31 : decode cX1_dry 31 = .ok (.isub, 1) := dk_3 da_48
theorem dX1_dry_32 : decode cX1_dry 32 = .ok (.invokestatic 123, 3) := dk_4 da_48
theorem dX1_dry_35 : decode cX1_dry 35 = .ok (.iastore, 1) := dk_5 da_48
theorem dX1_dry_36 : decode cX1_dry 36 = .ok (.iinc 1 1, 3) := dk_6 da_48
theorem dX1_dry_39 : decode cX1_dry 39 = .ok (.goto (-37), 3) := dk_7 da_48
theorem dX1_dry_42 : decode cX1_dry 42 = .ok (.aload_n 0, 1) := dk_8 da_48
theorem dX1_dry_43 : decode cX1_dry 43 = .ok (.sipush 999, 3) := dk_9 da_48
theorem dX1_dry_46 : decode cX1_dry 46 = .ok (.aload_n 0, 1) := dk_10 da_48
theorem dX1_dry_47 : decode cX1_dry 47 = .ok (.getfield 43, 3) := dk_11 da_48
theorem dX1_dry_50 : decode cX1_dry 50 = .ok (.iconst 1, 1) := dk_12 da_48
theorem dX1_dry_51 : decode cX1_dry 51 = .ok (.iadd, 1) := dk_13 da_48
theorem dX1_dry_52 : decode cX1_dry 52 = .ok (.invokestatic 118, 3) := dk_14 da_48
theorem dX1_dry_55 : decode cX1_dry 55 = .ok (.putfield 43, 3) := dk_15 da_48
theorem da_49 : fd_G cX1_dry 58 [(58, .return_, 1)] = true := by decide +kernel
theorem dX1_dry_58 : decode cX1_dry 58 = .ok (.return_, 1) := dk_0 da_49
theorem da_50 : fd_G cX1_board 0 [(0, .aload_n 0, 1), (1, .invokevirtual 126, 3), (4, .istore_n 1, 1), (5, .iconst 0, 1), (6, .istore_n 2, 1), (7, .iconst 0, 1), (8, .istore_n 3, 1), (9, .iload_n 3, 1), (10, .iload_n 1, 1), (11, .if_icmp .ge 28, 3), (14, .iload_n 3, 1), (15, .aload_n 0, 1), (16, .getfield 27, 3), (19, .if_icmp .ge 20, 3), (22, .iload_n 2, 1), (23, .iconst 1, 1)] = true := by decide +kernel
theorem dX1_board_0 : decode cX1_board 0 = .ok (.aload_n 0, 1) := dk_0 da_50
theorem dX1_board_1 : decode cX1_board 1 = .ok (.invokevirtual 126, 3) := dk_1 da_50
theorem dX1_board_4 : decode cX1_board 4 = .ok (.istore_n 1, 1) := dk_2 da_50
theorem dX1_board_5 : decode cX1_board 5 = .ok (.iconst 0, 1) := dk_3 da_50
theorem dX1_board_6 : decode cX1_board 6 = .ok (.istore_n 2, 1) := dk_4 da_50
theorem dX1_board_7 : decode cX1_board 7 = .ok (.iconst 0, 1) := dk_5 da_50
theorem dX1_board_8 : decode cX1_board 8 = .ok (.istore_n 3, 1) := dk_6 da_50
theorem dX1_board_9 : decode cX1_board 9 = .ok (.iload_n 3, 1) := dk_7 da_50
theorem dX1_board_10 : decode cX1_board 10 = .ok (.iload_n 1, 1) := dk_8 da_50
theorem dX1_board_11 : decode cX1_board 11 = .ok (.if_icmp .ge 28, 3) := dk_9 da_50
theorem dX1_board_14 : decode cX1_board 14 = .ok (.iload_n 3, 1) := dk_10 da_50
theorem dX1_board_15 : decode cX1_board 15 = .ok (.aload_n 0, 1) := dk_11 da_50
theorem dX1_board_16 : decode cX1_board 16 = .ok (.getfield 27, 3) := dk_12 da_50
theorem dX1_board_19 : decode cX1_board 19 = .ok (.if_icmp .ge 20, 3) := dk_13 da_50
theorem dX1_board_22 : decode cX1_board 22 = .ok (.iload_n 2, 1) := dk_14 da_50
theorem dX1_board_23 : decode cX1_board 23 = .ok (.iconst 1, 1) := dk_15 da_50
theorem da_51 : fd_G cX1_board 24 [(24, .aload_n 0, 1), (25, .getfield 24, 3), (28, .iload_n 3, 1), (29, .iaload, 1), (30, .ishl, 1), (31, .ior, 1), (32, .istore_n 2, 1), (33, .iinc 3 1, 3), (36, .goto (-27), 3), (39, .aload_n 0, 1), (40, .dup, 1), (41, .getfield 40, 3), (44, .iload_n 2, 1), (45, .ior, 1), (46, .putfield 40, 3), (49, .iload_n 2, 1)] = true := by decide +kernel
theorem dX1_board_24 : decode cX1_board 24 = .ok (.aload_n 0, 1) := dk_0 da_51
theorem dX1_board_25 : decode cX1_board 25 = .ok (.getfield 24, 3) := dk_1 da_51
theorem dX1_board_28 : decode cX1_board 28 = .ok (.iload_n 3, 1) := dk_2 da_51
theorem dX1_board_29 : decode cX1_board 29 = .ok (.iaload, 1) := dk_3 da_51
theorem dX1_board_30 : decode cX1_board 30 = .ok (.ishl, 1) := dk_4 da_51
theorem dX1_board_31 : decode cX1_board 31 = .ok (.ior, 1) := dk_5 da_51
theorem dX1_board_32 : decode cX1_board 32 = .ok (.istore_n 2, 1) := dk_6 da_51
theorem dX1_board_33 : decode cX1_board 33 = .ok (.iinc 3 1, 3) := dk_7 da_51
theorem dX1_board_36 : decode cX1_board 36 = .ok (.goto (-27), 3) := dk_8 da_51
theorem dX1_board_39 : decode cX1_board 39 = .ok (.aload_n 0, 1) := dk_9 da_51
theorem dX1_board_40 : decode cX1_board 40 = .ok (.dup, 1) := dk_10 da_51
theorem dX1_board_41 : decode cX1_board 41 = .ok (.getfield 40, 3) := dk_11 da_51
theorem dX1_board_44 : decode cX1_board 44 = .ok (.iload_n 2, 1) := dk_12 da_51
theorem dX1_board_45 : decode cX1_board 45 = .ok (.ior, 1) := dk_13 da_51
theorem dX1_board_46 : decode cX1_board 46 = .ok (.putfield 40, 3) := dk_14 da_51
theorem dX1_board_49 : decode cX1_board 49 = .ok (.iload_n 2, 1) := dk_15 da_51
theorem da_52 : fd_G cX1_board 50 [(50, .ireturn, 1)] = true := by decide +kernel
theorem dX1_board_50 : decode cX1_board 50 = .ok (.ireturn, 1) := dk_0 da_52
theorem da_53 : fd_G cX1_inLine 0 [(0, .aload_n 0, 1), (1, .invokevirtual 126, 3), (4, .istore_n 2, 1), (5, .iload_n 1, 1), (6, .ifCond .lt 17, 3), (9, .iload_n 1, 1), (10, .iload_n 2, 1), (11, .if_icmp .ge 12, 3), (14, .aload_n 0, 1), (15, .getfield 24, 3), (18, .iload_n 1, 1), (19, .iaload, 1), (20, .goto 5, 3), (23, .bipush (-4), 2), (25, .ireturn, 1)] = true := by decide +kernel
theorem dX1_inLine_0 : decode cX1_inLine 0 = .ok (.aload_n 0, 1) := dk_0 da_53
theorem dX1_inLine_1 : decode cX1_inLine 1 = .ok (.invokevirtual 126, 3) := dk_1 da_53
theorem dX1_inLine_4 : decode cX1_inLine 4 = .ok (.istore_n 2, 1) := dk_2 da_53
theorem dX1_inLine_5 : decode cX1_inLine 5 = .ok (.iload_n 1, 1) := dk_3 da_53
theorem dX1_inLine_6 : decode cX1_inLine 6 = .ok (.ifCond .lt 17, 3) := dk_4 da_53
theorem dX1_inLine_9 : decode cX1_inLine 9 = .ok (.iload_n 1, 1) := dk_5 da_53
theorem dX1_inLine_10 : decode cX1_inLine 10 = .ok (.iload_n 2, 1) := dk_6 da_53
theorem dX1_inLine_11 : decode cX1_inLine 11 = .ok (.if_icmp .ge 12, 3) := dk_7 da_53
theorem dX1_inLine_14 : decode cX1_inLine 14 = .ok (.aload_n 0, 1) := dk_8 da_53
theorem dX1_inLine_15 : decode cX1_inLine 15 = .ok (.getfield 24, 3) := dk_9 da_53
theorem dX1_inLine_18 : decode cX1_inLine 18 = .ok (.iload_n 1, 1) := dk_10 da_53
theorem dX1_inLine_19 : decode cX1_inLine 19 = .ok (.iaload, 1) := dk_11 da_53
theorem dX1_inLine_20 : decode cX1_inLine 20 = .ok (.goto 5, 3) := dk_12 da_53
theorem dX1_inLine_23 : decode cX1_inLine 23 = .ok (.bipush (-4), 2) := dk_13 da_53
theorem dX1_inLine_25 : decode cX1_inLine 25 = .ok (.ireturn, 1) := dk_14 da_53
theorem dX1_lineUp_23 : decode cX1_lineUp 23 = .ok (.ifCond .le 43, 3) := by decide +kernel
theorem da_54 : fd_G cX1_lineUp 0 [(0, .iconst 0, 1), (1, .istore_n 1, 1), (2, .iconst 0, 1), (3, .istore_n 2, 1), (4, .iload_n 2, 1), (5, .aload_n 0, 1), (6, .getfield 37, 3), (9, .if_icmp .ge 73, 3), (12, .aload_n 0, 1), (13, .iload_n 2, 1), (14, .invokevirtual 75, 3), (17, .ifCond .eq 59, 3), (20, .iload_n 1, 1), (21, .istore_n 3, 1), (22, .iload_n 3, 1), (26, .aload_n 0, 1)] = true := by decide +kernel
theorem dX1_lineUp_0 : decode cX1_lineUp 0 = .ok (.iconst 0, 1) := dk_0 da_54
theorem dX1_lineUp_1 : decode cX1_lineUp 1 = .ok (.istore_n 1, 1) := dk_1 da_54
theorem dX1_lineUp_2 : decode cX1_lineUp 2 = .ok (.iconst 0, 1) := dk_2 da_54
theorem dX1_lineUp_3 : decode cX1_lineUp 3 = .ok (.istore_n 2, 1) := dk_3 da_54
theorem dX1_lineUp_4 : decode cX1_lineUp 4 = .ok (.iload_n 2, 1) := dk_4 da_54
theorem dX1_lineUp_5 : decode cX1_lineUp 5 = .ok (.aload_n 0, 1) := dk_5 da_54
theorem dX1_lineUp_6 : decode cX1_lineUp 6 = .ok (.getfield 37, 3) := dk_6 da_54
theorem dX1_lineUp_9 : decode cX1_lineUp 9 = .ok (.if_icmp .ge 73, 3) := dk_7 da_54
theorem dX1_lineUp_12 : decode cX1_lineUp 12 = .ok (.aload_n 0, 1) := dk_8 da_54
theorem dX1_lineUp_13 : decode cX1_lineUp 13 = .ok (.iload_n 2, 1) := dk_9 da_54
theorem dX1_lineUp_14 : decode cX1_lineUp 14 = .ok (.invokevirtual 75, 3) := dk_10 da_54
theorem dX1_lineUp_17 : decode cX1_lineUp 17 = .ok (.ifCond .eq 59, 3) := dk_11 da_54
theorem dX1_lineUp_20 : decode cX1_lineUp 20 = .ok (.iload_n 1, 1) := dk_12 da_54
theorem dX1_lineUp_21 : decode cX1_lineUp 21 = .ok (.istore_n 3, 1) := dk_13 da_54
theorem dX1_lineUp_22 : decode cX1_lineUp 22 = .ok (.iload_n 3, 1) := dk_14 da_54
theorem dX1_lineUp_26 : decode cX1_lineUp 26 = .ok (.aload_n 0, 1) := dk_15 da_54
theorem da_55 : fd_G cX1_lineUp 27 [(27, .aload_n 0, 1), (28, .getfield 24, 3), (31, .iload_n 3, 1), (32, .iconst 1, 1), (33, .isub, 1), (34, .iaload, 1), (35, .invokevirtual 129, 3), (38, .aload_n 0, 1), (39, .iload_n 2, 1), (40, .invokevirtual 129, 3), (43, .if_icmp .ge 23, 3), (46, .aload_n 0, 1), (47, .getfield 24, 3), (50, .iload_n 3, 1), (51, .aload_n 0, 1), (52, .getfield 24, 3)] = true := by decide +kernel
theorem dX1_lineUp_27 : decode cX1_lineUp 27 = .ok (.aload_n 0, 1) := dk_0 da_55
theorem dX1_lineUp_28 : decode cX1_lineUp 28 = .ok (.getfield 24, 3) := dk_1 da_55
theorem dX1_lineUp_31 : decode cX1_lineUp 31 = .ok (.iload_n 3, 1) := dk_2 da_55
theorem dX1_lineUp_32 : decode cX1_lineUp 32 = .ok (.iconst 1, 1) := dk_3 da_55
theorem dX1_lineUp_33 : decode cX1_lineUp 33 = .ok (.isub, 1) := dk_4 da_55
theorem dX1_lineUp_34 : decode cX1_lineUp 34 = .ok (.iaload, 1) := dk_5 da_55
theorem dX1_lineUp_35 : decode cX1_lineUp 35 = .ok (.invokevirtual 129, 3) := dk_6 da_55
theorem dX1_lineUp_38 : decode cX1_lineUp 38 = .ok (.aload_n 0, 1) := dk_7 da_55
theorem dX1_lineUp_39 : decode cX1_lineUp 39 = .ok (.iload_n 2, 1) := dk_8 da_55
theorem dX1_lineUp_40 : decode cX1_lineUp 40 = .ok (.invokevirtual 129, 3) := dk_9 da_55
theorem dX1_lineUp_43 : decode cX1_lineUp 43 = .ok (.if_icmp .ge 23, 3) := dk_10 da_55
theorem dX1_lineUp_46 : decode cX1_lineUp 46 = .ok (.aload_n 0, 1) := dk_11 da_55
theorem dX1_lineUp_47 : decode cX1_lineUp 47 = .ok (.getfield 24, 3) := dk_12 da_55
theorem dX1_lineUp_50 : decode cX1_lineUp 50 = .ok (.iload_n 3, 1) := dk_13 da_55
theorem dX1_lineUp_51 : decode cX1_lineUp 51 = .ok (.aload_n 0, 1) := dk_14 da_55
theorem dX1_lineUp_52 : decode cX1_lineUp 52 = .ok (.getfield 24, 3) := dk_15 da_55
theorem da_56 : fd_G cX1_lineUp 55 [(55, .iload_n 3, 1), (56, .iconst 1, 1), (57, .isub, 1), (58, .iaload, 1), (59, .iastore, 1), (60, .iinc 3 (-1), 3), (63, .goto (-41), 3), (66, .aload_n 0, 1), (67, .getfield 24, 3), (70, .iload_n 3, 1), (71, .iload_n 2, 1), (72, .iastore, 1), (73, .iinc 1 1, 3), (76, .iinc 2 1, 3), (79, .goto (-75), 3), (82, .iload_n 1, 1)] = true := by decide +kernel
theorem dX1_lineUp_55 : decode cX1_lineUp 55 = .ok (.iload_n 3, 1) := dk_0 da_56
theorem dX1_lineUp_56 : decode cX1_lineUp 56 = .ok (.iconst 1, 1) := dk_1 da_56
theorem dX1_lineUp_57 : decode cX1_lineUp 57 = .ok (.isub, 1) := dk_2 da_56
theorem dX1_lineUp_58 : decode cX1_lineUp 58 = .ok (.iaload, 1) := dk_3 da_56
theorem dX1_lineUp_59 : decode cX1_lineUp 59 = .ok (.iastore, 1) := dk_4 da_56
theorem dX1_lineUp_60 : decode cX1_lineUp 60 = .ok (.iinc 3 (-1), 3) := dk_5 da_56
theorem dX1_lineUp_63 : decode cX1_lineUp 63 = .ok (.goto (-41), 3) := dk_6 da_56
theorem dX1_lineUp_66 : decode cX1_lineUp 66 = .ok (.aload_n 0, 1) := dk_7 da_56
theorem dX1_lineUp_67 : decode cX1_lineUp 67 = .ok (.getfield 24, 3) := dk_8 da_56
theorem dX1_lineUp_70 : decode cX1_lineUp 70 = .ok (.iload_n 3, 1) := dk_9 da_56
theorem dX1_lineUp_71 : decode cX1_lineUp 71 = .ok (.iload_n 2, 1) := dk_10 da_56
theorem dX1_lineUp_72 : decode cX1_lineUp 72 = .ok (.iastore, 1) := dk_11 da_56
theorem dX1_lineUp_73 : decode cX1_lineUp 73 = .ok (.iinc 1 1, 3) := dk_12 da_56
theorem dX1_lineUp_76 : decode cX1_lineUp 76 = .ok (.iinc 2 1, 3) := dk_13 da_56
theorem dX1_lineUp_79 : decode cX1_lineUp 79 = .ok (.goto (-75), 3) := dk_14 da_56
theorem dX1_lineUp_82 : decode cX1_lineUp 82 = .ok (.iload_n 1, 1) := dk_15 da_56
theorem da_57 : fd_G cX1_lineUp 83 [(83, .ireturn, 1)] = true := by decide +kernel
theorem dX1_lineUp_83 : decode cX1_lineUp 83 = .ok (.ireturn, 1) := dk_0 da_57
theorem da_58 : fd_G cX1_rank 0 [(0, .aload_n 0, 1), (1, .getfield 9, 3), (4, .iload_n 1, 1), (5, .iaload, 1), (6, .iconst 2, 1), (7, .if_icmp .ne 16, 3), (10, .aload_n 0, 1), (11, .getfield 15, 3), (14, .iload_n 1, 1), (15, .iaload, 1), (16, .ifCond .ne 7, 3), (19, .iconst 1, 1), (20, .goto 4, 3), (23, .iconst 0, 1), (24, .istore_n 2, 1), (25, .iload_n 2, 1)] = true := by decide +kernel
theorem dX1_rank_0 : decode cX1_rank 0 = .ok (.aload_n 0, 1) := dk_0 da_58
theorem dX1_rank_1 : decode cX1_rank 1 = .ok (.getfield 9, 3) := dk_1 da_58
theorem dX1_rank_4 : decode cX1_rank 4 = .ok (.iload_n 1, 1) := dk_2 da_58
theorem dX1_rank_5 : decode cX1_rank 5 = .ok (.iaload, 1) := dk_3 da_58
theorem dX1_rank_6 : decode cX1_rank 6 = .ok (.iconst 2, 1) := dk_4 da_58
theorem dX1_rank_7 : decode cX1_rank 7 = .ok (.if_icmp .ne 16, 3) := dk_5 da_58
theorem dX1_rank_10 : decode cX1_rank 10 = .ok (.aload_n 0, 1) := dk_6 da_58
theorem dX1_rank_11 : decode cX1_rank 11 = .ok (.getfield 15, 3) := dk_7 da_58
theorem dX1_rank_14 : decode cX1_rank 14 = .ok (.iload_n 1, 1) := dk_8 da_58
theorem dX1_rank_15 : decode cX1_rank 15 = .ok (.iaload, 1) := dk_9 da_58
theorem dX1_rank_16 : decode cX1_rank 16 = .ok (.ifCond .ne 7, 3) := dk_10 da_58
theorem dX1_rank_19 : decode cX1_rank 19 = .ok (.iconst 1, 1) := dk_11 da_58
theorem dX1_rank_20 : decode cX1_rank 20 = .ok (.goto 4, 3) := dk_12 da_58
theorem dX1_rank_23 : decode cX1_rank 23 = .ok (.iconst 0, 1) := dk_13 da_58
theorem dX1_rank_24 : decode cX1_rank 24 = .ok (.istore_n 2, 1) := dk_14 da_58
theorem dX1_rank_25 : decode cX1_rank 25 = .ok (.iload_n 2, 1) := dk_15 da_58
theorem da_59 : fd_G cX1_rank 26 [(26, .ifCond .eq 8, 3), (29, .bipush (-2), 2), (31, .goto 9, 3), (34, .aload_n 0, 1), (35, .getfield 18, 3), (38, .iload_n 1, 1), (39, .iaload, 1), (40, .ireturn, 1)] = true := by decide +kernel
theorem dX1_rank_26 : decode cX1_rank 26 = .ok (.ifCond .eq 8, 3) := dk_0 da_59
theorem dX1_rank_29 : decode cX1_rank 29 = .ok (.bipush (-2), 2) := dk_1 da_59
theorem dX1_rank_31 : decode cX1_rank 31 = .ok (.goto 9, 3) := dk_2 da_59
theorem dX1_rank_34 : decode cX1_rank 34 = .ok (.aload_n 0, 1) := dk_3 da_59
theorem dX1_rank_35 : decode cX1_rank 35 = .ok (.getfield 18, 3) := dk_4 da_59
theorem dX1_rank_38 : decode cX1_rank 38 = .ok (.iload_n 1, 1) := dk_5 da_59
theorem dX1_rank_39 : decode cX1_rank 39 = .ok (.iaload, 1) := dk_6 da_59
theorem dX1_rank_40 : decode cX1_rank 40 = .ok (.ireturn, 1) := dk_7 da_59
theorem dX0_init_7 : decode cX0_init 7 = .ok (.anewarray 9, 3) := by decide +kernel
theorem dX0_init_15 : decode cX0_init 15 = .ok (.newarray .long, 2) := by decide +kernel
theorem da_60 : fd_G cX0_init 0 [(0, .aload_n 0, 1), (1, .invokespecial 3, 3), (4, .aload_n 0, 1), (5, .bipush 9, 2), (10, .putfield 11, 3), (13, .aload_n 0, 1), (14, .iconst 5, 1), (17, .putfield 17, 3), (20, .iconst 0, 1), (21, .istore_n 1, 1), (22, .iload_n 1, 1), (23, .bipush 8, 2), (25, .if_icmp .gt 22, 3), (28, .aload_n 0, 1), (29, .getfield 11, 3), (32, .iload_n 1, 1)] = true := by decide +kernel
theorem dX0_init_0 : decode cX0_init 0 = .ok (.aload_n 0, 1) := dk_0 da_60
theorem dX0_init_1 : decode cX0_init 1 = .ok (.invokespecial 3, 3) := dk_1 da_60
theorem dX0_init_4 : decode cX0_init 4 = .ok (.aload_n 0, 1) := dk_2 da_60
theorem dX0_init_5 : decode cX0_init 5 = .ok (.bipush 9, 2) := dk_3 da_60
theorem dX0_init_10 : decode cX0_init 10 = .ok (.putfield 11, 3) := dk_4 da_60
theorem dX0_init_13 : decode cX0_init 13 = .ok (.aload_n 0, 1) := dk_5 da_60
theorem dX0_init_14 : decode cX0_init 14 = .ok (.iconst 5, 1) := dk_6 da_60
theorem dX0_init_17 : decode cX0_init 17 = .ok (.putfield 17, 3) := dk_7 da_60
theorem dX0_init_20 : decode cX0_init 20 = .ok (.iconst 0, 1) := dk_8 da_60
theorem dX0_init_21 : decode cX0_init 21 = .ok (.istore_n 1, 1) := dk_9 da_60
theorem dX0_init_22 : decode cX0_init 22 = .ok (.iload_n 1, 1) := dk_10 da_60
theorem dX0_init_23 : decode cX0_init 23 = .ok (.bipush 8, 2) := dk_11 da_60
theorem dX0_init_25 : decode cX0_init 25 = .ok (.if_icmp .gt 22, 3) := dk_12 da_60
theorem dX0_init_28 : decode cX0_init 28 = .ok (.aload_n 0, 1) := dk_13 da_60
theorem dX0_init_29 : decode cX0_init 29 = .ok (.getfield 11, 3) := dk_14 da_60
theorem dX0_init_32 : decode cX0_init 32 = .ok (.iload_n 1, 1) := dk_15 da_60
theorem dX0_init_40 : decode cX0_init 40 = .ok (.aastore, 1) := by decide +kernel
theorem da_61 : fd_G cX0_init 33 [(33, .new 9, 3), (36, .dup, 1), (37, .invokespecial 21, 3), (41, .iinc 1 1, 3), (44, .goto (-22), 3), (47, .return_, 1)] = true := by decide +kernel
theorem dX0_init_33 : decode cX0_init 33 = .ok (.new 9, 3) := dk_0 da_61
theorem dX0_init_36 : decode cX0_init 36 = .ok (.dup, 1) := dk_1 da_61
theorem dX0_init_37 : decode cX0_init 37 = .ok (.invokespecial 21, 3) := dk_2 da_61
theorem dX0_init_41 : decode cX0_init 41 = .ok (.iinc 1 1, 3) := dk_3 da_61
theorem dX0_init_44 : decode cX0_init 44 = .ok (.goto (-22), 3) := dk_4 da_61
theorem dX0_init_47 : decode cX0_init 47 = .ok (.return_, 1) := dk_5 da_61
theorem dX0_weightOf_14 : decode cX0_weightOf 14 = .ok (.laload, 1) := by decide +kernel
theorem da_62 : fd_G cX0_weightOf 0 [(0, .iload_n 1, 1), (1, .ifCond .lt 17, 3), (4, .iload_n 1, 1), (5, .iconst 5, 1), (6, .if_icmp .ge 12, 3), (9, .aload_n 0, 1), (10, .getfield 17, 3), (13, .iload_n 1, 1), (15, .goto 4, 3), (18, .lconst 0, 1), (19, .lreturn, 1)] = true := by decide +kernel
theorem dX0_weightOf_0 : decode cX0_weightOf 0 = .ok (.iload_n 1, 1) := dk_0 da_62
theorem dX0_weightOf_1 : decode cX0_weightOf 1 = .ok (.ifCond .lt 17, 3) := dk_1 da_62
theorem dX0_weightOf_4 : decode cX0_weightOf 4 = .ok (.iload_n 1, 1) := dk_2 da_62
theorem dX0_weightOf_5 : decode cX0_weightOf 5 = .ok (.iconst 5, 1) := dk_3 da_62
theorem dX0_weightOf_6 : decode cX0_weightOf 6 = .ok (.if_icmp .ge 12, 3) := dk_4 da_62
theorem dX0_weightOf_9 : decode cX0_weightOf 9 = .ok (.aload_n 0, 1) := dk_5 da_62
theorem dX0_weightOf_10 : decode cX0_weightOf 10 = .ok (.getfield 17, 3) := dk_6 da_62
theorem dX0_weightOf_13 : decode cX0_weightOf 13 = .ok (.iload_n 1, 1) := dk_7 da_62
theorem dX0_weightOf_15 : decode cX0_weightOf 15 = .ok (.goto 4, 3) := dk_8 da_62
theorem dX0_weightOf_18 : decode cX0_weightOf 18 = .ok (.lconst 0, 1) := dk_9 da_62
theorem dX0_weightOf_19 : decode cX0_weightOf 19 = .ok (.lreturn, 1) := dk_10 da_62
theorem da_63 : fd_G cX0_weighPlan 0 [(0, .aload_n 0, 1), (1, .getfield 11, 3), (4, .iconst 0, 1), (5, .aaload, 1), (6, .aload_n 1, 1), (7, .invokevirtual 22, 3), (10, .aload_n 0, 1), (11, .getfield 17, 3), (14, .lconst 0, 1), (15, .invokestatic 26, 3), (18, .aload_n 0, 1), (19, .lconst 0, 1), (20, .putfield 32, 3), (23, .aload_n 0, 1), (24, .iconst 0, 1), (25, .lconst 1, 1)] = true := by decide +kernel
theorem dX0_weighPlan_0 : decode cX0_weighPlan 0 = .ok (.aload_n 0, 1) := dk_0 da_63
theorem dX0_weighPlan_1 : decode cX0_weighPlan 1 = .ok (.getfield 11, 3) := dk_1 da_63
theorem dX0_weighPlan_4 : decode cX0_weighPlan 4 = .ok (.iconst 0, 1) := dk_2 da_63
theorem dX0_weighPlan_5 : decode cX0_weighPlan 5 = .ok (.aaload, 1) := dk_3 da_63
theorem dX0_weighPlan_6 : decode cX0_weighPlan 6 = .ok (.aload_n 1, 1) := dk_4 da_63
theorem dX0_weighPlan_7 : decode cX0_weighPlan 7 = .ok (.invokevirtual 22, 3) := dk_5 da_63
theorem dX0_weighPlan_10 : decode cX0_weighPlan 10 = .ok (.aload_n 0, 1) := dk_6 da_63
theorem dX0_weighPlan_11 : decode cX0_weighPlan 11 = .ok (.getfield 17, 3) := dk_7 da_63
theorem dX0_weighPlan_14 : decode cX0_weighPlan 14 = .ok (.lconst 0, 1) := dk_8 da_63
theorem dX0_weighPlan_15 : decode cX0_weighPlan 15 = .ok (.invokestatic 26, 3) := dk_9 da_63
theorem dX0_weighPlan_18 : decode cX0_weighPlan 18 = .ok (.aload_n 0, 1) := dk_10 da_63
theorem dX0_weighPlan_19 : decode cX0_weighPlan 19 = .ok (.lconst 0, 1) := dk_11 da_63
theorem dX0_weighPlan_20 : decode cX0_weighPlan 20 = .ok (.putfield 32, 3) := dk_12 da_63
theorem dX0_weighPlan_23 : decode cX0_weighPlan 23 = .ok (.aload_n 0, 1) := dk_13 da_63
theorem dX0_weighPlan_24 : decode cX0_weighPlan 24 = .ok (.iconst 0, 1) := dk_14 da_63
theorem dX0_weighPlan_25 : decode cX0_weighPlan 25 = .ok (.lconst 1, 1) := dk_15 da_63
theorem da_64 : fd_G cX0_weighPlan 26 [(26, .iload_n 2, 1), (27, .invokevirtual 36, 3), (30, .return_, 1)] = true := by decide +kernel
theorem dX0_weighPlan_26 : decode cX0_weighPlan 26 = .ok (.iload_n 2, 1) := dk_0 da_64
theorem dX0_weighPlan_27 : decode cX0_weighPlan 27 = .ok (.invokevirtual 36, 3) := dk_1 da_64
theorem dX0_weighPlan_30 : decode cX0_weighPlan 30 = .ok (.return_, 1) := dk_2 da_64
theorem dX0_weighFrom_6 : decode cX0_weighFrom 6 = .ok (.astore 5, 2) := by decide +kernel
theorem da_65 : fd_G cX0_weighFrom 0 [(0, .aload_n 0, 1), (1, .getfield 11, 3), (4, .iload_n 1, 1), (5, .aaload, 1), (8, .iload_n 1, 1), (9, .aload 5, 2), (11, .getfield 40, 3), (14, .if_icmp .ge 9, 3), (17, .iload_n 1, 1), (18, .bipush 8, 2), (20, .if_icmp .lt 11, 3), (23, .aload_n 0, 1), (24, .aload 5, 2), (26, .lload_n 2, 1), (27, .invokevirtual 44, 3), (30, .return_, 1)] = true := by decide +kernel
theorem dX0_weighFrom_0 : decode cX0_weighFrom 0 = .ok (.aload_n 0, 1) := dk_0 da_65
theorem dX0_weighFrom_1 : decode cX0_weighFrom 1 = .ok (.getfield 11, 3) := dk_1 da_65
theorem dX0_weighFrom_4 : decode cX0_weighFrom 4 = .ok (.iload_n 1, 1) := dk_2 da_65
theorem dX0_weighFrom_5 : decode cX0_weighFrom 5 = .ok (.aaload, 1) := dk_3 da_65
theorem dX0_weighFrom_8 : decode cX0_weighFrom 8 = .ok (.iload_n 1, 1) := dk_4 da_65
theorem dX0_weighFrom_9 : decode cX0_weighFrom 9 = .ok (.aload 5, 2) := dk_5 da_65
theorem dX0_weighFrom_11 : decode cX0_weighFrom 11 = .ok (.getfield 40, 3) := dk_6 da_65
theorem dX0_weighFrom_14 : decode cX0_weighFrom 14 = .ok (.if_icmp .ge 9, 3) := dk_7 da_65
theorem dX0_weighFrom_17 : decode cX0_weighFrom 17 = .ok (.iload_n 1, 1) := dk_8 da_65
theorem dX0_weighFrom_18 : decode cX0_weighFrom 18 = .ok (.bipush 8, 2) := dk_9 da_65
theorem dX0_weighFrom_20 : decode cX0_weighFrom 20 = .ok (.if_icmp .lt 11, 3) := dk_10 da_65
theorem dX0_weighFrom_23 : decode cX0_weighFrom 23 = .ok (.aload_n 0, 1) := dk_11 da_65
theorem dX0_weighFrom_24 : decode cX0_weighFrom 24 = .ok (.aload 5, 2) := dk_12 da_65
theorem dX0_weighFrom_26 : decode cX0_weighFrom 26 = .ok (.lload_n 2, 1) := dk_13 da_65
theorem dX0_weighFrom_27 : decode cX0_weighFrom 27 = .ok (.invokevirtual 44, 3) := dk_14 da_65
theorem dX0_weighFrom_30 : decode cX0_weighFrom 30 = .ok (.return_, 1) := dk_15 da_65
theorem dX0_weighFrom_39 : decode cX0_weighFrom 39 = .ok (.astore 6, 2) := by decide +kernel
theorem da_66 : fd_G cX0_weighFrom 31 [(31, .aload_n 0, 1), (32, .getfield 11, 3), (35, .iload_n 1, 1), (36, .iconst 1, 1), (37, .iadd, 1), (38, .aaload, 1), (41, .aload 5, 2), (43, .getfield 48, 3), (46, .iload_n 1, 1), (47, .iaload, 1), (48, .istore 7, 2), (50, .aload 5, 2), (52, .iload 7, 2), (54, .invokevirtual 52, 3), (57, .ifCond .ne 29, 3), (60, .aload 6, 2)] = true := by decide +kernel
theorem dX0_weighFrom_31 : decode cX0_weighFrom 31 = .ok (.aload_n 0, 1) := dk_0 da_66
theorem dX0_weighFrom_32 : decode cX0_weighFrom 32 = .ok (.getfield 11, 3) := dk_1 da_66
theorem dX0_weighFrom_35 : decode cX0_weighFrom 35 = .ok (.iload_n 1, 1) := dk_2 da_66
theorem dX0_weighFrom_36 : decode cX0_weighFrom 36 = .ok (.iconst 1, 1) := dk_3 da_66
theorem dX0_weighFrom_37 : decode cX0_weighFrom 37 = .ok (.iadd, 1) := dk_4 da_66
theorem dX0_weighFrom_38 : decode cX0_weighFrom 38 = .ok (.aaload, 1) := dk_5 da_66
theorem dX0_weighFrom_41 : decode cX0_weighFrom 41 = .ok (.aload 5, 2) := dk_6 da_66
theorem dX0_weighFrom_43 : decode cX0_weighFrom 43 = .ok (.getfield 48, 3) := dk_7 da_66
theorem dX0_weighFrom_46 : decode cX0_weighFrom 46 = .ok (.iload_n 1, 1) := dk_8 da_66
theorem dX0_weighFrom_47 : decode cX0_weighFrom 47 = .ok (.iaload, 1) := dk_9 da_66
theorem dX0_weighFrom_48 : decode cX0_weighFrom 48 = .ok (.istore 7, 2) := dk_10 da_66
theorem dX0_weighFrom_50 : decode cX0_weighFrom 50 = .ok (.aload 5, 2) := dk_11 da_66
theorem dX0_weighFrom_52 : decode cX0_weighFrom 52 = .ok (.iload 7, 2) := dk_12 da_66
theorem dX0_weighFrom_54 : decode cX0_weighFrom 54 = .ok (.invokevirtual 52, 3) := dk_13 da_66
theorem dX0_weighFrom_57 : decode cX0_weighFrom 57 = .ok (.ifCond .ne 29, 3) := dk_14 da_66
theorem dX0_weighFrom_60 : decode cX0_weighFrom 60 = .ok (.aload 6, 2) := dk_15 da_66
theorem da_67 : fd_G cX0_weighFrom 62 [(62, .aload 5, 2), (64, .invokevirtual 56, 3), (67, .aload 6, 2), (69, .iload 7, 2), (71, .invokevirtual 59, 3), (74, .pop, 1), (75, .aload_n 0, 1), (76, .iload_n 1, 1), (77, .iconst 1, 1), (78, .iadd, 1), (79, .lload_n 2, 1), (80, .iload 4, 2), (82, .invokevirtual 36, 3), (85, .return_, 1), (86, .iload 4, 2), (88, .bipush 10, 2)] = true := by decide +kernel
theorem dX0_weighFrom_62 : decode cX0_weighFrom 62 = .ok (.aload 5, 2) := dk_0 da_67
theorem dX0_weighFrom_64 : decode cX0_weighFrom 64 = .ok (.invokevirtual 56, 3) := dk_1 da_67
theorem dX0_weighFrom_67 : decode cX0_weighFrom 67 = .ok (.aload 6, 2) := dk_2 da_67
theorem dX0_weighFrom_69 : decode cX0_weighFrom 69 = .ok (.iload 7, 2) := dk_3 da_67
theorem dX0_weighFrom_71 : decode cX0_weighFrom 71 = .ok (.invokevirtual 59, 3) := dk_4 da_67
theorem dX0_weighFrom_74 : decode cX0_weighFrom 74 = .ok (.pop, 1) := dk_5 da_67
theorem dX0_weighFrom_75 : decode cX0_weighFrom 75 = .ok (.aload_n 0, 1) := dk_6 da_67
theorem dX0_weighFrom_76 : decode cX0_weighFrom 76 = .ok (.iload_n 1, 1) := dk_7 da_67
theorem dX0_weighFrom_77 : decode cX0_weighFrom 77 = .ok (.iconst 1, 1) := dk_8 da_67
theorem dX0_weighFrom_78 : decode cX0_weighFrom 78 = .ok (.iadd, 1) := dk_9 da_67
theorem dX0_weighFrom_79 : decode cX0_weighFrom 79 = .ok (.lload_n 2, 1) := dk_10 da_67
theorem dX0_weighFrom_80 : decode cX0_weighFrom 80 = .ok (.iload 4, 2) := dk_11 da_67
theorem dX0_weighFrom_82 : decode cX0_weighFrom 82 = .ok (.invokevirtual 36, 3) := dk_12 da_67
theorem dX0_weighFrom_85 : decode cX0_weighFrom 85 = .ok (.return_, 1) := dk_13 da_67
theorem dX0_weighFrom_86 : decode cX0_weighFrom 86 = .ok (.iload 4, 2) := dk_14 da_67
theorem dX0_weighFrom_88 : decode cX0_weighFrom 88 = .ok (.bipush 10, 2) := dk_15 da_67
theorem da_68 : fd_G cX0_weighFrom 90 [(90, .if_icmp .ge 35, 3), (93, .aload 6, 2), (95, .aload 5, 2), (97, .invokevirtual 56, 3), (100, .aload 6, 2), (102, .iload 7, 2), (104, .invokevirtual 59, 3), (107, .pop, 1), (108, .aload_n 0, 1), (109, .iload_n 1, 1), (110, .iconst 1, 1), (111, .iadd, 1), (112, .lload_n 2, 1), (113, .bipush 10, 2), (115, .iload 4, 2), (117, .isub, 1)] = true := by decide +kernel
theorem dX0_weighFrom_90 : decode cX0_weighFrom 90 = .ok (.if_icmp .ge 35, 3) := dk_0 da_68
theorem dX0_weighFrom_93 : decode cX0_weighFrom 93 = .ok (.aload 6, 2) := dk_1 da_68
theorem dX0_weighFrom_95 : decode cX0_weighFrom 95 = .ok (.aload 5, 2) := dk_2 da_68
theorem dX0_weighFrom_97 : decode cX0_weighFrom 97 = .ok (.invokevirtual 56, 3) := dk_3 da_68
theorem dX0_weighFrom_100 : decode cX0_weighFrom 100 = .ok (.aload 6, 2) := dk_4 da_68
theorem dX0_weighFrom_102 : decode cX0_weighFrom 102 = .ok (.iload 7, 2) := dk_5 da_68
theorem dX0_weighFrom_104 : decode cX0_weighFrom 104 = .ok (.invokevirtual 59, 3) := dk_6 da_68
theorem dX0_weighFrom_107 : decode cX0_weighFrom 107 = .ok (.pop, 1) := dk_7 da_68
theorem dX0_weighFrom_108 : decode cX0_weighFrom 108 = .ok (.aload_n 0, 1) := dk_8 da_68
theorem dX0_weighFrom_109 : decode cX0_weighFrom 109 = .ok (.iload_n 1, 1) := dk_9 da_68
theorem dX0_weighFrom_110 : decode cX0_weighFrom 110 = .ok (.iconst 1, 1) := dk_10 da_68
theorem dX0_weighFrom_111 : decode cX0_weighFrom 111 = .ok (.iadd, 1) := dk_11 da_68
theorem dX0_weighFrom_112 : decode cX0_weighFrom 112 = .ok (.lload_n 2, 1) := dk_12 da_68
theorem dX0_weighFrom_113 : decode cX0_weighFrom 113 = .ok (.bipush 10, 2) := dk_13 da_68
theorem dX0_weighFrom_115 : decode cX0_weighFrom 115 = .ok (.iload 4, 2) := dk_14 da_68
theorem dX0_weighFrom_117 : decode cX0_weighFrom 117 = .ok (.isub, 1) := dk_15 da_68
theorem dX0_weighFrom_119 : decode cX0_weighFrom 119 = .ok (.lmul, 1) := by decide +kernel
theorem dX0_weighFrom_127 : decode cX0_weighFrom 127 = .ok (.ifCond .le 24, 3) := by decide +kernel
theorem dX0_weighFrom_145 : decode cX0_weighFrom 145 = .ok (.lmul, 1) := by decide +kernel
theorem da_69 : fd_G cX0_weighFrom 118 [(118, .i2l, 1), (120, .iload 4, 2), (122, .invokevirtual 36, 3), (125, .iload 4, 2), (130, .aload 6, 2), (132, .aload 5, 2), (134, .invokevirtual 56, 3), (137, .aload_n 0, 1), (138, .iload_n 1, 1), (139, .iconst 1, 1), (140, .iadd, 1), (141, .lload_n 2, 1), (142, .iload 4, 2), (144, .i2l, 1), (146, .iload 4, 2), (148, .invokevirtual 36, 3)] = true := by decide +kernel
theorem dX0_weighFrom_118 : decode cX0_weighFrom 118 = .ok (.i2l, 1) := dk_0 da_69
theorem dX0_weighFrom_120 : decode cX0_weighFrom 120 = .ok (.iload 4, 2) := dk_1 da_69
theorem dX0_weighFrom_122 : decode cX0_weighFrom 122 = .ok (.invokevirtual 36, 3) := dk_2 da_69
theorem dX0_weighFrom_125 : decode cX0_weighFrom 125 = .ok (.iload 4, 2) := dk_3 da_69
theorem dX0_weighFrom_130 : decode cX0_weighFrom 130 = .ok (.aload 6, 2) := dk_4 da_69
theorem dX0_weighFrom_132 : decode cX0_weighFrom 132 = .ok (.aload 5, 2) := dk_5 da_69
theorem dX0_weighFrom_134 : decode cX0_weighFrom 134 = .ok (.invokevirtual 56, 3) := dk_6 da_69
theorem dX0_weighFrom_137 : decode cX0_weighFrom 137 = .ok (.aload_n 0, 1) := dk_7 da_69
theorem dX0_weighFrom_138 : decode cX0_weighFrom 138 = .ok (.iload_n 1, 1) := dk_8 da_69
theorem dX0_weighFrom_139 : decode cX0_weighFrom 139 = .ok (.iconst 1, 1) := dk_9 da_69
theorem dX0_weighFrom_140 : decode cX0_weighFrom 140 = .ok (.iadd, 1) := dk_10 da_69
theorem dX0_weighFrom_141 : decode cX0_weighFrom 141 = .ok (.lload_n 2, 1) := dk_11 da_69
theorem dX0_weighFrom_142 : decode cX0_weighFrom 142 = .ok (.iload 4, 2) := dk_12 da_69
theorem dX0_weighFrom_144 : decode cX0_weighFrom 144 = .ok (.i2l, 1) := dk_13 da_69
theorem dX0_weighFrom_146 : decode cX0_weighFrom 146 = .ok (.iload 4, 2) := dk_14 da_69
theorem dX0_weighFrom_148 : decode cX0_weighFrom 148 = .ok (.invokevirtual 36, 3) := dk_15 da_69
theorem da_70 : fd_G cX0_weighFrom 151 [(151, .return_, 1)] = true := by decide +kernel
theorem dX0_weighFrom_151 : decode cX0_weighFrom 151 = .ok (.return_, 1) := dk_0 da_70
theorem dX0_addWeight_6 : decode cX0_addWeight 6 = .ok (.ladd, 1) := by decide +kernel
theorem da_71 : fd_G cX0_addWeight 0 [(0, .aload_n 0, 1), (1, .dup, 1), (2, .getfield 32, 3), (5, .lload_n 2, 1), (7, .putfield 32, 3), (10, .iconst 0, 1), (11, .istore 4, 2), (13, .iload 4, 2), (15, .aload_n 1, 1), (16, .getfield 62, 3), (19, .if_icmp .ge 29, 3), (22, .aload_n 1, 1), (23, .iload 4, 2), (25, .invokevirtual 65, 3), (28, .ifCond .ne 14, 3), (31, .aload_n 0, 1)] = true := by decide +kernel
theorem dX0_addWeight_0 : decode cX0_addWeight 0 = .ok (.aload_n 0, 1) := dk_0 da_71
theorem dX0_addWeight_1 : decode cX0_addWeight 1 = .ok (.dup, 1) := dk_1 da_71
theorem dX0_addWeight_2 : decode cX0_addWeight 2 = .ok (.getfield 32, 3) := dk_2 da_71
theorem dX0_addWeight_5 : decode cX0_addWeight 5 = .ok (.lload_n 2, 1) := dk_3 da_71
theorem dX0_addWeight_7 : decode cX0_addWeight 7 = .ok (.putfield 32, 3) := dk_4 da_71
theorem dX0_addWeight_10 : decode cX0_addWeight 10 = .ok (.iconst 0, 1) := dk_5 da_71
theorem dX0_addWeight_11 : decode cX0_addWeight 11 = .ok (.istore 4, 2) := dk_6 da_71
theorem dX0_addWeight_13 : decode cX0_addWeight 13 = .ok (.iload 4, 2) := dk_7 da_71
theorem dX0_addWeight_15 : decode cX0_addWeight 15 = .ok (.aload_n 1, 1) := dk_8 da_71
theorem dX0_addWeight_16 : decode cX0_addWeight 16 = .ok (.getfield 62, 3) := dk_9 da_71
theorem dX0_addWeight_19 : decode cX0_addWeight 19 = .ok (.if_icmp .ge 29, 3) := dk_10 da_71
theorem dX0_addWeight_22 : decode cX0_addWeight 22 = .ok (.aload_n 1, 1) := dk_11 da_71
theorem dX0_addWeight_23 : decode cX0_addWeight 23 = .ok (.iload 4, 2) := dk_12 da_71
theorem dX0_addWeight_25 : decode cX0_addWeight 25 = .ok (.invokevirtual 65, 3) := dk_13 da_71
theorem dX0_addWeight_28 : decode cX0_addWeight 28 = .ok (.ifCond .ne 14, 3) := dk_14 da_71
theorem dX0_addWeight_31 : decode cX0_addWeight 31 = .ok (.aload_n 0, 1) := dk_15 da_71
theorem dX0_addWeight_37 : decode cX0_addWeight 37 = .ok (.dup2, 1) := by decide +kernel
theorem dX0_addWeight_38 : decode cX0_addWeight 38 = .ok (.laload, 1) := by decide +kernel
theorem dX0_addWeight_40 : decode cX0_addWeight 40 = .ok (.ladd, 1) := by decide +kernel
theorem dX0_addWeight_41 : decode cX0_addWeight 41 = .ok (.lastore, 1) := by decide +kernel
theorem da_72 : fd_G cX0_addWeight 32 [(32, .getfield 17, 3), (35, .iload 4, 2), (39, .lload_n 2, 1), (42, .iinc 4 1, 3), (45, .goto (-32), 3), (48, .return_, 1)] = true := by decide +kernel
theorem dX0_addWeight_32 : decode cX0_addWeight 32 = .ok (.getfield 17, 3) := dk_0 da_72
theorem dX0_addWeight_35 : decode cX0_addWeight 35 = .ok (.iload 4, 2) := dk_1 da_72
theorem dX0_addWeight_39 : decode cX0_addWeight 39 = .ok (.lload_n 2, 1) := dk_2 da_72
theorem dX0_addWeight_42 : decode cX0_addWeight 42 = .ok (.iinc 4 1, 3) := dk_3 da_72
theorem dX0_addWeight_45 : decode cX0_addWeight 45 = .ok (.goto (-32), 3) := dk_4 da_72
theorem dX0_addWeight_48 : decode cX0_addWeight 48 = .ok (.return_, 1) := dk_5 da_72
theorem dX2_init_6 : decode cX2_init 6 = .ok (.anewarray 9, 3) := by decide +kernel
theorem dX2_init_14 : decode cX2_init 14 = .ok (.newarray .int, 2) := by decide +kernel
theorem dX2_init_21 : decode cX2_init 21 = .ok (.newarray .int, 2) := by decide +kernel
theorem da_73 : fd_G cX2_init 0 [(0, .aload_n 0, 1), (1, .invokespecial 3, 3), (4, .aload_n 0, 1), (5, .iconst 5, 1), (9, .putfield 11, 3), (12, .aload_n 0, 1), (13, .iconst 4, 1), (16, .putfield 17, 3), (19, .aload_n 0, 1), (20, .iconst 4, 1), (23, .putfield 21, 3), (26, .iconst 0, 1), (27, .istore_n 1, 1), (28, .iload_n 1, 1), (29, .iconst 4, 1), (30, .if_icmp .gt 22, 3)] = true := by decide +kernel
theorem dX2_init_0 : decode cX2_init 0 = .ok (.aload_n 0, 1) := dk_0 da_73
theorem dX2_init_1 : decode cX2_init 1 = .ok (.invokespecial 3, 3) := dk_1 da_73
theorem dX2_init_4 : decode cX2_init 4 = .ok (.aload_n 0, 1) := dk_2 da_73
theorem dX2_init_5 : decode cX2_init 5 = .ok (.iconst 5, 1) := dk_3 da_73
theorem dX2_init_9 : decode cX2_init 9 = .ok (.putfield 11, 3) := dk_4 da_73
theorem dX2_init_12 : decode cX2_init 12 = .ok (.aload_n 0, 1) := dk_5 da_73
theorem dX2_init_13 : decode cX2_init 13 = .ok (.iconst 4, 1) := dk_6 da_73
theorem dX2_init_16 : decode cX2_init 16 = .ok (.putfield 17, 3) := dk_7 da_73
theorem dX2_init_19 : decode cX2_init 19 = .ok (.aload_n 0, 1) := dk_8 da_73
theorem dX2_init_20 : decode cX2_init 20 = .ok (.iconst 4, 1) := dk_9 da_73
theorem dX2_init_23 : decode cX2_init 23 = .ok (.putfield 21, 3) := dk_10 da_73
theorem dX2_init_26 : decode cX2_init 26 = .ok (.iconst 0, 1) := dk_11 da_73
theorem dX2_init_27 : decode cX2_init 27 = .ok (.istore_n 1, 1) := dk_12 da_73
theorem dX2_init_28 : decode cX2_init 28 = .ok (.iload_n 1, 1) := dk_13 da_73
theorem dX2_init_29 : decode cX2_init 29 = .ok (.iconst 4, 1) := dk_14 da_73
theorem dX2_init_30 : decode cX2_init 30 = .ok (.if_icmp .gt 22, 3) := dk_15 da_73
theorem dX2_init_45 : decode cX2_init 45 = .ok (.aastore, 1) := by decide +kernel
theorem da_74 : fd_G cX2_init 33 [(33, .aload_n 0, 1), (34, .getfield 11, 3), (37, .iload_n 1, 1), (38, .new 9, 3), (41, .dup, 1), (42, .invokespecial 24, 3), (46, .iinc 1 1, 3), (49, .goto (-21), 3), (52, .return_, 1)] = true := by decide +kernel
theorem dX2_init_33 : decode cX2_init 33 = .ok (.aload_n 0, 1) := dk_0 da_74
theorem dX2_init_34 : decode cX2_init 34 = .ok (.getfield 11, 3) := dk_1 da_74
theorem dX2_init_37 : decode cX2_init 37 = .ok (.iload_n 1, 1) := dk_2 da_74
theorem dX2_init_38 : decode cX2_init 38 = .ok (.new 9, 3) := dk_3 da_74
theorem dX2_init_41 : decode cX2_init 41 = .ok (.dup, 1) := dk_4 da_74
theorem dX2_init_42 : decode cX2_init 42 = .ok (.invokespecial 24, 3) := dk_5 da_74
theorem dX2_init_46 : decode cX2_init 46 = .ok (.iinc 1 1, 3) := dk_6 da_74
theorem dX2_init_49 : decode cX2_init 49 = .ok (.goto (-21), 3) := dk_7 da_74
theorem dX2_init_52 : decode cX2_init 52 = .ok (.return_, 1) := dk_8 da_74
theorem da_75 : fd_G cX2_foundAt 0 [(0, .iload_n 1, 1), (1, .ifCond .lt 20, 3), (4, .iload_n 1, 1), (5, .aload_n 0, 1), (6, .getfield 25, 3), (9, .if_icmp .ge 12, 3), (12, .aload_n 0, 1), (13, .getfield 21, 3), (16, .iload_n 1, 1), (17, .iaload, 1), (18, .goto 5, 3), (21, .bipush (-4), 2), (23, .ireturn, 1)] = true := by decide +kernel
theorem dX2_foundAt_0 : decode cX2_foundAt 0 = .ok (.iload_n 1, 1) := dk_0 da_75
theorem dX2_foundAt_1 : decode cX2_foundAt 1 = .ok (.ifCond .lt 20, 3) := dk_1 da_75
theorem dX2_foundAt_4 : decode cX2_foundAt 4 = .ok (.iload_n 1, 1) := dk_2 da_75
theorem dX2_foundAt_5 : decode cX2_foundAt 5 = .ok (.aload_n 0, 1) := dk_3 da_75
theorem dX2_foundAt_6 : decode cX2_foundAt 6 = .ok (.getfield 25, 3) := dk_4 da_75
theorem dX2_foundAt_9 : decode cX2_foundAt 9 = .ok (.if_icmp .ge 12, 3) := dk_5 da_75
theorem dX2_foundAt_12 : decode cX2_foundAt 12 = .ok (.aload_n 0, 1) := dk_6 da_75
theorem dX2_foundAt_13 : decode cX2_foundAt 13 = .ok (.getfield 21, 3) := dk_7 da_75
theorem dX2_foundAt_16 : decode cX2_foundAt 16 = .ok (.iload_n 1, 1) := dk_8 da_75
theorem dX2_foundAt_17 : decode cX2_foundAt 17 = .ok (.iaload, 1) := dk_9 da_75
theorem dX2_foundAt_18 : decode cX2_foundAt 18 = .ok (.goto 5, 3) := dk_10 da_75
theorem dX2_foundAt_21 : decode cX2_foundAt 21 = .ok (.bipush (-4), 2) := dk_11 da_75
theorem dX2_foundAt_23 : decode cX2_foundAt 23 = .ok (.ireturn, 1) := dk_12 da_75
theorem da_76 : fd_G cX2_findMostTears 0 [(0, .aload_n 0, 1), (1, .getfield 11, 3), (4, .iconst 0, 1), (5, .aaload, 1), (6, .aload_n 1, 1), (7, .invokevirtual 29, 3), (10, .aload_n 0, 1), (11, .iconst (-1), 1), (12, .putfield 33, 3), (15, .aload_n 0, 1), (16, .iconst (-1), 1), (17, .putfield 36, 3), (20, .aload_n 0, 1), (21, .iconst 0, 1), (22, .iload_n 2, 1), (23, .invokevirtual 39, 3)] = true := by decide +kernel
theorem dX2_findMostTears_0 : decode cX2_findMostTears 0 = .ok (.aload_n 0, 1) := dk_0 da_76
theorem dX2_findMostTears_1 : decode cX2_findMostTears 1 = .ok (.getfield 11, 3) := dk_1 da_76
theorem dX2_findMostTears_4 : decode cX2_findMostTears 4 = .ok (.iconst 0, 1) := dk_2 da_76
theorem dX2_findMostTears_5 : decode cX2_findMostTears 5 = .ok (.aaload, 1) := dk_3 da_76
theorem dX2_findMostTears_6 : decode cX2_findMostTears 6 = .ok (.aload_n 1, 1) := dk_4 da_76
theorem dX2_findMostTears_7 : decode cX2_findMostTears 7 = .ok (.invokevirtual 29, 3) := dk_5 da_76
theorem dX2_findMostTears_10 : decode cX2_findMostTears 10 = .ok (.aload_n 0, 1) := dk_6 da_76
theorem dX2_findMostTears_11 : decode cX2_findMostTears 11 = .ok (.iconst (-1), 1) := dk_7 da_76
theorem dX2_findMostTears_12 : decode cX2_findMostTears 12 = .ok (.putfield 33, 3) := dk_8 da_76
theorem dX2_findMostTears_15 : decode cX2_findMostTears 15 = .ok (.aload_n 0, 1) := dk_9 da_76
theorem dX2_findMostTears_16 : decode cX2_findMostTears 16 = .ok (.iconst (-1), 1) := dk_10 da_76
theorem dX2_findMostTears_17 : decode cX2_findMostTears 17 = .ok (.putfield 36, 3) := dk_11 da_76
theorem dX2_findMostTears_20 : decode cX2_findMostTears 20 = .ok (.aload_n 0, 1) := dk_12 da_76
theorem dX2_findMostTears_21 : decode cX2_findMostTears 21 = .ok (.iconst 0, 1) := dk_13 da_76
theorem dX2_findMostTears_22 : decode cX2_findMostTears 22 = .ok (.iload_n 2, 1) := dk_14 da_76
theorem dX2_findMostTears_23 : decode cX2_findMostTears 23 = .ok (.invokevirtual 39, 3) := dk_15 da_76
theorem da_77 : fd_G cX2_findMostTears 26 [(26, .return_, 1)] = true := by decide +kernel
theorem dX2_findMostTears_26 : decode cX2_findMostTears 26 = .ok (.return_, 1) := dk_0 da_77
theorem da_78 : fd_G cX2_tryRows 0 [(0, .iload_n 1, 1), (1, .iload_n 2, 1), (2, .if_icmp .ge 8, 3), (5, .iload_n 1, 1), (6, .iconst 4, 1), (7, .if_icmp .lt 69, 3), (10, .aload_n 0, 1), (11, .getfield 11, 3), (14, .iload_n 1, 1), (15, .aaload, 1), (16, .getfield 43, 3), (19, .invokestatic 46, 3), (22, .istore_n 3, 1), (23, .aload_n 0, 1), (24, .getfield 11, 3), (27, .iload_n 1, 1)] = true := by decide +kernel
theorem dX2_tryRows_0 : decode cX2_tryRows 0 = .ok (.iload_n 1, 1) := dk_0 da_78
theorem dX2_tryRows_1 : decode cX2_tryRows 1 = .ok (.iload_n 2, 1) := dk_1 da_78
theorem dX2_tryRows_2 : decode cX2_tryRows 2 = .ok (.if_icmp .ge 8, 3) := dk_2 da_78
theorem dX2_tryRows_5 : decode cX2_tryRows 5 = .ok (.iload_n 1, 1) := dk_3 da_78
theorem dX2_tryRows_6 : decode cX2_tryRows 6 = .ok (.iconst 4, 1) := dk_4 da_78
theorem dX2_tryRows_7 : decode cX2_tryRows 7 = .ok (.if_icmp .lt 69, 3) := dk_5 da_78
theorem dX2_tryRows_10 : decode cX2_tryRows 10 = .ok (.aload_n 0, 1) := dk_6 da_78
theorem dX2_tryRows_11 : decode cX2_tryRows 11 = .ok (.getfield 11, 3) := dk_7 da_78
theorem dX2_tryRows_14 : decode cX2_tryRows 14 = .ok (.iload_n 1, 1) := dk_8 da_78
theorem dX2_tryRows_15 : decode cX2_tryRows 15 = .ok (.aaload, 1) := dk_9 da_78
theorem dX2_tryRows_16 : decode cX2_tryRows 16 = .ok (.getfield 43, 3) := dk_10 da_78
theorem dX2_tryRows_19 : decode cX2_tryRows 19 = .ok (.invokestatic 46, 3) := dk_11 da_78
theorem dX2_tryRows_22 : decode cX2_tryRows 22 = .ok (.istore_n 3, 1) := dk_12 da_78
theorem dX2_tryRows_23 : decode cX2_tryRows 23 = .ok (.aload_n 0, 1) := dk_13 da_78
theorem dX2_tryRows_24 : decode cX2_tryRows 24 = .ok (.getfield 11, 3) := dk_14 da_78
theorem dX2_tryRows_27 : decode cX2_tryRows 27 = .ok (.iload_n 1, 1) := dk_15 da_78
theorem da_79 : fd_G cX2_tryRows 28 [(28, .aaload, 1), (29, .getfield 52, 3), (32, .istore 4, 2), (34, .iload_n 3, 1), (35, .aload_n 0, 1), (36, .getfield 33, 3), (39, .if_icmp .gt 20, 3), (42, .iload_n 3, 1), (43, .aload_n 0, 1), (44, .getfield 33, 3), (47, .if_icmp .ne 28, 3), (50, .iload 4, 2), (52, .aload_n 0, 1), (53, .getfield 36, 3), (56, .if_icmp .le 19, 3), (59, .aload_n 0, 1)] = true := by decide +kernel
theorem dX2_tryRows_28 : decode cX2_tryRows 28 = .ok (.aaload, 1) := dk_0 da_79
theorem dX2_tryRows_29 : decode cX2_tryRows 29 = .ok (.getfield 52, 3) := dk_1 da_79
theorem dX2_tryRows_32 : decode cX2_tryRows 32 = .ok (.istore 4, 2) := dk_2 da_79
theorem dX2_tryRows_34 : decode cX2_tryRows 34 = .ok (.iload_n 3, 1) := dk_3 da_79
theorem dX2_tryRows_35 : decode cX2_tryRows 35 = .ok (.aload_n 0, 1) := dk_4 da_79
theorem dX2_tryRows_36 : decode cX2_tryRows 36 = .ok (.getfield 33, 3) := dk_5 da_79
theorem dX2_tryRows_39 : decode cX2_tryRows 39 = .ok (.if_icmp .gt 20, 3) := dk_6 da_79
theorem dX2_tryRows_42 : decode cX2_tryRows 42 = .ok (.iload_n 3, 1) := dk_7 da_79
theorem dX2_tryRows_43 : decode cX2_tryRows 43 = .ok (.aload_n 0, 1) := dk_8 da_79
theorem dX2_tryRows_44 : decode cX2_tryRows 44 = .ok (.getfield 33, 3) := dk_9 da_79
theorem dX2_tryRows_47 : decode cX2_tryRows 47 = .ok (.if_icmp .ne 28, 3) := dk_10 da_79
theorem dX2_tryRows_50 : decode cX2_tryRows 50 = .ok (.iload 4, 2) := dk_11 da_79
theorem dX2_tryRows_52 : decode cX2_tryRows 52 = .ok (.aload_n 0, 1) := dk_12 da_79
theorem dX2_tryRows_53 : decode cX2_tryRows 53 = .ok (.getfield 36, 3) := dk_13 da_79
theorem dX2_tryRows_56 : decode cX2_tryRows 56 = .ok (.if_icmp .le 19, 3) := dk_14 da_79
theorem dX2_tryRows_59 : decode cX2_tryRows 59 = .ok (.aload_n 0, 1) := dk_15 da_79
theorem da_80 : fd_G cX2_tryRows 60 [(60, .iload_n 3, 1), (61, .putfield 33, 3), (64, .aload_n 0, 1), (65, .iload 4, 2), (67, .putfield 36, 3), (70, .aload_n 0, 1), (71, .iload_n 1, 1), (72, .invokevirtual 55, 3), (75, .return_, 1), (76, .aload_n 0, 1), (77, .getfield 11, 3), (80, .iconst 0, 1), (81, .aaload, 1), (82, .getfield 59, 3), (85, .istore_n 3, 1), (86, .iconst 0, 1)] = true := by decide +kernel
theorem dX2_tryRows_60 : decode cX2_tryRows 60 = .ok (.iload_n 3, 1) := dk_0 da_80
theorem dX2_tryRows_61 : decode cX2_tryRows 61 = .ok (.putfield 33, 3) := dk_1 da_80
theorem dX2_tryRows_64 : decode cX2_tryRows 64 = .ok (.aload_n 0, 1) := dk_2 da_80
theorem dX2_tryRows_65 : decode cX2_tryRows 65 = .ok (.iload 4, 2) := dk_3 da_80
theorem dX2_tryRows_67 : decode cX2_tryRows 67 = .ok (.putfield 36, 3) := dk_4 da_80
theorem dX2_tryRows_70 : decode cX2_tryRows 70 = .ok (.aload_n 0, 1) := dk_5 da_80
theorem dX2_tryRows_71 : decode cX2_tryRows 71 = .ok (.iload_n 1, 1) := dk_6 da_80
theorem dX2_tryRows_72 : decode cX2_tryRows 72 = .ok (.invokevirtual 55, 3) := dk_7 da_80
theorem dX2_tryRows_75 : decode cX2_tryRows 75 = .ok (.return_, 1) := dk_8 da_80
theorem dX2_tryRows_76 : decode cX2_tryRows 76 = .ok (.aload_n 0, 1) := dk_9 da_80
theorem dX2_tryRows_77 : decode cX2_tryRows 77 = .ok (.getfield 11, 3) := dk_10 da_80
theorem dX2_tryRows_80 : decode cX2_tryRows 80 = .ok (.iconst 0, 1) := dk_11 da_80
theorem dX2_tryRows_81 : decode cX2_tryRows 81 = .ok (.aaload, 1) := dk_12 da_80
theorem dX2_tryRows_82 : decode cX2_tryRows 82 = .ok (.getfield 59, 3) := dk_13 da_80
theorem dX2_tryRows_85 : decode cX2_tryRows 85 = .ok (.istore_n 3, 1) := dk_14 da_80
theorem dX2_tryRows_86 : decode cX2_tryRows 86 = .ok (.iconst 0, 1) := dk_15 da_80
theorem da_81 : fd_G cX2_tryRows 87 [(87, .istore 4, 2), (89, .iload 4, 2), (91, .iload_n 3, 1), (92, .if_icmp .gt 70, 3), (95, .aload_n 0, 1), (96, .getfield 17, 3), (99, .iload_n 1, 1), (100, .iload 4, 2), (102, .iload_n 3, 1), (103, .if_icmp .ge 8, 3), (106, .iload 4, 2), (108, .goto 4, 3), (111, .iconst 5, 1), (112, .iastore, 1), (113, .aload_n 0, 1), (114, .getfield 11, 3)] = true := by decide +kernel
theorem dX2_tryRows_87 : decode cX2_tryRows 87 = .ok (.istore 4, 2) := dk_0 da_81
theorem dX2_tryRows_89 : decode cX2_tryRows 89 = .ok (.iload 4, 2) := dk_1 da_81
theorem dX2_tryRows_91 : decode cX2_tryRows 91 = .ok (.iload_n 3, 1) := dk_2 da_81
theorem dX2_tryRows_92 : decode cX2_tryRows 92 = .ok (.if_icmp .gt 70, 3) := dk_3 da_81
theorem dX2_tryRows_95 : decode cX2_tryRows 95 = .ok (.aload_n 0, 1) := dk_4 da_81
theorem dX2_tryRows_96 : decode cX2_tryRows 96 = .ok (.getfield 17, 3) := dk_5 da_81
theorem dX2_tryRows_99 : decode cX2_tryRows 99 = .ok (.iload_n 1, 1) := dk_6 da_81
theorem dX2_tryRows_100 : decode cX2_tryRows 100 = .ok (.iload 4, 2) := dk_7 da_81
theorem dX2_tryRows_102 : decode cX2_tryRows 102 = .ok (.iload_n 3, 1) := dk_8 da_81
theorem dX2_tryRows_103 : decode cX2_tryRows 103 = .ok (.if_icmp .ge 8, 3) := dk_9 da_81
theorem dX2_tryRows_106 : decode cX2_tryRows 106 = .ok (.iload 4, 2) := dk_10 da_81
theorem dX2_tryRows_108 : decode cX2_tryRows 108 = .ok (.goto 4, 3) := dk_11 da_81
theorem dX2_tryRows_111 : decode cX2_tryRows 111 = .ok (.iconst 5, 1) := dk_12 da_81
theorem dX2_tryRows_112 : decode cX2_tryRows 112 = .ok (.iastore, 1) := dk_13 da_81
theorem dX2_tryRows_113 : decode cX2_tryRows 113 = .ok (.aload_n 0, 1) := dk_14 da_81
theorem dX2_tryRows_114 : decode cX2_tryRows 114 = .ok (.getfield 11, 3) := dk_15 da_81
theorem da_82 : fd_G cX2_tryRows 117 [(117, .iload_n 1, 1), (118, .iconst 1, 1), (119, .iadd, 1), (120, .aaload, 1), (121, .aload_n 0, 1), (122, .getfield 11, 3), (125, .iload_n 1, 1), (126, .aaload, 1), (127, .invokevirtual 62, 3), (130, .aload_n 0, 1), (131, .getfield 11, 3), (134, .iload_n 1, 1), (135, .iconst 1, 1), (136, .iadd, 1), (137, .aaload, 1), (138, .aload_n 0, 1)] = true := by decide +kernel
theorem dX2_tryRows_117 : decode cX2_tryRows 117 = .ok (.iload_n 1, 1) := dk_0 da_82
theorem dX2_tryRows_118 : decode cX2_tryRows 118 = .ok (.iconst 1, 1) := dk_1 da_82
theorem dX2_tryRows_119 : decode cX2_tryRows 119 = .ok (.iadd, 1) := dk_2 da_82
theorem dX2_tryRows_120 : decode cX2_tryRows 120 = .ok (.aaload, 1) := dk_3 da_82
theorem dX2_tryRows_121 : decode cX2_tryRows 121 = .ok (.aload_n 0, 1) := dk_4 da_82
theorem dX2_tryRows_122 : decode cX2_tryRows 122 = .ok (.getfield 11, 3) := dk_5 da_82
theorem dX2_tryRows_125 : decode cX2_tryRows 125 = .ok (.iload_n 1, 1) := dk_6 da_82
theorem dX2_tryRows_126 : decode cX2_tryRows 126 = .ok (.aaload, 1) := dk_7 da_82
theorem dX2_tryRows_127 : decode cX2_tryRows 127 = .ok (.invokevirtual 62, 3) := dk_8 da_82
theorem dX2_tryRows_130 : decode cX2_tryRows 130 = .ok (.aload_n 0, 1) := dk_9 da_82
theorem dX2_tryRows_131 : decode cX2_tryRows 131 = .ok (.getfield 11, 3) := dk_10 da_82
theorem dX2_tryRows_134 : decode cX2_tryRows 134 = .ok (.iload_n 1, 1) := dk_11 da_82
theorem dX2_tryRows_135 : decode cX2_tryRows 135 = .ok (.iconst 1, 1) := dk_12 da_82
theorem dX2_tryRows_136 : decode cX2_tryRows 136 = .ok (.iadd, 1) := dk_13 da_82
theorem dX2_tryRows_137 : decode cX2_tryRows 137 = .ok (.aaload, 1) := dk_14 da_82
theorem dX2_tryRows_138 : decode cX2_tryRows 138 = .ok (.aload_n 0, 1) := dk_15 da_82
theorem da_83 : fd_G cX2_tryRows 139 [(139, .getfield 17, 3), (142, .iload_n 1, 1), (143, .iaload, 1), (144, .invokevirtual 65, 3), (147, .pop, 1), (148, .aload_n 0, 1), (149, .iload_n 1, 1), (150, .iconst 1, 1), (151, .iadd, 1), (152, .iload_n 2, 1), (153, .invokevirtual 39, 3), (156, .iinc 4 1, 3), (159, .goto (-70), 3), (162, .return_, 1)] = true := by decide +kernel
theorem dX2_tryRows_139 : decode cX2_tryRows 139 = .ok (.getfield 17, 3) := dk_0 da_83
theorem dX2_tryRows_142 : decode cX2_tryRows 142 = .ok (.iload_n 1, 1) := dk_1 da_83
theorem dX2_tryRows_143 : decode cX2_tryRows 143 = .ok (.iaload, 1) := dk_2 da_83
theorem dX2_tryRows_144 : decode cX2_tryRows 144 = .ok (.invokevirtual 65, 3) := dk_3 da_83
theorem dX2_tryRows_147 : decode cX2_tryRows 147 = .ok (.pop, 1) := dk_4 da_83
theorem dX2_tryRows_148 : decode cX2_tryRows 148 = .ok (.aload_n 0, 1) := dk_5 da_83
theorem dX2_tryRows_149 : decode cX2_tryRows 149 = .ok (.iload_n 1, 1) := dk_6 da_83
theorem dX2_tryRows_150 : decode cX2_tryRows 150 = .ok (.iconst 1, 1) := dk_7 da_83
theorem dX2_tryRows_151 : decode cX2_tryRows 151 = .ok (.iadd, 1) := dk_8 da_83
theorem dX2_tryRows_152 : decode cX2_tryRows 152 = .ok (.iload_n 2, 1) := dk_9 da_83
theorem dX2_tryRows_153 : decode cX2_tryRows 153 = .ok (.invokevirtual 39, 3) := dk_10 da_83
theorem dX2_tryRows_156 : decode cX2_tryRows 156 = .ok (.iinc 4 1, 3) := dk_11 da_83
theorem dX2_tryRows_159 : decode cX2_tryRows 159 = .ok (.goto (-70), 3) := dk_12 da_83
theorem dX2_tryRows_162 : decode cX2_tryRows 162 = .ok (.return_, 1) := dk_13 da_83
theorem da_84 : fd_G cX2_findWayHome 0 [(0, .aload_n 0, 1), (1, .getfield 11, 3), (4, .iconst 0, 1), (5, .aaload, 1), (6, .aload_n 1, 1), (7, .invokevirtual 29, 3), (10, .iconst 0, 1), (11, .istore_n 3, 1), (12, .iload_n 3, 1), (13, .iconst 3, 1), (14, .if_icmp .gt 21, 3), (17, .aload_n 0, 1), (18, .iconst 0, 1), (19, .iload_n 3, 1), (20, .iload_n 2, 1), (21, .invokevirtual 69, 3)] = true := by decide +kernel
theorem dX2_findWayHome_0 : decode cX2_findWayHome 0 = .ok (.aload_n 0, 1) := dk_0 da_84
theorem dX2_findWayHome_1 : decode cX2_findWayHome 1 = .ok (.getfield 11, 3) := dk_1 da_84
theorem dX2_findWayHome_4 : decode cX2_findWayHome 4 = .ok (.iconst 0, 1) := dk_2 da_84
theorem dX2_findWayHome_5 : decode cX2_findWayHome 5 = .ok (.aaload, 1) := dk_3 da_84
theorem dX2_findWayHome_6 : decode cX2_findWayHome 6 = .ok (.aload_n 1, 1) := dk_4 da_84
theorem dX2_findWayHome_7 : decode cX2_findWayHome 7 = .ok (.invokevirtual 29, 3) := dk_5 da_84
theorem dX2_findWayHome_10 : decode cX2_findWayHome 10 = .ok (.iconst 0, 1) := dk_6 da_84
theorem dX2_findWayHome_11 : decode cX2_findWayHome 11 = .ok (.istore_n 3, 1) := dk_7 da_84
theorem dX2_findWayHome_12 : decode cX2_findWayHome 12 = .ok (.iload_n 3, 1) := dk_8 da_84
theorem dX2_findWayHome_13 : decode cX2_findWayHome 13 = .ok (.iconst 3, 1) := dk_9 da_84
theorem dX2_findWayHome_14 : decode cX2_findWayHome 14 = .ok (.if_icmp .gt 21, 3) := dk_10 da_84
theorem dX2_findWayHome_17 : decode cX2_findWayHome 17 = .ok (.aload_n 0, 1) := dk_11 da_84
theorem dX2_findWayHome_18 : decode cX2_findWayHome 18 = .ok (.iconst 0, 1) := dk_12 da_84
theorem dX2_findWayHome_19 : decode cX2_findWayHome 19 = .ok (.iload_n 3, 1) := dk_13 da_84
theorem dX2_findWayHome_20 : decode cX2_findWayHome 20 = .ok (.iload_n 2, 1) := dk_14 da_84
theorem dX2_findWayHome_21 : decode cX2_findWayHome 21 = .ok (.invokevirtual 69, 3) := dk_15 da_84
theorem da_85 : fd_G cX2_findWayHome 24 [(24, .ifCond .eq 5, 3), (27, .iconst 1, 1), (28, .ireturn, 1), (29, .iinc 3 1, 3), (32, .goto (-20), 3), (35, .iconst 0, 1), (36, .ireturn, 1)] = true := by decide +kernel
theorem dX2_findWayHome_24 : decode cX2_findWayHome 24 = .ok (.ifCond .eq 5, 3) := dk_0 da_85
theorem dX2_findWayHome_27 : decode cX2_findWayHome 27 = .ok (.iconst 1, 1) := dk_1 da_85
theorem dX2_findWayHome_28 : decode cX2_findWayHome 28 = .ok (.ireturn, 1) := dk_2 da_85
theorem dX2_findWayHome_29 : decode cX2_findWayHome 29 = .ok (.iinc 3 1, 3) := dk_3 da_85
theorem dX2_findWayHome_32 : decode cX2_findWayHome 32 = .ok (.goto (-20), 3) := dk_4 da_85
theorem dX2_findWayHome_35 : decode cX2_findWayHome 35 = .ok (.iconst 0, 1) := dk_5 da_85
theorem dX2_findWayHome_36 : decode cX2_findWayHome 36 = .ok (.ireturn, 1) := dk_6 da_85
theorem da_86 : fd_G cX2_isHome 0 [(0, .iload_n 1, 1), (1, .iload_n 2, 1), (2, .if_icmp .ge 8, 3), (5, .iload_n 1, 1), (6, .iconst 3, 1), (7, .if_icmp .lt 58, 3), (10, .aload_n 0, 1), (11, .getfield 11, 3), (14, .iload_n 1, 1), (15, .iconst 1, 1), (16, .iadd, 1), (17, .aaload, 1), (18, .aload_n 0, 1), (19, .getfield 11, 3), (22, .iload_n 1, 1), (23, .aaload, 1)] = true := by decide +kernel
theorem dX2_isHome_0 : decode cX2_isHome 0 = .ok (.iload_n 1, 1) := dk_0 da_86
theorem dX2_isHome_1 : decode cX2_isHome 1 = .ok (.iload_n 2, 1) := dk_1 da_86
theorem dX2_isHome_2 : decode cX2_isHome 2 = .ok (.if_icmp .ge 8, 3) := dk_2 da_86
theorem dX2_isHome_5 : decode cX2_isHome 5 = .ok (.iload_n 1, 1) := dk_3 da_86
theorem dX2_isHome_6 : decode cX2_isHome 6 = .ok (.iconst 3, 1) := dk_4 da_86
theorem dX2_isHome_7 : decode cX2_isHome 7 = .ok (.if_icmp .lt 58, 3) := dk_5 da_86
theorem dX2_isHome_10 : decode cX2_isHome 10 = .ok (.aload_n 0, 1) := dk_6 da_86
theorem dX2_isHome_11 : decode cX2_isHome 11 = .ok (.getfield 11, 3) := dk_7 da_86
theorem dX2_isHome_14 : decode cX2_isHome 14 = .ok (.iload_n 1, 1) := dk_8 da_86
theorem dX2_isHome_15 : decode cX2_isHome 15 = .ok (.iconst 1, 1) := dk_9 da_86
theorem dX2_isHome_16 : decode cX2_isHome 16 = .ok (.iadd, 1) := dk_10 da_86
theorem dX2_isHome_17 : decode cX2_isHome 17 = .ok (.aaload, 1) := dk_11 da_86
theorem dX2_isHome_18 : decode cX2_isHome 18 = .ok (.aload_n 0, 1) := dk_12 da_86
theorem dX2_isHome_19 : decode cX2_isHome 19 = .ok (.getfield 11, 3) := dk_13 da_86
theorem dX2_isHome_22 : decode cX2_isHome 22 = .ok (.iload_n 1, 1) := dk_14 da_86
theorem dX2_isHome_23 : decode cX2_isHome 23 = .ok (.aaload, 1) := dk_15 da_86
theorem da_87 : fd_G cX2_isHome 24 [(24, .invokevirtual 62, 3), (27, .aload_n 0, 1), (28, .getfield 11, 3), (31, .iload_n 1, 1), (32, .iconst 1, 1), (33, .iadd, 1), (34, .aaload, 1), (35, .invokevirtual 73, 3), (38, .pop, 1), (39, .aload_n 0, 1), (40, .iload_n 1, 1), (41, .invokevirtual 55, 3), (44, .aload_n 0, 1), (45, .getfield 11, 3), (48, .iload_n 1, 1), (49, .iconst 1, 1)] = true := by decide +kernel
theorem dX2_isHome_24 : decode cX2_isHome 24 = .ok (.invokevirtual 62, 3) := dk_0 da_87
theorem dX2_isHome_27 : decode cX2_isHome 27 = .ok (.aload_n 0, 1) := dk_1 da_87
theorem dX2_isHome_28 : decode cX2_isHome 28 = .ok (.getfield 11, 3) := dk_2 da_87
theorem dX2_isHome_31 : decode cX2_isHome 31 = .ok (.iload_n 1, 1) := dk_3 da_87
theorem dX2_isHome_32 : decode cX2_isHome 32 = .ok (.iconst 1, 1) := dk_4 da_87
theorem dX2_isHome_33 : decode cX2_isHome 33 = .ok (.iadd, 1) := dk_5 da_87
theorem dX2_isHome_34 : decode cX2_isHome 34 = .ok (.aaload, 1) := dk_6 da_87
theorem dX2_isHome_35 : decode cX2_isHome 35 = .ok (.invokevirtual 73, 3) := dk_7 da_87
theorem dX2_isHome_38 : decode cX2_isHome 38 = .ok (.pop, 1) := dk_8 da_87
theorem dX2_isHome_39 : decode cX2_isHome 39 = .ok (.aload_n 0, 1) := dk_9 da_87
theorem dX2_isHome_40 : decode cX2_isHome 40 = .ok (.iload_n 1, 1) := dk_10 da_87
theorem dX2_isHome_41 : decode cX2_isHome 41 = .ok (.invokevirtual 55, 3) := dk_11 da_87
theorem dX2_isHome_44 : decode cX2_isHome 44 = .ok (.aload_n 0, 1) := dk_12 da_87
theorem dX2_isHome_45 : decode cX2_isHome 45 = .ok (.getfield 11, 3) := dk_13 da_87
theorem dX2_isHome_48 : decode cX2_isHome 48 = .ok (.iload_n 1, 1) := dk_14 da_87
theorem dX2_isHome_49 : decode cX2_isHome 49 = .ok (.iconst 1, 1) := dk_15 da_87
theorem da_88 : fd_G cX2_isHome 50 [(50, .iadd, 1), (51, .aaload, 1), (52, .iload_n 3, 1), (53, .invokevirtual 77, 3), (56, .ifCond .ne 7, 3), (59, .iconst 1, 1), (60, .goto 4, 3), (63, .iconst 0, 1), (64, .ireturn, 1), (65, .aload_n 0, 1), (66, .getfield 11, 3), (69, .iconst 0, 1), (70, .aaload, 1), (71, .getfield 59, 3), (74, .istore 4, 2), (76, .iconst 0, 1)] = true := by decide +kernel
theorem dX2_isHome_50 : decode cX2_isHome 50 = .ok (.iadd, 1) := dk_0 da_88
theorem dX2_isHome_51 : decode cX2_isHome 51 = .ok (.aaload, 1) := dk_1 da_88
theorem dX2_isHome_52 : decode cX2_isHome 52 = .ok (.iload_n 3, 1) := dk_2 da_88
theorem dX2_isHome_53 : decode cX2_isHome 53 = .ok (.invokevirtual 77, 3) := dk_3 da_88
theorem dX2_isHome_56 : decode cX2_isHome 56 = .ok (.ifCond .ne 7, 3) := dk_4 da_88
theorem dX2_isHome_59 : decode cX2_isHome 59 = .ok (.iconst 1, 1) := dk_5 da_88
theorem dX2_isHome_60 : decode cX2_isHome 60 = .ok (.goto 4, 3) := dk_6 da_88
theorem dX2_isHome_63 : decode cX2_isHome 63 = .ok (.iconst 0, 1) := dk_7 da_88
theorem dX2_isHome_64 : decode cX2_isHome 64 = .ok (.ireturn, 1) := dk_8 da_88
theorem dX2_isHome_65 : decode cX2_isHome 65 = .ok (.aload_n 0, 1) := dk_9 da_88
theorem dX2_isHome_66 : decode cX2_isHome 66 = .ok (.getfield 11, 3) := dk_10 da_88
theorem dX2_isHome_69 : decode cX2_isHome 69 = .ok (.iconst 0, 1) := dk_11 da_88
theorem dX2_isHome_70 : decode cX2_isHome 70 = .ok (.aaload, 1) := dk_12 da_88
theorem dX2_isHome_71 : decode cX2_isHome 71 = .ok (.getfield 59, 3) := dk_13 da_88
theorem dX2_isHome_74 : decode cX2_isHome 74 = .ok (.istore 4, 2) := dk_14 da_88
theorem dX2_isHome_76 : decode cX2_isHome 76 = .ok (.iconst 0, 1) := dk_15 da_88
theorem da_89 : fd_G cX2_isHome 77 [(77, .istore 5, 2), (79, .iload 5, 2), (81, .iload 4, 2), (83, .if_icmp .ge 62, 3), (86, .aload_n 0, 1), (87, .getfield 17, 3), (90, .iload_n 1, 1), (91, .iload 5, 2), (93, .iastore, 1), (94, .aload_n 0, 1), (95, .getfield 11, 3), (98, .iload_n 1, 1), (99, .iconst 1, 1), (100, .iadd, 1), (101, .aaload, 1), (102, .aload_n 0, 1)] = true := by decide +kernel
theorem dX2_isHome_77 : decode cX2_isHome 77 = .ok (.istore 5, 2) := dk_0 da_89
theorem dX2_isHome_79 : decode cX2_isHome 79 = .ok (.iload 5, 2) := dk_1 da_89
theorem dX2_isHome_81 : decode cX2_isHome 81 = .ok (.iload 4, 2) := dk_2 da_89
theorem dX2_isHome_83 : decode cX2_isHome 83 = .ok (.if_icmp .ge 62, 3) := dk_3 da_89
theorem dX2_isHome_86 : decode cX2_isHome 86 = .ok (.aload_n 0, 1) := dk_4 da_89
theorem dX2_isHome_87 : decode cX2_isHome 87 = .ok (.getfield 17, 3) := dk_5 da_89
theorem dX2_isHome_90 : decode cX2_isHome 90 = .ok (.iload_n 1, 1) := dk_6 da_89
theorem dX2_isHome_91 : decode cX2_isHome 91 = .ok (.iload 5, 2) := dk_7 da_89
theorem dX2_isHome_93 : decode cX2_isHome 93 = .ok (.iastore, 1) := dk_8 da_89
theorem dX2_isHome_94 : decode cX2_isHome 94 = .ok (.aload_n 0, 1) := dk_9 da_89
theorem dX2_isHome_95 : decode cX2_isHome 95 = .ok (.getfield 11, 3) := dk_10 da_89
theorem dX2_isHome_98 : decode cX2_isHome 98 = .ok (.iload_n 1, 1) := dk_11 da_89
theorem dX2_isHome_99 : decode cX2_isHome 99 = .ok (.iconst 1, 1) := dk_12 da_89
theorem dX2_isHome_100 : decode cX2_isHome 100 = .ok (.iadd, 1) := dk_13 da_89
theorem dX2_isHome_101 : decode cX2_isHome 101 = .ok (.aaload, 1) := dk_14 da_89
theorem dX2_isHome_102 : decode cX2_isHome 102 = .ok (.aload_n 0, 1) := dk_15 da_89
theorem da_90 : fd_G cX2_isHome 103 [(103, .getfield 11, 3), (106, .iload_n 1, 1), (107, .aaload, 1), (108, .invokevirtual 62, 3), (111, .aload_n 0, 1), (112, .getfield 11, 3), (115, .iload_n 1, 1), (116, .iconst 1, 1), (117, .iadd, 1), (118, .aaload, 1), (119, .iload 5, 2), (121, .invokevirtual 65, 3), (124, .pop, 1), (125, .aload_n 0, 1), (126, .iload_n 1, 1), (127, .iconst 1, 1)] = true := by decide +kernel
theorem dX2_isHome_103 : decode cX2_isHome 103 = .ok (.getfield 11, 3) := dk_0 da_90
theorem dX2_isHome_106 : decode cX2_isHome 106 = .ok (.iload_n 1, 1) := dk_1 da_90
theorem dX2_isHome_107 : decode cX2_isHome 107 = .ok (.aaload, 1) := dk_2 da_90
theorem dX2_isHome_108 : decode cX2_isHome 108 = .ok (.invokevirtual 62, 3) := dk_3 da_90
theorem dX2_isHome_111 : decode cX2_isHome 111 = .ok (.aload_n 0, 1) := dk_4 da_90
theorem dX2_isHome_112 : decode cX2_isHome 112 = .ok (.getfield 11, 3) := dk_5 da_90
theorem dX2_isHome_115 : decode cX2_isHome 115 = .ok (.iload_n 1, 1) := dk_6 da_90
theorem dX2_isHome_116 : decode cX2_isHome 116 = .ok (.iconst 1, 1) := dk_7 da_90
theorem dX2_isHome_117 : decode cX2_isHome 117 = .ok (.iadd, 1) := dk_8 da_90
theorem dX2_isHome_118 : decode cX2_isHome 118 = .ok (.aaload, 1) := dk_9 da_90
theorem dX2_isHome_119 : decode cX2_isHome 119 = .ok (.iload 5, 2) := dk_10 da_90
theorem dX2_isHome_121 : decode cX2_isHome 121 = .ok (.invokevirtual 65, 3) := dk_11 da_90
theorem dX2_isHome_124 : decode cX2_isHome 124 = .ok (.pop, 1) := dk_12 da_90
theorem dX2_isHome_125 : decode cX2_isHome 125 = .ok (.aload_n 0, 1) := dk_13 da_90
theorem dX2_isHome_126 : decode cX2_isHome 126 = .ok (.iload_n 1, 1) := dk_14 da_90
theorem dX2_isHome_127 : decode cX2_isHome 127 = .ok (.iconst 1, 1) := dk_15 da_90
theorem da_91 : fd_G cX2_isHome 128 [(128, .iadd, 1), (129, .iload_n 2, 1), (130, .iload_n 3, 1), (131, .invokevirtual 69, 3), (134, .ifCond .eq 5, 3), (137, .iconst 1, 1), (138, .ireturn, 1), (139, .iinc 5 1, 3), (142, .goto (-63), 3), (145, .iconst 0, 1), (146, .ireturn, 1)] = true := by decide +kernel
theorem dX2_isHome_128 : decode cX2_isHome 128 = .ok (.iadd, 1) := dk_0 da_91
theorem dX2_isHome_129 : decode cX2_isHome 129 = .ok (.iload_n 2, 1) := dk_1 da_91
theorem dX2_isHome_130 : decode cX2_isHome 130 = .ok (.iload_n 3, 1) := dk_2 da_91
theorem dX2_isHome_131 : decode cX2_isHome 131 = .ok (.invokevirtual 69, 3) := dk_3 da_91
theorem dX2_isHome_134 : decode cX2_isHome 134 = .ok (.ifCond .eq 5, 3) := dk_4 da_91
theorem dX2_isHome_137 : decode cX2_isHome 137 = .ok (.iconst 1, 1) := dk_5 da_91
theorem dX2_isHome_138 : decode cX2_isHome 138 = .ok (.ireturn, 1) := dk_6 da_91
theorem dX2_isHome_139 : decode cX2_isHome 139 = .ok (.iinc 5 1, 3) := dk_7 da_91
theorem dX2_isHome_142 : decode cX2_isHome 142 = .ok (.goto (-63), 3) := dk_8 da_91
theorem dX2_isHome_145 : decode cX2_isHome 145 = .ok (.iconst 0, 1) := dk_9 da_91
theorem dX2_isHome_146 : decode cX2_isHome 146 = .ok (.ireturn, 1) := dk_10 da_91
theorem da_92 : fd_G cX2_keepRow 0 [(0, .aload_n 0, 1), (1, .getfield 17, 3), (4, .iconst 0, 1), (5, .aload_n 0, 1), (6, .getfield 21, 3), (9, .iconst 0, 1), (10, .iload_n 1, 1), (11, .invokestatic 80, 3), (14, .aload_n 0, 1), (15, .iload_n 1, 1), (16, .putfield 25, 3), (19, .return_, 1)] = true := by decide +kernel
theorem dX2_keepRow_0 : decode cX2_keepRow 0 = .ok (.aload_n 0, 1) := dk_0 da_92
theorem dX2_keepRow_1 : decode cX2_keepRow 1 = .ok (.getfield 17, 3) := dk_1 da_92
theorem dX2_keepRow_4 : decode cX2_keepRow 4 = .ok (.iconst 0, 1) := dk_2 da_92
theorem dX2_keepRow_5 : decode cX2_keepRow 5 = .ok (.aload_n 0, 1) := dk_3 da_92
theorem dX2_keepRow_6 : decode cX2_keepRow 6 = .ok (.getfield 21, 3) := dk_4 da_92
theorem dX2_keepRow_9 : decode cX2_keepRow 9 = .ok (.iconst 0, 1) := dk_5 da_92
theorem dX2_keepRow_10 : decode cX2_keepRow 10 = .ok (.iload_n 1, 1) := dk_6 da_92
theorem dX2_keepRow_11 : decode cX2_keepRow 11 = .ok (.invokestatic 80, 3) := dk_7 da_92
theorem dX2_keepRow_14 : decode cX2_keepRow 14 = .ok (.aload_n 0, 1) := dk_8 da_92
theorem dX2_keepRow_15 : decode cX2_keepRow 15 = .ok (.iload_n 1, 1) := dk_9 da_92
theorem dX2_keepRow_16 : decode cX2_keepRow 16 = .ok (.putfield 25, 3) := dk_10 da_92
theorem dX2_keepRow_19 : decode cX2_keepRow 19 = .ok (.return_, 1) := dk_11 da_92
theorem dX3_init_7 : decode cX3_init 7 = .ok (.newarray .int, 2) := by decide +kernel
theorem da_93 : fd_G cX3_init 0 [(0, .aload_n 0, 1), (1, .invokespecial 3, 3), (4, .aload_n 0, 1), (5, .bipush 40, 2), (9, .putfield 9, 3), (12, .return_, 1)] = true := by decide +kernel
theorem dX3_init_0 : decode cX3_init 0 = .ok (.aload_n 0, 1) := dk_0 da_93
theorem dX3_init_1 : decode cX3_init 1 = .ok (.invokespecial 3, 3) := dk_1 da_93
theorem dX3_init_4 : decode cX3_init 4 = .ok (.aload_n 0, 1) := dk_2 da_93
theorem dX3_init_5 : decode cX3_init 5 = .ok (.bipush 40, 2) := dk_3 da_93
theorem dX3_init_9 : decode cX3_init 9 = .ok (.putfield 9, 3) := dk_4 da_93
theorem dX3_init_12 : decode cX3_init 12 = .ok (.return_, 1) := dk_5 da_93
theorem da_94 : fd_G cX3_renew 0 [(0, .aload_n 0, 1), (1, .getfield 9, 3), (4, .iconst 0, 1), (5, .invokestatic 15, 3), (8, .aload_n 0, 1), (9, .iconst 1, 1), (10, .putfield 21, 3), (13, .aload_n 0, 1), (14, .iload_n 1, 1), (15, .putfield 25, 3), (18, .aload_n 0, 1), (19, .iload_n 2, 1), (20, .putfield 29, 3), (23, .return_, 1)] = true := by decide +kernel
theorem dX3_renew_0 : decode cX3_renew 0 = .ok (.aload_n 0, 1) := dk_0 da_94
theorem dX3_renew_1 : decode cX3_renew 1 = .ok (.getfield 9, 3) := dk_1 da_94
theorem dX3_renew_4 : decode cX3_renew 4 = .ok (.iconst 0, 1) := dk_2 da_94
theorem dX3_renew_5 : decode cX3_renew 5 = .ok (.invokestatic 15, 3) := dk_3 da_94
theorem dX3_renew_8 : decode cX3_renew 8 = .ok (.aload_n 0, 1) := dk_4 da_94
theorem dX3_renew_9 : decode cX3_renew 9 = .ok (.iconst 1, 1) := dk_5 da_94
theorem dX3_renew_10 : decode cX3_renew 10 = .ok (.putfield 21, 3) := dk_6 da_94
theorem dX3_renew_13 : decode cX3_renew 13 = .ok (.aload_n 0, 1) := dk_7 da_94
theorem dX3_renew_14 : decode cX3_renew 14 = .ok (.iload_n 1, 1) := dk_8 da_94
theorem dX3_renew_15 : decode cX3_renew 15 = .ok (.putfield 25, 3) := dk_9 da_94
theorem dX3_renew_18 : decode cX3_renew 18 = .ok (.aload_n 0, 1) := dk_10 da_94
theorem dX3_renew_19 : decode cX3_renew 19 = .ok (.iload_n 2, 1) := dk_11 da_94
theorem dX3_renew_20 : decode cX3_renew 20 = .ok (.putfield 29, 3) := dk_12 da_94
theorem dX3_renew_23 : decode cX3_renew 23 = .ok (.return_, 1) := dk_13 da_94
theorem da_95 : fd_G cX3_faultAt 0 [(0, .aload_n 0, 1), (1, .getfield 21, 3), (4, .ifCond .ne 5, 3), (7, .iconst 1, 1), (8, .ireturn, 1), (9, .aload_n 0, 1), (10, .getfield 25, 3), (13, .iload_n 1, 1), (14, .if_icmp .eq 5, 3), (17, .iconst 3, 1), (18, .ireturn, 1), (19, .iload_n 2, 1), (20, .ifCond .lt 11, 3), (23, .iload_n 2, 1), (24, .aload_n 0, 1), (25, .getfield 29, 3)] = true := by decide +kernel
theorem dX3_faultAt_0 : decode cX3_faultAt 0 = .ok (.aload_n 0, 1) := dk_0 da_95
theorem dX3_faultAt_1 : decode cX3_faultAt 1 = .ok (.getfield 21, 3) := dk_1 da_95
theorem dX3_faultAt_4 : decode cX3_faultAt 4 = .ok (.ifCond .ne 5, 3) := dk_2 da_95
theorem dX3_faultAt_7 : decode cX3_faultAt 7 = .ok (.iconst 1, 1) := dk_3 da_95
theorem dX3_faultAt_8 : decode cX3_faultAt 8 = .ok (.ireturn, 1) := dk_4 da_95
theorem dX3_faultAt_9 : decode cX3_faultAt 9 = .ok (.aload_n 0, 1) := dk_5 da_95
theorem dX3_faultAt_10 : decode cX3_faultAt 10 = .ok (.getfield 25, 3) := dk_6 da_95
theorem dX3_faultAt_13 : decode cX3_faultAt 13 = .ok (.iload_n 1, 1) := dk_7 da_95
theorem dX3_faultAt_14 : decode cX3_faultAt 14 = .ok (.if_icmp .eq 5, 3) := dk_8 da_95
theorem dX3_faultAt_17 : decode cX3_faultAt 17 = .ok (.iconst 3, 1) := dk_9 da_95
theorem dX3_faultAt_18 : decode cX3_faultAt 18 = .ok (.ireturn, 1) := dk_10 da_95
theorem dX3_faultAt_19 : decode cX3_faultAt 19 = .ok (.iload_n 2, 1) := dk_11 da_95
theorem dX3_faultAt_20 : decode cX3_faultAt 20 = .ok (.ifCond .lt 11, 3) := dk_12 da_95
theorem dX3_faultAt_23 : decode cX3_faultAt 23 = .ok (.iload_n 2, 1) := dk_13 da_95
theorem dX3_faultAt_24 : decode cX3_faultAt 24 = .ok (.aload_n 0, 1) := dk_14 da_95
theorem dX3_faultAt_25 : decode cX3_faultAt 25 = .ok (.getfield 29, 3) := dk_15 da_95
theorem da_96 : fd_G cX3_faultAt 28 [(28, .if_icmp .lt 7, 3), (31, .iconst 2, 1), (32, .goto 4, 3), (35, .iconst 0, 1), (36, .ireturn, 1)] = true := by decide +kernel
theorem dX3_faultAt_28 : decode cX3_faultAt 28 = .ok (.if_icmp .lt 7, 3) := dk_0 da_96
theorem dX3_faultAt_31 : decode cX3_faultAt 31 = .ok (.iconst 2, 1) := dk_1 da_96
theorem dX3_faultAt_32 : decode cX3_faultAt 32 = .ok (.goto 4, 3) := dk_2 da_96
theorem dX3_faultAt_35 : decode cX3_faultAt 35 = .ok (.iconst 0, 1) := dk_3 da_96
theorem dX3_faultAt_36 : decode cX3_faultAt 36 = .ok (.ireturn, 1) := dk_4 da_96
theorem dX3_put_13 : decode cX3_put 13 = .ok (.i2b, 1) := by decide +kernel
theorem da_97 : fd_G cX3_put 0 [(0, .aload_n 0, 1), (1, .getfield 25, 3), (4, .ifCond .ne 14, 3), (7, .aload_n 0, 1), (8, .getfield 9, 3), (11, .iload_n 1, 1), (12, .iload_n 2, 1), (14, .iastore, 1), (15, .goto 29, 3), (18, .aload_n 0, 1), (19, .getfield 25, 3), (22, .iconst 1, 1), (23, .if_icmp .ne 14, 3), (26, .aload_n 0, 1), (27, .getfield 9, 3), (30, .iload_n 1, 1)] = true := by decide +kernel
theorem dX3_put_0 : decode cX3_put 0 = .ok (.aload_n 0, 1) := dk_0 da_97
theorem dX3_put_1 : decode cX3_put 1 = .ok (.getfield 25, 3) := dk_1 da_97
theorem dX3_put_4 : decode cX3_put 4 = .ok (.ifCond .ne 14, 3) := dk_2 da_97
theorem dX3_put_7 : decode cX3_put 7 = .ok (.aload_n 0, 1) := dk_3 da_97
theorem dX3_put_8 : decode cX3_put 8 = .ok (.getfield 9, 3) := dk_4 da_97
theorem dX3_put_11 : decode cX3_put 11 = .ok (.iload_n 1, 1) := dk_5 da_97
theorem dX3_put_12 : decode cX3_put 12 = .ok (.iload_n 2, 1) := dk_6 da_97
theorem dX3_put_14 : decode cX3_put 14 = .ok (.iastore, 1) := dk_7 da_97
theorem dX3_put_15 : decode cX3_put 15 = .ok (.goto 29, 3) := dk_8 da_97
theorem dX3_put_18 : decode cX3_put 18 = .ok (.aload_n 0, 1) := dk_9 da_97
theorem dX3_put_19 : decode cX3_put 19 = .ok (.getfield 25, 3) := dk_10 da_97
theorem dX3_put_22 : decode cX3_put 22 = .ok (.iconst 1, 1) := dk_11 da_97
theorem dX3_put_23 : decode cX3_put 23 = .ok (.if_icmp .ne 14, 3) := dk_12 da_97
theorem dX3_put_26 : decode cX3_put 26 = .ok (.aload_n 0, 1) := dk_13 da_97
theorem dX3_put_27 : decode cX3_put 27 = .ok (.getfield 9, 3) := dk_14 da_97
theorem dX3_put_30 : decode cX3_put 30 = .ok (.iload_n 1, 1) := dk_15 da_97
theorem dX3_put_32 : decode cX3_put 32 = .ok (.i2s, 1) := by decide +kernel
theorem da_98 : fd_G cX3_put 31 [(31, .iload_n 2, 1), (33, .iastore, 1), (34, .goto 10, 3), (37, .aload_n 0, 1), (38, .getfield 9, 3), (41, .iload_n 1, 1), (42, .iload_n 2, 1), (43, .iastore, 1), (44, .return_, 1)] = true := by decide +kernel
theorem dX3_put_31 : decode cX3_put 31 = .ok (.iload_n 2, 1) := dk_0 da_98
theorem dX3_put_33 : decode cX3_put 33 = .ok (.iastore, 1) := dk_1 da_98
theorem dX3_put_34 : decode cX3_put 34 = .ok (.goto 10, 3) := dk_2 da_98
theorem dX3_put_37 : decode cX3_put 37 = .ok (.aload_n 0, 1) := dk_3 da_98
theorem dX3_put_38 : decode cX3_put 38 = .ok (.getfield 9, 3) := dk_4 da_98
theorem dX3_put_41 : decode cX3_put 41 = .ok (.iload_n 1, 1) := dk_5 da_98
theorem dX3_put_42 : decode cX3_put 42 = .ok (.iload_n 2, 1) := dk_6 da_98
theorem dX3_put_43 : decode cX3_put 43 = .ok (.iastore, 1) := dk_7 da_98
theorem dX3_put_44 : decode cX3_put 44 = .ok (.return_, 1) := dk_8 da_98
theorem dX4_init_7 : decode cX4_init 7 = .ok (.newarray .int, 2) := by decide +kernel
theorem dX4_init_15 : decode cX4_init 15 = .ok (.newarray .boolean, 2) := by decide +kernel
theorem da_99 : fd_G cX4_init 0 [(0, .aload_n 0, 1), (1, .invokespecial 3, 3), (4, .aload_n 0, 1), (5, .bipush 6, 2), (9, .putfield 9, 3), (12, .aload_n 0, 1), (13, .bipush 6, 2), (17, .putfield 15, 3), (20, .return_, 1)] = true := by decide +kernel
theorem dX4_init_0 : decode cX4_init 0 = .ok (.aload_n 0, 1) := dk_0 da_99
theorem dX4_init_1 : decode cX4_init 1 = .ok (.invokespecial 3, 3) := dk_1 da_99
theorem dX4_init_4 : decode cX4_init 4 = .ok (.aload_n 0, 1) := dk_2 da_99
theorem dX4_init_5 : decode cX4_init 5 = .ok (.bipush 6, 2) := dk_3 da_99
theorem dX4_init_9 : decode cX4_init 9 = .ok (.putfield 9, 3) := dk_4 da_99
theorem dX4_init_12 : decode cX4_init 12 = .ok (.aload_n 0, 1) := dk_5 da_99
theorem dX4_init_13 : decode cX4_init 13 = .ok (.bipush 6, 2) := dk_6 da_99
theorem dX4_init_17 : decode cX4_init 17 = .ok (.putfield 15, 3) := dk_7 da_99
theorem dX4_init_20 : decode cX4_init 20 = .ok (.return_, 1) := dk_8 da_99
theorem da_100 : fd_G cX4_add 0 [(0, .aload_n 0, 1), (1, .getfield 19, 3), (4, .bipush 6, 2), (6, .if_icmp .lt 5, 3), (9, .iconst 0, 1), (10, .ireturn, 1), (11, .aload_n 0, 1), (12, .getfield 9, 3), (15, .aload_n 0, 1), (16, .getfield 19, 3), (19, .iload_n 1, 1), (20, .iastore, 1), (21, .aload_n 0, 1), (22, .getfield 15, 3), (25, .aload_n 0, 1), (26, .getfield 19, 3)] = true := by decide +kernel
theorem dX4_add_0 : decode cX4_add 0 = .ok (.aload_n 0, 1) := dk_0 da_100
theorem dX4_add_1 : decode cX4_add 1 = .ok (.getfield 19, 3) := dk_1 da_100
theorem dX4_add_4 : decode cX4_add 4 = .ok (.bipush 6, 2) := dk_2 da_100
theorem dX4_add_6 : decode cX4_add 6 = .ok (.if_icmp .lt 5, 3) := dk_3 da_100
theorem dX4_add_9 : decode cX4_add 9 = .ok (.iconst 0, 1) := dk_4 da_100
theorem dX4_add_10 : decode cX4_add 10 = .ok (.ireturn, 1) := dk_5 da_100
theorem dX4_add_11 : decode cX4_add 11 = .ok (.aload_n 0, 1) := dk_6 da_100
theorem dX4_add_12 : decode cX4_add 12 = .ok (.getfield 9, 3) := dk_7 da_100
theorem dX4_add_15 : decode cX4_add 15 = .ok (.aload_n 0, 1) := dk_8 da_100
theorem dX4_add_16 : decode cX4_add 16 = .ok (.getfield 19, 3) := dk_9 da_100
theorem dX4_add_19 : decode cX4_add 19 = .ok (.iload_n 1, 1) := dk_10 da_100
theorem dX4_add_20 : decode cX4_add 20 = .ok (.iastore, 1) := dk_11 da_100
theorem dX4_add_21 : decode cX4_add 21 = .ok (.aload_n 0, 1) := dk_12 da_100
theorem dX4_add_22 : decode cX4_add 22 = .ok (.getfield 15, 3) := dk_13 da_100
theorem dX4_add_25 : decode cX4_add 25 = .ok (.aload_n 0, 1) := dk_14 da_100
theorem dX4_add_26 : decode cX4_add 26 = .ok (.getfield 19, 3) := dk_15 da_100
theorem dX4_add_30 : decode cX4_add 30 = .ok (.bastore, 1) := by decide +kernel
theorem da_101 : fd_G cX4_add 29 [(29, .iload_n 2, 1), (31, .aload_n 0, 1), (32, .dup, 1), (33, .getfield 19, 3), (36, .iconst 1, 1), (37, .iadd, 1), (38, .putfield 19, 3), (41, .iconst 1, 1), (42, .ireturn, 1)] = true := by decide +kernel
theorem dX4_add_29 : decode cX4_add 29 = .ok (.iload_n 2, 1) := dk_0 da_101
theorem dX4_add_31 : decode cX4_add 31 = .ok (.aload_n 0, 1) := dk_1 da_101
theorem dX4_add_32 : decode cX4_add 32 = .ok (.dup, 1) := dk_2 da_101
theorem dX4_add_33 : decode cX4_add 33 = .ok (.getfield 19, 3) := dk_3 da_101
theorem dX4_add_36 : decode cX4_add 36 = .ok (.iconst 1, 1) := dk_4 da_101
theorem dX4_add_37 : decode cX4_add 37 = .ok (.iadd, 1) := dk_5 da_101
theorem dX4_add_38 : decode cX4_add 38 = .ok (.putfield 19, 3) := dk_6 da_101
theorem dX4_add_41 : decode cX4_add 41 = .ok (.iconst 1, 1) := dk_7 da_101
theorem dX4_add_42 : decode cX4_add 42 = .ok (.ireturn, 1) := dk_8 da_101
theorem da_102 : fd_G cX4_agreeWith 0 [(0, .iconst 0, 1), (1, .istore_n 2, 1), (2, .iload_n 2, 1), (3, .aload_n 0, 1), (4, .getfield 19, 3), (7, .if_icmp .ge 41, 3), (10, .iload_n 1, 1), (11, .aload_n 0, 1), (12, .getfield 9, 3), (15, .iload_n 2, 1), (16, .iaload, 1), (17, .ishr, 1), (18, .iconst 1, 1), (19, .iand, 1), (20, .iconst 1, 1), (21, .if_icmp .ne 7, 3)] = true := by decide +kernel
theorem dX4_agreeWith_0 : decode cX4_agreeWith 0 = .ok (.iconst 0, 1) := dk_0 da_102
theorem dX4_agreeWith_1 : decode cX4_agreeWith 1 = .ok (.istore_n 2, 1) := dk_1 da_102
theorem dX4_agreeWith_2 : decode cX4_agreeWith 2 = .ok (.iload_n 2, 1) := dk_2 da_102
theorem dX4_agreeWith_3 : decode cX4_agreeWith 3 = .ok (.aload_n 0, 1) := dk_3 da_102
theorem dX4_agreeWith_4 : decode cX4_agreeWith 4 = .ok (.getfield 19, 3) := dk_4 da_102
theorem dX4_agreeWith_7 : decode cX4_agreeWith 7 = .ok (.if_icmp .ge 41, 3) := dk_5 da_102
theorem dX4_agreeWith_10 : decode cX4_agreeWith 10 = .ok (.iload_n 1, 1) := dk_6 da_102
theorem dX4_agreeWith_11 : decode cX4_agreeWith 11 = .ok (.aload_n 0, 1) := dk_7 da_102
theorem dX4_agreeWith_12 : decode cX4_agreeWith 12 = .ok (.getfield 9, 3) := dk_8 da_102
theorem dX4_agreeWith_15 : decode cX4_agreeWith 15 = .ok (.iload_n 2, 1) := dk_9 da_102
theorem dX4_agreeWith_16 : decode cX4_agreeWith 16 = .ok (.iaload, 1) := dk_10 da_102
theorem dX4_agreeWith_17 : decode cX4_agreeWith 17 = .ok (.ishr, 1) := dk_11 da_102
theorem dX4_agreeWith_18 : decode cX4_agreeWith 18 = .ok (.iconst 1, 1) := dk_12 da_102
theorem dX4_agreeWith_19 : decode cX4_agreeWith 19 = .ok (.iand, 1) := dk_13 da_102
theorem dX4_agreeWith_20 : decode cX4_agreeWith 20 = .ok (.iconst 1, 1) := dk_14 da_102
theorem dX4_agreeWith_21 : decode cX4_agreeWith 21 = .ok (.if_icmp .ne 7, 3) := dk_15 da_102
theorem da_103 : fd_G cX4_agreeWith 24 [(24, .iconst 1, 1), (25, .goto 4, 3), (28, .iconst 0, 1), (29, .istore_n 3, 1), (30, .iload_n 3, 1), (31, .aload_n 0, 1), (32, .getfield 15, 3), (35, .iload_n 2, 1), (36, .baload, 1), (37, .if_icmp .eq 5, 3), (40, .iconst 0, 1), (41, .ireturn, 1), (42, .iinc 2 1, 3), (45, .goto (-43), 3), (48, .iconst 1, 1), (49, .ireturn, 1)] = true := by decide +kernel
theorem dX4_agreeWith_24 : decode cX4_agreeWith 24 = .ok (.iconst 1, 1) := dk_0 da_103
theorem dX4_agreeWith_25 : decode cX4_agreeWith 25 = .ok (.goto 4, 3) := dk_1 da_103
theorem dX4_agreeWith_28 : decode cX4_agreeWith 28 = .ok (.iconst 0, 1) := dk_2 da_103
theorem dX4_agreeWith_29 : decode cX4_agreeWith 29 = .ok (.istore_n 3, 1) := dk_3 da_103
theorem dX4_agreeWith_30 : decode cX4_agreeWith 30 = .ok (.iload_n 3, 1) := dk_4 da_103
theorem dX4_agreeWith_31 : decode cX4_agreeWith 31 = .ok (.aload_n 0, 1) := dk_5 da_103
theorem dX4_agreeWith_32 : decode cX4_agreeWith 32 = .ok (.getfield 15, 3) := dk_6 da_103
theorem dX4_agreeWith_35 : decode cX4_agreeWith 35 = .ok (.iload_n 2, 1) := dk_7 da_103
theorem dX4_agreeWith_36 : decode cX4_agreeWith 36 = .ok (.baload, 1) := dk_8 da_103
theorem dX4_agreeWith_37 : decode cX4_agreeWith 37 = .ok (.if_icmp .eq 5, 3) := dk_9 da_103
theorem dX4_agreeWith_40 : decode cX4_agreeWith 40 = .ok (.iconst 0, 1) := dk_10 da_103
theorem dX4_agreeWith_41 : decode cX4_agreeWith 41 = .ok (.ireturn, 1) := dk_11 da_103
theorem dX4_agreeWith_42 : decode cX4_agreeWith 42 = .ok (.iinc 2 1, 3) := dk_12 da_103
theorem dX4_agreeWith_45 : decode cX4_agreeWith 45 = .ok (.goto (-43), 3) := dk_13 da_103
theorem dX4_agreeWith_48 : decode cX4_agreeWith 48 = .ok (.iconst 1, 1) := dk_14 da_103
theorem dX4_agreeWith_49 : decode cX4_agreeWith 49 = .ok (.ireturn, 1) := dk_15 da_103
theorem dX5_init_8 : decode cX5_init 8 = .ok (.newarray .byte, 2) := by decide +kernel
theorem da_104 : fd_G cX5_init 0 [(0, .aload_n 0, 1), (1, .invokespecial 3, 3), (4, .aload_n 0, 1), (5, .sipush 160, 3), (10, .putfield 9, 3), (13, .aload_n 0, 1), (14, .new 15, 3), (17, .dup, 1), (18, .invokespecial 17, 3), (21, .putfield 18, 3), (24, .return_, 1)] = true := by decide +kernel
theorem dX5_init_0 : decode cX5_init 0 = .ok (.aload_n 0, 1) := dk_0 da_104
theorem dX5_init_1 : decode cX5_init 1 = .ok (.invokespecial 3, 3) := dk_1 da_104
theorem dX5_init_4 : decode cX5_init 4 = .ok (.aload_n 0, 1) := dk_2 da_104
theorem dX5_init_5 : decode cX5_init 5 = .ok (.sipush 160, 3) := dk_3 da_104
theorem dX5_init_10 : decode cX5_init 10 = .ok (.putfield 9, 3) := dk_4 da_104
theorem dX5_init_13 : decode cX5_init 13 = .ok (.aload_n 0, 1) := dk_5 da_104
theorem dX5_init_14 : decode cX5_init 14 = .ok (.new 15, 3) := dk_6 da_104
theorem dX5_init_17 : decode cX5_init 17 = .ok (.dup, 1) := dk_7 da_104
theorem dX5_init_18 : decode cX5_init 18 = .ok (.invokespecial 17, 3) := dk_8 da_104
theorem dX5_init_21 : decode cX5_init 21 = .ok (.putfield 18, 3) := dk_9 da_104
theorem dX5_init_24 : decode cX5_init 24 = .ok (.return_, 1) := dk_10 da_104
theorem dX5_append_21 : decode cX5_append 21 = .ok (.i2b, 1) := by decide +kernel
theorem dX5_append_22 : decode cX5_append 22 = .ok (.bastore, 1) := by decide +kernel
theorem da_105 : fd_G cX5_append 0 [(0, .aload_n 0, 1), (1, .getfield 22, 3), (4, .sipush 160, 3), (7, .if_icmp .lt 5, 3), (10, .iconst 0, 1), (11, .ireturn, 1), (12, .aload_n 0, 1), (13, .getfield 9, 3), (16, .aload_n 0, 1), (17, .getfield 22, 3), (20, .iload_n 1, 1), (23, .aload_n 0, 1), (24, .dup, 1), (25, .getfield 22, 3), (28, .iconst 1, 1), (29, .iadd, 1)] = true := by decide +kernel
theorem dX5_append_0 : decode cX5_append 0 = .ok (.aload_n 0, 1) := dk_0 da_105
theorem dX5_append_1 : decode cX5_append 1 = .ok (.getfield 22, 3) := dk_1 da_105
theorem dX5_append_4 : decode cX5_append 4 = .ok (.sipush 160, 3) := dk_2 da_105
theorem dX5_append_7 : decode cX5_append 7 = .ok (.if_icmp .lt 5, 3) := dk_3 da_105
theorem dX5_append_10 : decode cX5_append 10 = .ok (.iconst 0, 1) := dk_4 da_105
theorem dX5_append_11 : decode cX5_append 11 = .ok (.ireturn, 1) := dk_5 da_105
theorem dX5_append_12 : decode cX5_append 12 = .ok (.aload_n 0, 1) := dk_6 da_105
theorem dX5_append_13 : decode cX5_append 13 = .ok (.getfield 9, 3) := dk_7 da_105
theorem dX5_append_16 : decode cX5_append 16 = .ok (.aload_n 0, 1) := dk_8 da_105
theorem dX5_append_17 : decode cX5_append 17 = .ok (.getfield 22, 3) := dk_9 da_105
theorem dX5_append_20 : decode cX5_append 20 = .ok (.iload_n 1, 1) := dk_10 da_105
theorem dX5_append_23 : decode cX5_append 23 = .ok (.aload_n 0, 1) := dk_11 da_105
theorem dX5_append_24 : decode cX5_append 24 = .ok (.dup, 1) := dk_12 da_105
theorem dX5_append_25 : decode cX5_append 25 = .ok (.getfield 22, 3) := dk_13 da_105
theorem dX5_append_28 : decode cX5_append 28 = .ok (.iconst 1, 1) := dk_14 da_105
theorem dX5_append_29 : decode cX5_append 29 = .ok (.iadd, 1) := dk_15 da_105
theorem da_106 : fd_G cX5_append 30 [(30, .putfield 22, 3), (33, .iconst 1, 1), (34, .ireturn, 1)] = true := by decide +kernel
theorem dX5_append_30 : decode cX5_append 30 = .ok (.putfield 22, 3) := dk_0 da_106
theorem dX5_append_33 : decode cX5_append 33 = .ok (.iconst 1, 1) := dk_1 da_106
theorem dX5_append_34 : decode cX5_append 34 = .ok (.ireturn, 1) := dk_2 da_106
theorem da_107 : fd_G cX5_tellAll 0 [(0, .aload_n 0, 1), (1, .getfield 18, 3), (4, .invokevirtual 26, 3), (7, .aload_n 0, 1), (8, .iconst 0, 1), (9, .putfield 29, 3), (12, .aload_n 0, 1), (13, .iconst 0, 1), (14, .putfield 32, 3), (17, .aload_n 0, 1), (18, .iconst 0, 1), (19, .putfield 35, 3), (22, .aload_n 0, 1), (23, .iconst 0, 1), (24, .putfield 38, 3), (27, .aload_n 0, 1)] = true := by decide +kernel
theorem dX5_tellAll_0 : decode cX5_tellAll 0 = .ok (.aload_n 0, 1) := dk_0 da_107
theorem dX5_tellAll_1 : decode cX5_tellAll 1 = .ok (.getfield 18, 3) := dk_1 da_107
theorem dX5_tellAll_4 : decode cX5_tellAll 4 = .ok (.invokevirtual 26, 3) := dk_2 da_107
theorem dX5_tellAll_7 : decode cX5_tellAll 7 = .ok (.aload_n 0, 1) := dk_3 da_107
theorem dX5_tellAll_8 : decode cX5_tellAll 8 = .ok (.iconst 0, 1) := dk_4 da_107
theorem dX5_tellAll_9 : decode cX5_tellAll 9 = .ok (.putfield 29, 3) := dk_5 da_107
theorem dX5_tellAll_12 : decode cX5_tellAll 12 = .ok (.aload_n 0, 1) := dk_6 da_107
theorem dX5_tellAll_13 : decode cX5_tellAll 13 = .ok (.iconst 0, 1) := dk_7 da_107
theorem dX5_tellAll_14 : decode cX5_tellAll 14 = .ok (.putfield 32, 3) := dk_8 da_107
theorem dX5_tellAll_17 : decode cX5_tellAll 17 = .ok (.aload_n 0, 1) := dk_9 da_107
theorem dX5_tellAll_18 : decode cX5_tellAll 18 = .ok (.iconst 0, 1) := dk_10 da_107
theorem dX5_tellAll_19 : decode cX5_tellAll 19 = .ok (.putfield 35, 3) := dk_11 da_107
theorem dX5_tellAll_22 : decode cX5_tellAll 22 = .ok (.aload_n 0, 1) := dk_12 da_107
theorem dX5_tellAll_23 : decode cX5_tellAll 23 = .ok (.iconst 0, 1) := dk_13 da_107
theorem dX5_tellAll_24 : decode cX5_tellAll 24 = .ok (.putfield 38, 3) := dk_14 da_107
theorem dX5_tellAll_27 : decode cX5_tellAll 27 = .ok (.aload_n 0, 1) := dk_15 da_107
theorem da_108 : fd_G cX5_tellAll 28 [(28, .invokevirtual 41, 3), (31, .iconst 0, 1), (32, .istore_n 1, 1), (33, .aload_n 0, 1), (34, .getfield 29, 3), (37, .ifCond .ne 27, 3), (40, .aload_n 0, 1), (41, .getfield 44, 3), (44, .ifCond .eq 20, 3), (47, .iload_n 1, 1), (48, .sipush 160, 3), (51, .if_icmp .ge 13, 3), (54, .aload_n 0, 1), (55, .invokevirtual 47, 3), (58, .iinc 1 1, 3), (61, .goto (-28), 3)] = true := by decide +kernel
theorem dX5_tellAll_28 : decode cX5_tellAll 28 = .ok (.invokevirtual 41, 3) := dk_0 da_108
theorem dX5_tellAll_31 : decode cX5_tellAll 31 = .ok (.iconst 0, 1) := dk_1 da_108
theorem dX5_tellAll_32 : decode cX5_tellAll 32 = .ok (.istore_n 1, 1) := dk_2 da_108
theorem dX5_tellAll_33 : decode cX5_tellAll 33 = .ok (.aload_n 0, 1) := dk_3 da_108
theorem dX5_tellAll_34 : decode cX5_tellAll 34 = .ok (.getfield 29, 3) := dk_4 da_108
theorem dX5_tellAll_37 : decode cX5_tellAll 37 = .ok (.ifCond .ne 27, 3) := dk_5 da_108
theorem dX5_tellAll_40 : decode cX5_tellAll 40 = .ok (.aload_n 0, 1) := dk_6 da_108
theorem dX5_tellAll_41 : decode cX5_tellAll 41 = .ok (.getfield 44, 3) := dk_7 da_108
theorem dX5_tellAll_44 : decode cX5_tellAll 44 = .ok (.ifCond .eq 20, 3) := dk_8 da_108
theorem dX5_tellAll_47 : decode cX5_tellAll 47 = .ok (.iload_n 1, 1) := dk_9 da_108
theorem dX5_tellAll_48 : decode cX5_tellAll 48 = .ok (.sipush 160, 3) := dk_10 da_108
theorem dX5_tellAll_51 : decode cX5_tellAll 51 = .ok (.if_icmp .ge 13, 3) := dk_11 da_108
theorem dX5_tellAll_54 : decode cX5_tellAll 54 = .ok (.aload_n 0, 1) := dk_12 da_108
theorem dX5_tellAll_55 : decode cX5_tellAll 55 = .ok (.invokevirtual 47, 3) := dk_13 da_108
theorem dX5_tellAll_58 : decode cX5_tellAll 58 = .ok (.iinc 1 1, 3) := dk_14 da_108
theorem dX5_tellAll_61 : decode cX5_tellAll 61 = .ok (.goto (-28), 3) := dk_15 da_108
theorem da_109 : fd_G cX5_tellAll 64 [(64, .aload_n 0, 1), (65, .getfield 29, 3), (68, .ifCond .ne 23, 3), (71, .aload_n 0, 1), (72, .getfield 18, 3), (75, .invokevirtual 50, 3), (78, .ifCond .ne 13, 3), (81, .aload_n 0, 1), (82, .bipush 6, 2), (84, .aload_n 0, 1), (85, .getfield 22, 3), (88, .invokevirtual 54, 3), (91, .aload_n 0, 1), (92, .iconst 0, 1), (93, .putfield 22, 3), (96, .aload_n 0, 1)] = true := by decide +kernel
theorem dX5_tellAll_64 : decode cX5_tellAll 64 = .ok (.aload_n 0, 1) := dk_0 da_109
theorem dX5_tellAll_65 : decode cX5_tellAll 65 = .ok (.getfield 29, 3) := dk_1 da_109
theorem dX5_tellAll_68 : decode cX5_tellAll 68 = .ok (.ifCond .ne 23, 3) := dk_2 da_109
theorem dX5_tellAll_71 : decode cX5_tellAll 71 = .ok (.aload_n 0, 1) := dk_3 da_109
theorem dX5_tellAll_72 : decode cX5_tellAll 72 = .ok (.getfield 18, 3) := dk_4 da_109
theorem dX5_tellAll_75 : decode cX5_tellAll 75 = .ok (.invokevirtual 50, 3) := dk_5 da_109
theorem dX5_tellAll_78 : decode cX5_tellAll 78 = .ok (.ifCond .ne 13, 3) := dk_6 da_109
theorem dX5_tellAll_81 : decode cX5_tellAll 81 = .ok (.aload_n 0, 1) := dk_7 da_109
theorem dX5_tellAll_82 : decode cX5_tellAll 82 = .ok (.bipush 6, 2) := dk_8 da_109
theorem dX5_tellAll_84 : decode cX5_tellAll 84 = .ok (.aload_n 0, 1) := dk_9 da_109
theorem dX5_tellAll_85 : decode cX5_tellAll 85 = .ok (.getfield 22, 3) := dk_10 da_109
theorem dX5_tellAll_88 : decode cX5_tellAll 88 = .ok (.invokevirtual 54, 3) := dk_11 da_109
theorem dX5_tellAll_91 : decode cX5_tellAll 91 = .ok (.aload_n 0, 1) := dk_12 da_109
theorem dX5_tellAll_92 : decode cX5_tellAll 92 = .ok (.iconst 0, 1) := dk_13 da_109
theorem dX5_tellAll_93 : decode cX5_tellAll 93 = .ok (.putfield 22, 3) := dk_14 da_109
theorem dX5_tellAll_96 : decode cX5_tellAll 96 = .ok (.aload_n 0, 1) := dk_15 da_109
theorem da_110 : fd_G cX5_tellAll 97 [(97, .getfield 29, 3), (100, .ifCond .ne 7, 3), (103, .iload_n 1, 1), (104, .goto 10, 3), (107, .bipush (-10), 2), (109, .aload_n 0, 1), (110, .getfield 32, 3), (113, .isub, 1), (114, .ireturn, 1)] = true := by decide +kernel
theorem dX5_tellAll_97 : decode cX5_tellAll 97 = .ok (.getfield 29, 3) := dk_0 da_110
theorem dX5_tellAll_100 : decode cX5_tellAll 100 = .ok (.ifCond .ne 7, 3) := dk_1 da_110
theorem dX5_tellAll_103 : decode cX5_tellAll 103 = .ok (.iload_n 1, 1) := dk_2 da_110
theorem dX5_tellAll_104 : decode cX5_tellAll 104 = .ok (.goto 10, 3) := dk_3 da_110
theorem dX5_tellAll_107 : decode cX5_tellAll 107 = .ok (.bipush (-10), 2) := dk_4 da_110
theorem dX5_tellAll_109 : decode cX5_tellAll 109 = .ok (.aload_n 0, 1) := dk_5 da_110
theorem dX5_tellAll_110 : decode cX5_tellAll 110 = .ok (.getfield 32, 3) := dk_6 da_110
theorem dX5_tellAll_113 : decode cX5_tellAll 113 = .ok (.isub, 1) := dk_7 da_110
theorem dX5_tellAll_114 : decode cX5_tellAll 114 = .ok (.ireturn, 1) := dk_8 da_110
theorem da_111 : fd_G cX5_tellLine 0 [(0, .aload_n 0, 1), (1, .invokevirtual 58, 3), (4, .istore_n 1, 1), (5, .iload_n 1, 1), (6, .bipush 7, 2), (8, .if_icmp .ne 15, 3), (11, .aload_n 0, 1), (12, .iconst 2, 1), (13, .aload_n 0, 1), (14, .getfield 62, 3), (17, .invokevirtual 54, 3), (20, .goto 103, 3), (23, .iload_n 1, 1), (24, .iconst 4, 1), (25, .if_icmp .ge 11, 3), (28, .aload_n 0, 1)] = true := by decide +kernel
theorem dX5_tellLine_0 : decode cX5_tellLine 0 = .ok (.aload_n 0, 1) := dk_0 da_111
theorem dX5_tellLine_1 : decode cX5_tellLine 1 = .ok (.invokevirtual 58, 3) := dk_1 da_111
theorem dX5_tellLine_4 : decode cX5_tellLine 4 = .ok (.istore_n 1, 1) := dk_2 da_111
theorem dX5_tellLine_5 : decode cX5_tellLine 5 = .ok (.iload_n 1, 1) := dk_3 da_111
theorem dX5_tellLine_6 : decode cX5_tellLine 6 = .ok (.bipush 7, 2) := dk_4 da_111
theorem dX5_tellLine_8 : decode cX5_tellLine 8 = .ok (.if_icmp .ne 15, 3) := dk_5 da_111
theorem dX5_tellLine_11 : decode cX5_tellLine 11 = .ok (.aload_n 0, 1) := dk_6 da_111
theorem dX5_tellLine_12 : decode cX5_tellLine 12 = .ok (.iconst 2, 1) := dk_7 da_111
theorem dX5_tellLine_13 : decode cX5_tellLine 13 = .ok (.aload_n 0, 1) := dk_8 da_111
theorem dX5_tellLine_14 : decode cX5_tellLine 14 = .ok (.getfield 62, 3) := dk_9 da_111
theorem dX5_tellLine_17 : decode cX5_tellLine 17 = .ok (.invokevirtual 54, 3) := dk_10 da_111
theorem dX5_tellLine_20 : decode cX5_tellLine 20 = .ok (.goto 103, 3) := dk_11 da_111
theorem dX5_tellLine_23 : decode cX5_tellLine 23 = .ok (.iload_n 1, 1) := dk_12 da_111
theorem dX5_tellLine_24 : decode cX5_tellLine 24 = .ok (.iconst 4, 1) := dk_13 da_111
theorem dX5_tellLine_25 : decode cX5_tellLine 25 = .ok (.if_icmp .ge 11, 3) := dk_14 da_111
theorem dX5_tellLine_28 : decode cX5_tellLine 28 = .ok (.aload_n 0, 1) := dk_15 da_111
theorem da_112 : fd_G cX5_tellLine 29 [(29, .iload_n 1, 1), (30, .invokevirtual 65, 3), (33, .goto 90, 3), (36, .aload_n 0, 1), (37, .getfield 35, 3), (40, .iload_n 1, 1), (41, .ishr, 1), (42, .iconst 1, 1), (43, .iand, 1), (44, .iconst 1, 1), (45, .if_icmp .ne 15, 3), (48, .aload_n 0, 1), (49, .iconst 4, 1), (50, .aload_n 0, 1), (51, .getfield 62, 3), (54, .invokevirtual 54, 3)] = true := by decide +kernel
theorem dX5_tellLine_29 : decode cX5_tellLine 29 = .ok (.iload_n 1, 1) := dk_0 da_112
theorem dX5_tellLine_30 : decode cX5_tellLine 30 = .ok (.invokevirtual 65, 3) := dk_1 da_112
theorem dX5_tellLine_33 : decode cX5_tellLine 33 = .ok (.goto 90, 3) := dk_2 da_112
theorem dX5_tellLine_36 : decode cX5_tellLine 36 = .ok (.aload_n 0, 1) := dk_3 da_112
theorem dX5_tellLine_37 : decode cX5_tellLine 37 = .ok (.getfield 35, 3) := dk_4 da_112
theorem dX5_tellLine_40 : decode cX5_tellLine 40 = .ok (.iload_n 1, 1) := dk_5 da_112
theorem dX5_tellLine_41 : decode cX5_tellLine 41 = .ok (.ishr, 1) := dk_6 da_112
theorem dX5_tellLine_42 : decode cX5_tellLine 42 = .ok (.iconst 1, 1) := dk_7 da_112
theorem dX5_tellLine_43 : decode cX5_tellLine 43 = .ok (.iand, 1) := dk_8 da_112
theorem dX5_tellLine_44 : decode cX5_tellLine 44 = .ok (.iconst 1, 1) := dk_9 da_112
theorem dX5_tellLine_45 : decode cX5_tellLine 45 = .ok (.if_icmp .ne 15, 3) := dk_10 da_112
theorem dX5_tellLine_48 : decode cX5_tellLine 48 = .ok (.aload_n 0, 1) := dk_11 da_112
theorem dX5_tellLine_49 : decode cX5_tellLine 49 = .ok (.iconst 4, 1) := dk_12 da_112
theorem dX5_tellLine_50 : decode cX5_tellLine 50 = .ok (.aload_n 0, 1) := dk_13 da_112
theorem dX5_tellLine_51 : decode cX5_tellLine 51 = .ok (.getfield 62, 3) := dk_14 da_112
theorem dX5_tellLine_54 : decode cX5_tellLine 54 = .ok (.invokevirtual 54, 3) := dk_15 da_112
theorem da_113 : fd_G cX5_tellLine 57 [(57, .goto 66, 3), (60, .aload_n 0, 1), (61, .dup, 1), (62, .getfield 35, 3), (65, .iconst 1, 1), (66, .iload_n 1, 1), (67, .ishl, 1), (68, .ior, 1), (69, .putfield 35, 3), (72, .aload_n 0, 1), (73, .invokevirtual 41, 3), (76, .iload_n 1, 1), (77, .iconst 4, 1), (78, .if_icmp .ne 19, 3), (81, .aload_n 0, 1), (82, .getfield 18, 3)] = true := by decide +kernel
theorem dX5_tellLine_57 : decode cX5_tellLine 57 = .ok (.goto 66, 3) := dk_0 da_113
theorem dX5_tellLine_60 : decode cX5_tellLine 60 = .ok (.aload_n 0, 1) := dk_1 da_113
theorem dX5_tellLine_61 : decode cX5_tellLine 61 = .ok (.dup, 1) := dk_2 da_113
theorem dX5_tellLine_62 : decode cX5_tellLine 62 = .ok (.getfield 35, 3) := dk_3 da_113
theorem dX5_tellLine_65 : decode cX5_tellLine 65 = .ok (.iconst 1, 1) := dk_4 da_113
theorem dX5_tellLine_66 : decode cX5_tellLine 66 = .ok (.iload_n 1, 1) := dk_5 da_113
theorem dX5_tellLine_67 : decode cX5_tellLine 67 = .ok (.ishl, 1) := dk_6 da_113
theorem dX5_tellLine_68 : decode cX5_tellLine 68 = .ok (.ior, 1) := dk_7 da_113
theorem dX5_tellLine_69 : decode cX5_tellLine 69 = .ok (.putfield 35, 3) := dk_8 da_113
theorem dX5_tellLine_72 : decode cX5_tellLine 72 = .ok (.aload_n 0, 1) := dk_9 da_113
theorem dX5_tellLine_73 : decode cX5_tellLine 73 = .ok (.invokevirtual 41, 3) := dk_10 da_113
theorem dX5_tellLine_76 : decode cX5_tellLine 76 = .ok (.iload_n 1, 1) := dk_11 da_113
theorem dX5_tellLine_77 : decode cX5_tellLine 77 = .ok (.iconst 4, 1) := dk_12 da_113
theorem dX5_tellLine_78 : decode cX5_tellLine 78 = .ok (.if_icmp .ne 19, 3) := dk_13 da_113
theorem dX5_tellLine_81 : decode cX5_tellLine 81 = .ok (.aload_n 0, 1) := dk_14 da_113
theorem dX5_tellLine_82 : decode cX5_tellLine 82 = .ok (.getfield 18, 3) := dk_15 da_113
theorem da_114 : fd_G cX5_tellLine 85 [(85, .aload_n 0, 1), (86, .iconst 1, 1), (87, .iconst 5, 1), (88, .invokevirtual 69, 3), (91, .putfield 73, 3), (94, .goto 29, 3), (97, .iload_n 1, 1), (98, .iconst 5, 1), (99, .if_icmp .ne 20, 3), (102, .aload_n 0, 1), (103, .getfield 18, 3), (106, .aload_n 0, 1), (107, .iconst 1, 1), (108, .bipush 9, 2), (110, .invokevirtual 69, 3), (113, .putfield 76, 3)] = true := by decide +kernel
theorem dX5_tellLine_85 : decode cX5_tellLine 85 = .ok (.aload_n 0, 1) := dk_0 da_114
theorem dX5_tellLine_86 : decode cX5_tellLine 86 = .ok (.iconst 1, 1) := dk_1 da_114
theorem dX5_tellLine_87 : decode cX5_tellLine 87 = .ok (.iconst 5, 1) := dk_2 da_114
theorem dX5_tellLine_88 : decode cX5_tellLine 88 = .ok (.invokevirtual 69, 3) := dk_3 da_114
theorem dX5_tellLine_91 : decode cX5_tellLine 91 = .ok (.putfield 73, 3) := dk_4 da_114
theorem dX5_tellLine_94 : decode cX5_tellLine 94 = .ok (.goto 29, 3) := dk_5 da_114
theorem dX5_tellLine_97 : decode cX5_tellLine 97 = .ok (.iload_n 1, 1) := dk_6 da_114
theorem dX5_tellLine_98 : decode cX5_tellLine 98 = .ok (.iconst 5, 1) := dk_7 da_114
theorem dX5_tellLine_99 : decode cX5_tellLine 99 = .ok (.if_icmp .ne 20, 3) := dk_8 da_114
theorem dX5_tellLine_102 : decode cX5_tellLine 102 = .ok (.aload_n 0, 1) := dk_9 da_114
theorem dX5_tellLine_103 : decode cX5_tellLine 103 = .ok (.getfield 18, 3) := dk_10 da_114
theorem dX5_tellLine_106 : decode cX5_tellLine 106 = .ok (.aload_n 0, 1) := dk_11 da_114
theorem dX5_tellLine_107 : decode cX5_tellLine 107 = .ok (.iconst 1, 1) := dk_12 da_114
theorem dX5_tellLine_108 : decode cX5_tellLine 108 = .ok (.bipush 9, 2) := dk_13 da_114
theorem dX5_tellLine_110 : decode cX5_tellLine 110 = .ok (.invokevirtual 69, 3) := dk_14 da_114
theorem dX5_tellLine_113 : decode cX5_tellLine 113 = .ok (.putfield 76, 3) := dk_15 da_114
theorem da_115 : fd_G cX5_tellLine 116 [(116, .goto 7, 3), (119, .aload_n 0, 1), (120, .invokevirtual 79, 3), (123, .aload_n 0, 1), (124, .invokevirtual 82, 3), (127, .return_, 1)] = true := by decide +kernel
theorem dX5_tellLine_116 : decode cX5_tellLine 116 = .ok (.goto 7, 3) := dk_0 da_115
theorem dX5_tellLine_119 : decode cX5_tellLine 119 = .ok (.aload_n 0, 1) := dk_1 da_115
theorem dX5_tellLine_120 : decode cX5_tellLine 120 = .ok (.invokevirtual 79, 3) := dk_2 da_115
theorem dX5_tellLine_123 : decode cX5_tellLine 123 = .ok (.aload_n 0, 1) := dk_3 da_115
theorem dX5_tellLine_124 : decode cX5_tellLine 124 = .ok (.invokevirtual 82, 3) := dk_4 da_115
theorem dX5_tellLine_127 : decode cX5_tellLine 127 = .ok (.return_, 1) := dk_5 da_115
theorem da_116 : fd_G cX5_tellOne 0 [(0, .aload_n 0, 1), (1, .getfield 18, 3), (4, .getfield 85, 3), (7, .iconst 5, 1), (8, .if_icmp .lt 13, 3), (11, .aload_n 0, 1), (12, .iconst 5, 1), (13, .aload_n 0, 1), (14, .getfield 62, 3), (17, .invokevirtual 54, 3), (20, .return_, 1), (21, .aload_n 0, 1), (22, .invokevirtual 41, 3), (25, .aload_n 0, 1), (26, .getfield 18, 3), (29, .iload_n 1, 1)] = true := by decide +kernel
theorem dX5_tellOne_0 : decode cX5_tellOne 0 = .ok (.aload_n 0, 1) := dk_0 da_116
theorem dX5_tellOne_1 : decode cX5_tellOne 1 = .ok (.getfield 18, 3) := dk_1 da_116
theorem dX5_tellOne_4 : decode cX5_tellOne 4 = .ok (.getfield 85, 3) := dk_2 da_116
theorem dX5_tellOne_7 : decode cX5_tellOne 7 = .ok (.iconst 5, 1) := dk_3 da_116
theorem dX5_tellOne_8 : decode cX5_tellOne 8 = .ok (.if_icmp .lt 13, 3) := dk_4 da_116
theorem dX5_tellOne_11 : decode cX5_tellOne 11 = .ok (.aload_n 0, 1) := dk_5 da_116
theorem dX5_tellOne_12 : decode cX5_tellOne 12 = .ok (.iconst 5, 1) := dk_6 da_116
theorem dX5_tellOne_13 : decode cX5_tellOne 13 = .ok (.aload_n 0, 1) := dk_7 da_116
theorem dX5_tellOne_14 : decode cX5_tellOne 14 = .ok (.getfield 62, 3) := dk_8 da_116
theorem dX5_tellOne_17 : decode cX5_tellOne 17 = .ok (.invokevirtual 54, 3) := dk_9 da_116
theorem dX5_tellOne_20 : decode cX5_tellOne 20 = .ok (.return_, 1) := dk_10 da_116
theorem dX5_tellOne_21 : decode cX5_tellOne 21 = .ok (.aload_n 0, 1) := dk_11 da_116
theorem dX5_tellOne_22 : decode cX5_tellOne 22 = .ok (.invokevirtual 41, 3) := dk_12 da_116
theorem dX5_tellOne_25 : decode cX5_tellOne 25 = .ok (.aload_n 0, 1) := dk_13 da_116
theorem dX5_tellOne_26 : decode cX5_tellOne 26 = .ok (.getfield 18, 3) := dk_14 da_116
theorem dX5_tellOne_29 : decode cX5_tellOne 29 = .ok (.iload_n 1, 1) := dk_15 da_116
theorem da_117 : fd_G cX5_tellOne 30 [(30, .aload_n 0, 1), (31, .getfield 44, 3), (34, .iconst 2, 1), (35, .if_icmp .ne 13, 3), (38, .aload_n 0, 1), (39, .iconst 0, 1), (40, .bipush 40, 2), (42, .invokevirtual 69, 3), (45, .goto 4, 3), (48, .iconst 0, 1), (49, .invokevirtual 88, 3), (52, .return_, 1)] = true := by decide +kernel
theorem dX5_tellOne_30 : decode cX5_tellOne 30 = .ok (.aload_n 0, 1) := dk_0 da_117
theorem dX5_tellOne_31 : decode cX5_tellOne 31 = .ok (.getfield 44, 3) := dk_1 da_117
theorem dX5_tellOne_34 : decode cX5_tellOne 34 = .ok (.iconst 2, 1) := dk_2 da_117
theorem dX5_tellOne_35 : decode cX5_tellOne 35 = .ok (.if_icmp .ne 13, 3) := dk_3 da_117
theorem dX5_tellOne_38 : decode cX5_tellOne 38 = .ok (.aload_n 0, 1) := dk_4 da_117
theorem dX5_tellOne_39 : decode cX5_tellOne 39 = .ok (.iconst 0, 1) := dk_5 da_117
theorem dX5_tellOne_40 : decode cX5_tellOne 40 = .ok (.bipush 40, 2) := dk_6 da_117
theorem dX5_tellOne_42 : decode cX5_tellOne 42 = .ok (.invokevirtual 69, 3) := dk_7 da_117
theorem dX5_tellOne_45 : decode cX5_tellOne 45 = .ok (.goto 4, 3) := dk_8 da_117
theorem dX5_tellOne_48 : decode cX5_tellOne 48 = .ok (.iconst 0, 1) := dk_9 da_117
theorem dX5_tellOne_49 : decode cX5_tellOne 49 = .ok (.invokevirtual 88, 3) := dk_10 da_117
theorem dX5_tellOne_52 : decode cX5_tellOne 52 = .ok (.return_, 1) := dk_11 da_117
theorem da_118 : fd_G cX5_tellPlan 0 [(0, .iconst 0, 1), (1, .istore_n 1, 1), (2, .iload_n 1, 1), (3, .bipush 8, 2), (5, .if_icmp .gt 57, 3), (8, .aload_n 0, 1), (9, .getfield 29, 3), (12, .ifCond .ne 50, 3), (15, .aload_n 0, 1), (16, .getfield 44, 3), (19, .iconst 2, 1), (20, .if_icmp .ne 42, 3), (23, .iload_n 1, 1), (24, .bipush 8, 2), (26, .if_icmp .ne 15, 3), (29, .aload_n 0, 1)] = true := by decide +kernel
theorem dX5_tellPlan_0 : decode cX5_tellPlan 0 = .ok (.iconst 0, 1) := dk_0 da_118
theorem dX5_tellPlan_1 : decode cX5_tellPlan 1 = .ok (.istore_n 1, 1) := dk_1 da_118
theorem dX5_tellPlan_2 : decode cX5_tellPlan 2 = .ok (.iload_n 1, 1) := dk_2 da_118
theorem dX5_tellPlan_3 : decode cX5_tellPlan 3 = .ok (.bipush 8, 2) := dk_3 da_118
theorem dX5_tellPlan_5 : decode cX5_tellPlan 5 = .ok (.if_icmp .gt 57, 3) := dk_4 da_118
theorem dX5_tellPlan_8 : decode cX5_tellPlan 8 = .ok (.aload_n 0, 1) := dk_5 da_118
theorem dX5_tellPlan_9 : decode cX5_tellPlan 9 = .ok (.getfield 29, 3) := dk_6 da_118
theorem dX5_tellPlan_12 : decode cX5_tellPlan 12 = .ok (.ifCond .ne 50, 3) := dk_7 da_118
theorem dX5_tellPlan_15 : decode cX5_tellPlan 15 = .ok (.aload_n 0, 1) := dk_8 da_118
theorem dX5_tellPlan_16 : decode cX5_tellPlan 16 = .ok (.getfield 44, 3) := dk_9 da_118
theorem dX5_tellPlan_19 : decode cX5_tellPlan 19 = .ok (.iconst 2, 1) := dk_10 da_118
theorem dX5_tellPlan_20 : decode cX5_tellPlan 20 = .ok (.if_icmp .ne 42, 3) := dk_11 da_118
theorem dX5_tellPlan_23 : decode cX5_tellPlan 23 = .ok (.iload_n 1, 1) := dk_12 da_118
theorem dX5_tellPlan_24 : decode cX5_tellPlan 24 = .ok (.bipush 8, 2) := dk_13 da_118
theorem dX5_tellPlan_26 : decode cX5_tellPlan 26 = .ok (.if_icmp .ne 15, 3) := dk_14 da_118
theorem dX5_tellPlan_29 : decode cX5_tellPlan 29 = .ok (.aload_n 0, 1) := dk_15 da_118
theorem da_119 : fd_G cX5_tellPlan 30 [(30, .iconst 5, 1), (31, .aload_n 0, 1), (32, .getfield 62, 3), (35, .invokevirtual 54, 3), (38, .goto 18, 3), (41, .aload_n 0, 1), (42, .getfield 18, 3), (45, .aload_n 0, 1), (46, .iconst 0, 1), (47, .bipush 6, 2), (49, .invokevirtual 69, 3), (52, .invokevirtual 91, 3), (55, .pop, 1), (56, .iinc 1 1, 3), (59, .goto (-57), 3), (62, .return_, 1)] = true := by decide +kernel
theorem dX5_tellPlan_30 : decode cX5_tellPlan 30 = .ok (.iconst 5, 1) := dk_0 da_119
theorem dX5_tellPlan_31 : decode cX5_tellPlan 31 = .ok (.aload_n 0, 1) := dk_1 da_119
theorem dX5_tellPlan_32 : decode cX5_tellPlan 32 = .ok (.getfield 62, 3) := dk_2 da_119
theorem dX5_tellPlan_35 : decode cX5_tellPlan 35 = .ok (.invokevirtual 54, 3) := dk_3 da_119
theorem dX5_tellPlan_38 : decode cX5_tellPlan 38 = .ok (.goto 18, 3) := dk_4 da_119
theorem dX5_tellPlan_41 : decode cX5_tellPlan 41 = .ok (.aload_n 0, 1) := dk_5 da_119
theorem dX5_tellPlan_42 : decode cX5_tellPlan 42 = .ok (.getfield 18, 3) := dk_6 da_119
theorem dX5_tellPlan_45 : decode cX5_tellPlan 45 = .ok (.aload_n 0, 1) := dk_7 da_119
theorem dX5_tellPlan_46 : decode cX5_tellPlan 46 = .ok (.iconst 0, 1) := dk_8 da_119
theorem dX5_tellPlan_47 : decode cX5_tellPlan 47 = .ok (.bipush 6, 2) := dk_9 da_119
theorem dX5_tellPlan_49 : decode cX5_tellPlan 49 = .ok (.invokevirtual 69, 3) := dk_10 da_119
theorem dX5_tellPlan_52 : decode cX5_tellPlan 52 = .ok (.invokevirtual 91, 3) := dk_11 da_119
theorem dX5_tellPlan_55 : decode cX5_tellPlan 55 = .ok (.pop, 1) := dk_12 da_119
theorem dX5_tellPlan_56 : decode cX5_tellPlan 56 = .ok (.iinc 1 1, 3) := dk_13 da_119
theorem dX5_tellPlan_59 : decode cX5_tellPlan 59 = .ok (.goto (-57), 3) := dk_14 da_119
theorem dX5_tellPlan_62 : decode cX5_tellPlan 62 = .ok (.return_, 1) := dk_15 da_119
theorem da_120 : fd_G cX5_takeNumber 0 [(0, .aload_n 0, 1), (1, .getfield 29, 3), (4, .ifCond .eq 5, 3), (7, .iload_n 1, 1), (8, .ireturn, 1), (9, .aload_n 0, 1), (10, .getfield 44, 3), (13, .iconst 2, 1), (14, .if_icmp .eq 14, 3), (17, .aload_n 0, 1), (18, .iconst 2, 1), (19, .aload_n 0, 1), (20, .getfield 62, 3), (23, .invokevirtual 54, 3), (26, .iload_n 1, 1), (27, .ireturn, 1)] = true := by decide +kernel
theorem dX5_takeNumber_0 : decode cX5_takeNumber 0 = .ok (.aload_n 0, 1) := dk_0 da_120
theorem dX5_takeNumber_1 : decode cX5_takeNumber 1 = .ok (.getfield 29, 3) := dk_1 da_120
theorem dX5_takeNumber_4 : decode cX5_takeNumber 4 = .ok (.ifCond .eq 5, 3) := dk_2 da_120
theorem dX5_takeNumber_7 : decode cX5_takeNumber 7 = .ok (.iload_n 1, 1) := dk_3 da_120
theorem dX5_takeNumber_8 : decode cX5_takeNumber 8 = .ok (.ireturn, 1) := dk_4 da_120
theorem dX5_takeNumber_9 : decode cX5_takeNumber 9 = .ok (.aload_n 0, 1) := dk_5 da_120
theorem dX5_takeNumber_10 : decode cX5_takeNumber 10 = .ok (.getfield 44, 3) := dk_6 da_120
theorem dX5_takeNumber_13 : decode cX5_takeNumber 13 = .ok (.iconst 2, 1) := dk_7 da_120
theorem dX5_takeNumber_14 : decode cX5_takeNumber 14 = .ok (.if_icmp .eq 14, 3) := dk_8 da_120
theorem dX5_takeNumber_17 : decode cX5_takeNumber 17 = .ok (.aload_n 0, 1) := dk_9 da_120
theorem dX5_takeNumber_18 : decode cX5_takeNumber 18 = .ok (.iconst 2, 1) := dk_10 da_120
theorem dX5_takeNumber_19 : decode cX5_takeNumber 19 = .ok (.aload_n 0, 1) := dk_11 da_120
theorem dX5_takeNumber_20 : decode cX5_takeNumber 20 = .ok (.getfield 62, 3) := dk_12 da_120
theorem dX5_takeNumber_23 : decode cX5_takeNumber 23 = .ok (.invokevirtual 54, 3) := dk_13 da_120
theorem dX5_takeNumber_26 : decode cX5_takeNumber 26 = .ok (.iload_n 1, 1) := dk_14 da_120
theorem dX5_takeNumber_27 : decode cX5_takeNumber 27 = .ok (.ireturn, 1) := dk_15 da_120
theorem da_121 : fd_G cX5_takeNumber 28 [(28, .aload_n 0, 1), (29, .getfield 95, 3), (32, .iload_n 1, 1), (33, .if_icmp .lt 11, 3), (36, .aload_n 0, 1), (37, .getfield 95, 3), (40, .iload_n 2, 1), (41, .if_icmp .le 14, 3), (44, .aload_n 0, 1), (45, .iconst 3, 1), (46, .aload_n 0, 1), (47, .getfield 62, 3), (50, .invokevirtual 54, 3), (53, .iload_n 1, 1), (54, .ireturn, 1), (55, .aload_n 0, 1)] = true := by decide +kernel
theorem dX5_takeNumber_28 : decode cX5_takeNumber 28 = .ok (.aload_n 0, 1) := dk_0 da_121
theorem dX5_takeNumber_29 : decode cX5_takeNumber 29 = .ok (.getfield 95, 3) := dk_1 da_121
theorem dX5_takeNumber_32 : decode cX5_takeNumber 32 = .ok (.iload_n 1, 1) := dk_2 da_121
theorem dX5_takeNumber_33 : decode cX5_takeNumber 33 = .ok (.if_icmp .lt 11, 3) := dk_3 da_121
theorem dX5_takeNumber_36 : decode cX5_takeNumber 36 = .ok (.aload_n 0, 1) := dk_4 da_121
theorem dX5_takeNumber_37 : decode cX5_takeNumber 37 = .ok (.getfield 95, 3) := dk_5 da_121
theorem dX5_takeNumber_40 : decode cX5_takeNumber 40 = .ok (.iload_n 2, 1) := dk_6 da_121
theorem dX5_takeNumber_41 : decode cX5_takeNumber 41 = .ok (.if_icmp .le 14, 3) := dk_7 da_121
theorem dX5_takeNumber_44 : decode cX5_takeNumber 44 = .ok (.aload_n 0, 1) := dk_8 da_121
theorem dX5_takeNumber_45 : decode cX5_takeNumber 45 = .ok (.iconst 3, 1) := dk_9 da_121
theorem dX5_takeNumber_46 : decode cX5_takeNumber 46 = .ok (.aload_n 0, 1) := dk_10 da_121
theorem dX5_takeNumber_47 : decode cX5_takeNumber 47 = .ok (.getfield 62, 3) := dk_11 da_121
theorem dX5_takeNumber_50 : decode cX5_takeNumber 50 = .ok (.invokevirtual 54, 3) := dk_12 da_121
theorem dX5_takeNumber_53 : decode cX5_takeNumber 53 = .ok (.iload_n 1, 1) := dk_13 da_121
theorem dX5_takeNumber_54 : decode cX5_takeNumber 54 = .ok (.ireturn, 1) := dk_14 da_121
theorem dX5_takeNumber_55 : decode cX5_takeNumber 55 = .ok (.aload_n 0, 1) := dk_15 da_121
theorem da_122 : fd_G cX5_takeNumber 56 [(56, .getfield 95, 3), (59, .istore_n 3, 1), (60, .aload_n 0, 1), (61, .invokevirtual 41, 3), (64, .iload_n 3, 1), (65, .ireturn, 1)] = true := by decide +kernel
theorem dX5_takeNumber_56 : decode cX5_takeNumber 56 = .ok (.getfield 95, 3) := dk_0 da_122
theorem dX5_takeNumber_59 : decode cX5_takeNumber 59 = .ok (.istore_n 3, 1) := dk_1 da_122
theorem dX5_takeNumber_60 : decode cX5_takeNumber 60 = .ok (.aload_n 0, 1) := dk_2 da_122
theorem dX5_takeNumber_61 : decode cX5_takeNumber 61 = .ok (.invokevirtual 41, 3) := dk_3 da_122
theorem dX5_takeNumber_64 : decode cX5_takeNumber 64 = .ok (.iload_n 3, 1) := dk_4 da_122
theorem dX5_takeNumber_65 : decode cX5_takeNumber 65 = .ok (.ireturn, 1) := dk_5 da_122
theorem da_123 : fd_G cX5_takeSemicolon 0 [(0, .aload_n 0, 1), (1, .getfield 29, 3), (4, .ifCond .eq 4, 3), (7, .return_, 1), (8, .aload_n 0, 1), (9, .getfield 44, 3), (12, .iconst 3, 1), (13, .if_icmp .eq 13, 3), (16, .aload_n 0, 1), (17, .iconst 2, 1), (18, .aload_n 0, 1), (19, .getfield 62, 3), (22, .invokevirtual 54, 3), (25, .return_, 1), (26, .aload_n 0, 1), (27, .invokevirtual 41, 3)] = true := by decide +kernel
theorem dX5_takeSemicolon_0 : decode cX5_takeSemicolon 0 = .ok (.aload_n 0, 1) := dk_0 da_123
theorem dX5_takeSemicolon_1 : decode cX5_takeSemicolon 1 = .ok (.getfield 29, 3) := dk_1 da_123
theorem dX5_takeSemicolon_4 : decode cX5_takeSemicolon 4 = .ok (.ifCond .eq 4, 3) := dk_2 da_123
theorem dX5_takeSemicolon_7 : decode cX5_takeSemicolon 7 = .ok (.return_, 1) := dk_3 da_123
theorem dX5_takeSemicolon_8 : decode cX5_takeSemicolon 8 = .ok (.aload_n 0, 1) := dk_4 da_123
theorem dX5_takeSemicolon_9 : decode cX5_takeSemicolon 9 = .ok (.getfield 44, 3) := dk_5 da_123
theorem dX5_takeSemicolon_12 : decode cX5_takeSemicolon 12 = .ok (.iconst 3, 1) := dk_6 da_123
theorem dX5_takeSemicolon_13 : decode cX5_takeSemicolon 13 = .ok (.if_icmp .eq 13, 3) := dk_7 da_123
theorem dX5_takeSemicolon_16 : decode cX5_takeSemicolon 16 = .ok (.aload_n 0, 1) := dk_8 da_123
theorem dX5_takeSemicolon_17 : decode cX5_takeSemicolon 17 = .ok (.iconst 2, 1) := dk_9 da_123
theorem dX5_takeSemicolon_18 : decode cX5_takeSemicolon 18 = .ok (.aload_n 0, 1) := dk_10 da_123
theorem dX5_takeSemicolon_19 : decode cX5_takeSemicolon 19 = .ok (.getfield 62, 3) := dk_11 da_123
theorem dX5_takeSemicolon_22 : decode cX5_takeSemicolon 22 = .ok (.invokevirtual 54, 3) := dk_12 da_123
theorem dX5_takeSemicolon_25 : decode cX5_takeSemicolon 25 = .ok (.return_, 1) := dk_13 da_123
theorem dX5_takeSemicolon_26 : decode cX5_takeSemicolon 26 = .ok (.aload_n 0, 1) := dk_14 da_123
theorem dX5_takeSemicolon_27 : decode cX5_takeSemicolon 27 = .ok (.invokevirtual 41, 3) := dk_15 da_123
theorem da_124 : fd_G cX5_takeSemicolon 30 [(30, .return_, 1)] = true := by decide +kernel
theorem dX5_takeSemicolon_30 : decode cX5_takeSemicolon 30 = .ok (.return_, 1) := dk_0 da_124
theorem da_125 : fd_G cX5_fail 0 [(0, .aload_n 0, 1), (1, .getfield 29, 3), (4, .ifCond .ne 13, 3), (7, .aload_n 0, 1), (8, .iload_n 1, 1), (9, .putfield 29, 3), (12, .aload_n 0, 1), (13, .iload_n 2, 1), (14, .putfield 32, 3), (17, .return_, 1)] = true := by decide +kernel
theorem dX5_fail_0 : decode cX5_fail 0 = .ok (.aload_n 0, 1) := dk_0 da_125
theorem dX5_fail_1 : decode cX5_fail 1 = .ok (.getfield 29, 3) := dk_1 da_125
theorem dX5_fail_4 : decode cX5_fail 4 = .ok (.ifCond .ne 13, 3) := dk_2 da_125
theorem dX5_fail_7 : decode cX5_fail 7 = .ok (.aload_n 0, 1) := dk_3 da_125
theorem dX5_fail_8 : decode cX5_fail 8 = .ok (.iload_n 1, 1) := dk_4 da_125
theorem dX5_fail_9 : decode cX5_fail 9 = .ok (.putfield 29, 3) := dk_5 da_125
theorem dX5_fail_12 : decode cX5_fail 12 = .ok (.aload_n 0, 1) := dk_6 da_125
theorem dX5_fail_13 : decode cX5_fail 13 = .ok (.iload_n 2, 1) := dk_7 da_125
theorem dX5_fail_14 : decode cX5_fail 14 = .ok (.putfield 32, 3) := dk_8 da_125
theorem dX5_fail_17 : decode cX5_fail 17 = .ok (.return_, 1) := dk_9 da_125
theorem da_126 : fd_G cX5_takeToken 0 [(0, .aload_n 0, 1), (1, .getfield 38, 3), (4, .aload_n 0, 1), (5, .getfield 22, 3), (8, .if_icmp .ge 30, 3), (11, .aload_n 0, 1), (12, .getfield 9, 3), (15, .aload_n 0, 1), (16, .getfield 38, 3), (19, .baload, 1), (20, .bipush 32, 2), (22, .if_icmp .ne 16, 3), (25, .aload_n 0, 1), (26, .dup, 1), (27, .getfield 38, 3), (30, .iconst 1, 1)] = true := by decide +kernel
theorem dX5_takeToken_0 : decode cX5_takeToken 0 = .ok (.aload_n 0, 1) := dk_0 da_126
theorem dX5_takeToken_1 : decode cX5_takeToken 1 = .ok (.getfield 38, 3) := dk_1 da_126
theorem dX5_takeToken_4 : decode cX5_takeToken 4 = .ok (.aload_n 0, 1) := dk_2 da_126
theorem dX5_takeToken_5 : decode cX5_takeToken 5 = .ok (.getfield 22, 3) := dk_3 da_126
theorem dX5_takeToken_8 : decode cX5_takeToken 8 = .ok (.if_icmp .ge 30, 3) := dk_4 da_126
theorem dX5_takeToken_11 : decode cX5_takeToken 11 = .ok (.aload_n 0, 1) := dk_5 da_126
theorem dX5_takeToken_12 : decode cX5_takeToken 12 = .ok (.getfield 9, 3) := dk_6 da_126
theorem dX5_takeToken_15 : decode cX5_takeToken 15 = .ok (.aload_n 0, 1) := dk_7 da_126
theorem dX5_takeToken_16 : decode cX5_takeToken 16 = .ok (.getfield 38, 3) := dk_8 da_126
theorem dX5_takeToken_19 : decode cX5_takeToken 19 = .ok (.baload, 1) := dk_9 da_126
theorem dX5_takeToken_20 : decode cX5_takeToken 20 = .ok (.bipush 32, 2) := dk_10 da_126
theorem dX5_takeToken_22 : decode cX5_takeToken 22 = .ok (.if_icmp .ne 16, 3) := dk_11 da_126
theorem dX5_takeToken_25 : decode cX5_takeToken 25 = .ok (.aload_n 0, 1) := dk_12 da_126
theorem dX5_takeToken_26 : decode cX5_takeToken 26 = .ok (.dup, 1) := dk_13 da_126
theorem dX5_takeToken_27 : decode cX5_takeToken 27 = .ok (.getfield 38, 3) := dk_14 da_126
theorem dX5_takeToken_30 : decode cX5_takeToken 30 = .ok (.iconst 1, 1) := dk_15 da_126
theorem da_127 : fd_G cX5_takeToken 31 [(31, .iadd, 1), (32, .putfield 38, 3), (35, .goto (-35), 3), (38, .aload_n 0, 1), (39, .aload_n 0, 1), (40, .getfield 38, 3), (43, .putfield 62, 3), (46, .aload_n 0, 1), (47, .iconst 0, 1), (48, .putfield 95, 3), (51, .aload_n 0, 1), (52, .aload_n 0, 1), (53, .getfield 38, 3), (56, .aload_n 0, 1), (57, .getfield 22, 3), (60, .if_icmp .ge 18, 3)] = true := by decide +kernel
theorem dX5_takeToken_31 : decode cX5_takeToken 31 = .ok (.iadd, 1) := dk_0 da_127
theorem dX5_takeToken_32 : decode cX5_takeToken 32 = .ok (.putfield 38, 3) := dk_1 da_127
theorem dX5_takeToken_35 : decode cX5_takeToken 35 = .ok (.goto (-35), 3) := dk_2 da_127
theorem dX5_takeToken_38 : decode cX5_takeToken 38 = .ok (.aload_n 0, 1) := dk_3 da_127
theorem dX5_takeToken_39 : decode cX5_takeToken 39 = .ok (.aload_n 0, 1) := dk_4 da_127
theorem dX5_takeToken_40 : decode cX5_takeToken 40 = .ok (.getfield 38, 3) := dk_5 da_127
theorem dX5_takeToken_43 : decode cX5_takeToken 43 = .ok (.putfield 62, 3) := dk_6 da_127
theorem dX5_takeToken_46 : decode cX5_takeToken 46 = .ok (.aload_n 0, 1) := dk_7 da_127
theorem dX5_takeToken_47 : decode cX5_takeToken 47 = .ok (.iconst 0, 1) := dk_8 da_127
theorem dX5_takeToken_48 : decode cX5_takeToken 48 = .ok (.putfield 95, 3) := dk_9 da_127
theorem dX5_takeToken_51 : decode cX5_takeToken 51 = .ok (.aload_n 0, 1) := dk_10 da_127
theorem dX5_takeToken_52 : decode cX5_takeToken 52 = .ok (.aload_n 0, 1) := dk_11 da_127
theorem dX5_takeToken_53 : decode cX5_takeToken 53 = .ok (.getfield 38, 3) := dk_12 da_127
theorem dX5_takeToken_56 : decode cX5_takeToken 56 = .ok (.aload_n 0, 1) := dk_13 da_127
theorem dX5_takeToken_57 : decode cX5_takeToken 57 = .ok (.getfield 22, 3) := dk_14 da_127
theorem dX5_takeToken_60 : decode cX5_takeToken 60 = .ok (.if_icmp .ge 18, 3) := dk_15 da_127
theorem da_128 : fd_G cX5_takeToken 63 [(63, .aload_n 0, 1), (64, .getfield 9, 3), (67, .aload_n 0, 1), (68, .getfield 38, 3), (71, .baload, 1), (72, .invokestatic 98, 3), (75, .goto 4, 3), (78, .iconst 0, 1), (79, .putfield 44, 3), (82, .aload_n 0, 1), (83, .getfield 44, 3), (86, .iconst 1, 1), (87, .if_icmp .eq 11, 3), (90, .aload_n 0, 1), (91, .getfield 44, 3), (94, .iconst 2, 1)] = true := by decide +kernel
theorem dX5_takeToken_63 : decode cX5_takeToken 63 = .ok (.aload_n 0, 1) := dk_0 da_128
theorem dX5_takeToken_64 : decode cX5_takeToken 64 = .ok (.getfield 9, 3) := dk_1 da_128
theorem dX5_takeToken_67 : decode cX5_takeToken 67 = .ok (.aload_n 0, 1) := dk_2 da_128
theorem dX5_takeToken_68 : decode cX5_takeToken 68 = .ok (.getfield 38, 3) := dk_3 da_128
theorem dX5_takeToken_71 : decode cX5_takeToken 71 = .ok (.baload, 1) := dk_4 da_128
theorem dX5_takeToken_72 : decode cX5_takeToken 72 = .ok (.invokestatic 98, 3) := dk_5 da_128
theorem dX5_takeToken_75 : decode cX5_takeToken 75 = .ok (.goto 4, 3) := dk_6 da_128
theorem dX5_takeToken_78 : decode cX5_takeToken 78 = .ok (.iconst 0, 1) := dk_7 da_128
theorem dX5_takeToken_79 : decode cX5_takeToken 79 = .ok (.putfield 44, 3) := dk_8 da_128
theorem dX5_takeToken_82 : decode cX5_takeToken 82 = .ok (.aload_n 0, 1) := dk_9 da_128
theorem dX5_takeToken_83 : decode cX5_takeToken 83 = .ok (.getfield 44, 3) := dk_10 da_128
theorem dX5_takeToken_86 : decode cX5_takeToken 86 = .ok (.iconst 1, 1) := dk_11 da_128
theorem dX5_takeToken_87 : decode cX5_takeToken 87 = .ok (.if_icmp .eq 11, 3) := dk_12 da_128
theorem dX5_takeToken_90 : decode cX5_takeToken 90 = .ok (.aload_n 0, 1) := dk_13 da_128
theorem dX5_takeToken_91 : decode cX5_takeToken 91 = .ok (.getfield 44, 3) := dk_14 da_128
theorem dX5_takeToken_94 : decode cX5_takeToken 94 = .ok (.iconst 2, 1) := dk_15 da_128
theorem da_129 : fd_G cX5_takeToken 95 [(95, .if_icmp .ne 7, 3), (98, .iconst 1, 1), (99, .goto 4, 3), (102, .iconst 0, 1), (103, .istore_n 1, 1), (104, .aload_n 0, 1), (105, .getfield 38, 3), (108, .aload_n 0, 1), (109, .getfield 22, 3), (112, .if_icmp .ge 77, 3), (115, .iload_n 1, 1), (116, .ifCond .eq 25, 3), (119, .aload_n 0, 1), (120, .getfield 9, 3), (123, .aload_n 0, 1), (124, .getfield 38, 3)] = true := by decide +kernel
theorem dX5_takeToken_95 : decode cX5_takeToken 95 = .ok (.if_icmp .ne 7, 3) := dk_0 da_129
theorem dX5_takeToken_98 : decode cX5_takeToken 98 = .ok (.iconst 1, 1) := dk_1 da_129
theorem dX5_takeToken_99 : decode cX5_takeToken 99 = .ok (.goto 4, 3) := dk_2 da_129
theorem dX5_takeToken_102 : decode cX5_takeToken 102 = .ok (.iconst 0, 1) := dk_3 da_129
theorem dX5_takeToken_103 : decode cX5_takeToken 103 = .ok (.istore_n 1, 1) := dk_4 da_129
theorem dX5_takeToken_104 : decode cX5_takeToken 104 = .ok (.aload_n 0, 1) := dk_5 da_129
theorem dX5_takeToken_105 : decode cX5_takeToken 105 = .ok (.getfield 38, 3) := dk_6 da_129
theorem dX5_takeToken_108 : decode cX5_takeToken 108 = .ok (.aload_n 0, 1) := dk_7 da_129
theorem dX5_takeToken_109 : decode cX5_takeToken 109 = .ok (.getfield 22, 3) := dk_8 da_129
theorem dX5_takeToken_112 : decode cX5_takeToken 112 = .ok (.if_icmp .ge 77, 3) := dk_9 da_129
theorem dX5_takeToken_115 : decode cX5_takeToken 115 = .ok (.iload_n 1, 1) := dk_10 da_129
theorem dX5_takeToken_116 : decode cX5_takeToken 116 = .ok (.ifCond .eq 25, 3) := dk_11 da_129
theorem dX5_takeToken_119 : decode cX5_takeToken 119 = .ok (.aload_n 0, 1) := dk_12 da_129
theorem dX5_takeToken_120 : decode cX5_takeToken 120 = .ok (.getfield 9, 3) := dk_13 da_129
theorem dX5_takeToken_123 : decode cX5_takeToken 123 = .ok (.aload_n 0, 1) := dk_14 da_129
theorem dX5_takeToken_124 : decode cX5_takeToken 124 = .ok (.getfield 38, 3) := dk_15 da_129
theorem da_130 : fd_G cX5_takeToken 127 [(127, .baload, 1), (128, .invokestatic 98, 3), (131, .aload_n 0, 1), (132, .getfield 44, 3), (135, .if_icmp .ne 54, 3), (138, .goto 14, 3), (141, .aload_n 0, 1), (142, .getfield 38, 3), (145, .aload_n 0, 1), (146, .getfield 62, 3), (149, .if_icmp .ne 40, 3), (152, .aload_n 0, 1), (153, .aload_n 0, 1), (154, .getfield 95, 3), (157, .bipush 10, 2), (159, .imul, 1)] = true := by decide +kernel
theorem dX5_takeToken_127 : decode cX5_takeToken 127 = .ok (.baload, 1) := dk_0 da_130
theorem dX5_takeToken_128 : decode cX5_takeToken 128 = .ok (.invokestatic 98, 3) := dk_1 da_130
theorem dX5_takeToken_131 : decode cX5_takeToken 131 = .ok (.aload_n 0, 1) := dk_2 da_130
theorem dX5_takeToken_132 : decode cX5_takeToken 132 = .ok (.getfield 44, 3) := dk_3 da_130
theorem dX5_takeToken_135 : decode cX5_takeToken 135 = .ok (.if_icmp .ne 54, 3) := dk_4 da_130
theorem dX5_takeToken_138 : decode cX5_takeToken 138 = .ok (.goto 14, 3) := dk_5 da_130
theorem dX5_takeToken_141 : decode cX5_takeToken 141 = .ok (.aload_n 0, 1) := dk_6 da_130
theorem dX5_takeToken_142 : decode cX5_takeToken 142 = .ok (.getfield 38, 3) := dk_7 da_130
theorem dX5_takeToken_145 : decode cX5_takeToken 145 = .ok (.aload_n 0, 1) := dk_8 da_130
theorem dX5_takeToken_146 : decode cX5_takeToken 146 = .ok (.getfield 62, 3) := dk_9 da_130
theorem dX5_takeToken_149 : decode cX5_takeToken 149 = .ok (.if_icmp .ne 40, 3) := dk_10 da_130
theorem dX5_takeToken_152 : decode cX5_takeToken 152 = .ok (.aload_n 0, 1) := dk_11 da_130
theorem dX5_takeToken_153 : decode cX5_takeToken 153 = .ok (.aload_n 0, 1) := dk_12 da_130
theorem dX5_takeToken_154 : decode cX5_takeToken 154 = .ok (.getfield 95, 3) := dk_13 da_130
theorem dX5_takeToken_157 : decode cX5_takeToken 157 = .ok (.bipush 10, 2) := dk_14 da_130
theorem dX5_takeToken_159 : decode cX5_takeToken 159 = .ok (.imul, 1) := dk_15 da_130
theorem da_131 : fd_G cX5_takeToken 160 [(160, .aload_n 0, 1), (161, .getfield 9, 3), (164, .aload_n 0, 1), (165, .getfield 38, 3), (168, .baload, 1), (169, .bipush 48, 2), (171, .isub, 1), (172, .iadd, 1), (173, .putfield 95, 3), (176, .aload_n 0, 1), (177, .dup, 1), (178, .getfield 38, 3), (181, .iconst 1, 1), (182, .iadd, 1), (183, .putfield 38, 3), (186, .goto (-82), 3)] = true := by decide +kernel
theorem dX5_takeToken_160 : decode cX5_takeToken 160 = .ok (.aload_n 0, 1) := dk_0 da_131
theorem dX5_takeToken_161 : decode cX5_takeToken 161 = .ok (.getfield 9, 3) := dk_1 da_131
theorem dX5_takeToken_164 : decode cX5_takeToken 164 = .ok (.aload_n 0, 1) := dk_2 da_131
theorem dX5_takeToken_165 : decode cX5_takeToken 165 = .ok (.getfield 38, 3) := dk_3 da_131
theorem dX5_takeToken_168 : decode cX5_takeToken 168 = .ok (.baload, 1) := dk_4 da_131
theorem dX5_takeToken_169 : decode cX5_takeToken 169 = .ok (.bipush 48, 2) := dk_5 da_131
theorem dX5_takeToken_171 : decode cX5_takeToken 171 = .ok (.isub, 1) := dk_6 da_131
theorem dX5_takeToken_172 : decode cX5_takeToken 172 = .ok (.iadd, 1) := dk_7 da_131
theorem dX5_takeToken_173 : decode cX5_takeToken 173 = .ok (.putfield 95, 3) := dk_8 da_131
theorem dX5_takeToken_176 : decode cX5_takeToken 176 = .ok (.aload_n 0, 1) := dk_9 da_131
theorem dX5_takeToken_177 : decode cX5_takeToken 177 = .ok (.dup, 1) := dk_10 da_131
theorem dX5_takeToken_178 : decode cX5_takeToken 178 = .ok (.getfield 38, 3) := dk_11 da_131
theorem dX5_takeToken_181 : decode cX5_takeToken 181 = .ok (.iconst 1, 1) := dk_12 da_131
theorem dX5_takeToken_182 : decode cX5_takeToken 182 = .ok (.iadd, 1) := dk_13 da_131
theorem dX5_takeToken_183 : decode cX5_takeToken 183 = .ok (.putfield 38, 3) := dk_14 da_131
theorem dX5_takeToken_186 : decode cX5_takeToken 186 = .ok (.goto (-82), 3) := dk_15 da_131
theorem da_132 : fd_G cX5_takeToken 189 [(189, .aload_n 0, 1), (190, .getfield 44, 3), (193, .iconst 2, 1), (194, .if_icmp .ne 21, 3), (197, .aload_n 0, 1), (198, .getfield 38, 3), (201, .aload_n 0, 1), (202, .getfield 62, 3), (205, .isub, 1), (206, .iconst 2, 1), (207, .if_icmp .le 8, 3), (210, .aload_n 0, 1), (211, .iconst 4, 1), (212, .putfield 44, 3), (215, .aload_n 0, 1), (216, .getfield 44, 3)] = true := by decide +kernel
theorem dX5_takeToken_189 : decode cX5_takeToken 189 = .ok (.aload_n 0, 1) := dk_0 da_132
theorem dX5_takeToken_190 : decode cX5_takeToken 190 = .ok (.getfield 44, 3) := dk_1 da_132
theorem dX5_takeToken_193 : decode cX5_takeToken 193 = .ok (.iconst 2, 1) := dk_2 da_132
theorem dX5_takeToken_194 : decode cX5_takeToken 194 = .ok (.if_icmp .ne 21, 3) := dk_3 da_132
theorem dX5_takeToken_197 : decode cX5_takeToken 197 = .ok (.aload_n 0, 1) := dk_4 da_132
theorem dX5_takeToken_198 : decode cX5_takeToken 198 = .ok (.getfield 38, 3) := dk_5 da_132
theorem dX5_takeToken_201 : decode cX5_takeToken 201 = .ok (.aload_n 0, 1) := dk_6 da_132
theorem dX5_takeToken_202 : decode cX5_takeToken 202 = .ok (.getfield 62, 3) := dk_7 da_132
theorem dX5_takeToken_205 : decode cX5_takeToken 205 = .ok (.isub, 1) := dk_8 da_132
theorem dX5_takeToken_206 : decode cX5_takeToken 206 = .ok (.iconst 2, 1) := dk_9 da_132
theorem dX5_takeToken_207 : decode cX5_takeToken 207 = .ok (.if_icmp .le 8, 3) := dk_10 da_132
theorem dX5_takeToken_210 : decode cX5_takeToken 210 = .ok (.aload_n 0, 1) := dk_11 da_132
theorem dX5_takeToken_211 : decode cX5_takeToken 211 = .ok (.iconst 4, 1) := dk_12 da_132
theorem dX5_takeToken_212 : decode cX5_takeToken 212 = .ok (.putfield 44, 3) := dk_13 da_132
theorem dX5_takeToken_215 : decode cX5_takeToken 215 = .ok (.aload_n 0, 1) := dk_14 da_132
theorem dX5_takeToken_216 : decode cX5_takeToken 216 = .ok (.getfield 44, 3) := dk_15 da_132
theorem da_133 : fd_G cX5_takeToken 219 [(219, .iconst 4, 1), (220, .if_icmp .ne 12, 3), (223, .aload_n 0, 1), (224, .iconst 1, 1), (225, .aload_n 0, 1), (226, .getfield 62, 3), (229, .invokevirtual 54, 3), (232, .return_, 1)] = true := by decide +kernel
theorem dX5_takeToken_219 : decode cX5_takeToken 219 = .ok (.iconst 4, 1) := dk_0 da_133
theorem dX5_takeToken_220 : decode cX5_takeToken 220 = .ok (.if_icmp .ne 12, 3) := dk_1 da_133
theorem dX5_takeToken_223 : decode cX5_takeToken 223 = .ok (.aload_n 0, 1) := dk_2 da_133
theorem dX5_takeToken_224 : decode cX5_takeToken 224 = .ok (.iconst 1, 1) := dk_3 da_133
theorem dX5_takeToken_225 : decode cX5_takeToken 225 = .ok (.aload_n 0, 1) := dk_4 da_133
theorem dX5_takeToken_226 : decode cX5_takeToken 226 = .ok (.getfield 62, 3) := dk_5 da_133
theorem dX5_takeToken_229 : decode cX5_takeToken 229 = .ok (.invokevirtual 54, 3) := dk_6 da_133
theorem dX5_takeToken_232 : decode cX5_takeToken 232 = .ok (.return_, 1) := dk_7 da_133
theorem da_134 : fd_G cX5_sortOf 0 [(0, .iload_n 0, 1), (1, .bipush 97, 2), (3, .if_icmp .lt 11, 3), (6, .iload_n 0, 1), (7, .bipush 122, 2), (9, .if_icmp .gt 5, 3), (12, .iconst 1, 1), (13, .ireturn, 1), (14, .iload_n 0, 1), (15, .bipush 48, 2), (17, .if_icmp .lt 11, 3), (20, .iload_n 0, 1), (21, .bipush 57, 2), (23, .if_icmp .gt 5, 3), (26, .iconst 2, 1), (27, .ireturn, 1)] = true := by decide +kernel
theorem dX5_sortOf_0 : decode cX5_sortOf 0 = .ok (.iload_n 0, 1) := dk_0 da_134
theorem dX5_sortOf_1 : decode cX5_sortOf 1 = .ok (.bipush 97, 2) := dk_1 da_134
theorem dX5_sortOf_3 : decode cX5_sortOf 3 = .ok (.if_icmp .lt 11, 3) := dk_2 da_134
theorem dX5_sortOf_6 : decode cX5_sortOf 6 = .ok (.iload_n 0, 1) := dk_3 da_134
theorem dX5_sortOf_7 : decode cX5_sortOf 7 = .ok (.bipush 122, 2) := dk_4 da_134
theorem dX5_sortOf_9 : decode cX5_sortOf 9 = .ok (.if_icmp .gt 5, 3) := dk_5 da_134
theorem dX5_sortOf_12 : decode cX5_sortOf 12 = .ok (.iconst 1, 1) := dk_6 da_134
theorem dX5_sortOf_13 : decode cX5_sortOf 13 = .ok (.ireturn, 1) := dk_7 da_134
theorem dX5_sortOf_14 : decode cX5_sortOf 14 = .ok (.iload_n 0, 1) := dk_8 da_134
theorem dX5_sortOf_15 : decode cX5_sortOf 15 = .ok (.bipush 48, 2) := dk_9 da_134
theorem dX5_sortOf_17 : decode cX5_sortOf 17 = .ok (.if_icmp .lt 11, 3) := dk_10 da_134
theorem dX5_sortOf_20 : decode cX5_sortOf 20 = .ok (.iload_n 0, 1) := dk_11 da_134
theorem dX5_sortOf_21 : decode cX5_sortOf 21 = .ok (.bipush 57, 2) := dk_12 da_134
theorem dX5_sortOf_23 : decode cX5_sortOf 23 = .ok (.if_icmp .gt 5, 3) := dk_13 da_134
theorem dX5_sortOf_26 : decode cX5_sortOf 26 = .ok (.iconst 2, 1) := dk_14 da_134
theorem dX5_sortOf_27 : decode cX5_sortOf 27 = .ok (.ireturn, 1) := dk_15 da_134
theorem da_135 : fd_G cX5_sortOf 28 [(28, .iload_n 0, 1), (29, .bipush 59, 2), (31, .if_icmp .ne 7, 3), (34, .iconst 3, 1), (35, .goto 4, 3), (38, .iconst 4, 1), (39, .ireturn, 1)] = true := by decide +kernel
theorem dX5_sortOf_28 : decode cX5_sortOf 28 = .ok (.iload_n 0, 1) := dk_0 da_135
theorem dX5_sortOf_29 : decode cX5_sortOf 29 = .ok (.bipush 59, 2) := dk_1 da_135
theorem dX5_sortOf_31 : decode cX5_sortOf 31 = .ok (.if_icmp .ne 7, 3) := dk_2 da_135
theorem dX5_sortOf_34 : decode cX5_sortOf 34 = .ok (.iconst 3, 1) := dk_3 da_135
theorem dX5_sortOf_35 : decode cX5_sortOf 35 = .ok (.goto 4, 3) := dk_4 da_135
theorem dX5_sortOf_38 : decode cX5_sortOf 38 = .ok (.iconst 4, 1) := dk_5 da_135
theorem dX5_sortOf_39 : decode cX5_sortOf 39 = .ok (.ireturn, 1) := dk_6 da_135
theorem da_136 : fd_G cX5_lineBegun 0 [(0, .aload_n 0, 1), (1, .getfield 44, 3), (4, .iconst 1, 1), (5, .if_icmp .eq 6, 3), (8, .bipush 7, 2), (10, .ireturn, 1), (11, .iconst 0, 1), (12, .istore_n 1, 1), (13, .iload_n 1, 1), (14, .bipush 7, 2), (16, .if_icmp .ge 22, 3), (19, .aload_n 0, 1), (20, .iload_n 1, 1), (21, .invokestatic 102, 3), (24, .invokevirtual 106, 3), (27, .ifCond .eq 5, 3)] = true := by decide +kernel
theorem dX5_lineBegun_0 : decode cX5_lineBegun 0 = .ok (.aload_n 0, 1) := dk_0 da_136
theorem dX5_lineBegun_1 : decode cX5_lineBegun 1 = .ok (.getfield 44, 3) := dk_1 da_136
theorem dX5_lineBegun_4 : decode cX5_lineBegun 4 = .ok (.iconst 1, 1) := dk_2 da_136
theorem dX5_lineBegun_5 : decode cX5_lineBegun 5 = .ok (.if_icmp .eq 6, 3) := dk_3 da_136
theorem dX5_lineBegun_8 : decode cX5_lineBegun 8 = .ok (.bipush 7, 2) := dk_4 da_136
theorem dX5_lineBegun_10 : decode cX5_lineBegun 10 = .ok (.ireturn, 1) := dk_5 da_136
theorem dX5_lineBegun_11 : decode cX5_lineBegun 11 = .ok (.iconst 0, 1) := dk_6 da_136
theorem dX5_lineBegun_12 : decode cX5_lineBegun 12 = .ok (.istore_n 1, 1) := dk_7 da_136
theorem dX5_lineBegun_13 : decode cX5_lineBegun 13 = .ok (.iload_n 1, 1) := dk_8 da_136
theorem dX5_lineBegun_14 : decode cX5_lineBegun 14 = .ok (.bipush 7, 2) := dk_9 da_136
theorem dX5_lineBegun_16 : decode cX5_lineBegun 16 = .ok (.if_icmp .ge 22, 3) := dk_10 da_136
theorem dX5_lineBegun_19 : decode cX5_lineBegun 19 = .ok (.aload_n 0, 1) := dk_11 da_136
theorem dX5_lineBegun_20 : decode cX5_lineBegun 20 = .ok (.iload_n 1, 1) := dk_12 da_136
theorem dX5_lineBegun_21 : decode cX5_lineBegun 21 = .ok (.invokestatic 102, 3) := dk_13 da_136
theorem dX5_lineBegun_24 : decode cX5_lineBegun 24 = .ok (.invokevirtual 106, 3) := dk_14 da_136
theorem dX5_lineBegun_27 : decode cX5_lineBegun 27 = .ok (.ifCond .eq 5, 3) := dk_15 da_136
theorem da_137 : fd_G cX5_lineBegun 30 [(30, .iload_n 1, 1), (31, .ireturn, 1), (32, .iinc 1 1, 3), (35, .goto (-22), 3), (38, .bipush 7, 2), (40, .ireturn, 1)] = true := by decide +kernel
theorem dX5_lineBegun_30 : decode cX5_lineBegun 30 = .ok (.iload_n 1, 1) := dk_0 da_137
theorem dX5_lineBegun_31 : decode cX5_lineBegun 31 = .ok (.ireturn, 1) := dk_1 da_137
theorem dX5_lineBegun_32 : decode cX5_lineBegun 32 = .ok (.iinc 1 1, 3) := dk_2 da_137
theorem dX5_lineBegun_35 : decode cX5_lineBegun 35 = .ok (.goto (-22), 3) := dk_3 da_137
theorem dX5_lineBegun_38 : decode cX5_lineBegun 38 = .ok (.bipush 7, 2) := dk_4 da_137
theorem dX5_lineBegun_40 : decode cX5_lineBegun 40 = .ok (.ireturn, 1) := dk_5 da_137
theorem dX5_nameOf_1 : decode cX5_nameOf 1 = .ok (.tableswitch 57 0 5 #[39, 42, 45, 48, 51, 54], 39) := by decide +kernel
theorem dX5_nameOf_42 : decode cX5_nameOf 42 = .ok (.areturn, 1) := by decide +kernel
theorem dX5_nameOf_45 : decode cX5_nameOf 45 = .ok (.areturn, 1) := by decide +kernel
theorem dX5_nameOf_48 : decode cX5_nameOf 48 = .ok (.areturn, 1) := by decide +kernel
theorem dX5_nameOf_51 : decode cX5_nameOf 51 = .ok (.areturn, 1) := by decide +kernel
theorem dX5_nameOf_54 : decode cX5_nameOf 54 = .ok (.areturn, 1) := by decide +kernel
theorem dX5_nameOf_57 : decode cX5_nameOf 57 = .ok (.areturn, 1) := by decide +kernel
theorem dX5_nameOf_60 : decode cX5_nameOf 60 = .ok (.areturn, 1) := by decide +kernel
theorem da_138 : fd_G cX5_nameOf 0 [(0, .iload_n 0, 1), (40, .ldc 110, 2), (43, .ldc 112, 2), (46, .ldc 114, 2), (49, .ldc 116, 2), (52, .ldc 118, 2), (55, .ldc 119, 2), (58, .ldc 120, 2)] = true := by decide +kernel
theorem dX5_nameOf_0 : decode cX5_nameOf 0 = .ok (.iload_n 0, 1) := dk_0 da_138
theorem dX5_nameOf_40 : decode cX5_nameOf 40 = .ok (.ldc 110, 2) := dk_1 da_138
theorem dX5_nameOf_43 : decode cX5_nameOf 43 = .ok (.ldc 112, 2) := dk_2 da_138
theorem dX5_nameOf_46 : decode cX5_nameOf 46 = .ok (.ldc 114, 2) := dk_3 da_138
theorem dX5_nameOf_49 : decode cX5_nameOf 49 = .ok (.ldc 116, 2) := dk_4 da_138
theorem dX5_nameOf_52 : decode cX5_nameOf 52 = .ok (.ldc 118, 2) := dk_5 da_138
theorem dX5_nameOf_55 : decode cX5_nameOf 55 = .ok (.ldc 119, 2) := dk_6 da_138
theorem dX5_nameOf_58 : decode cX5_nameOf 58 = .ok (.ldc 120, 2) := dk_7 da_138
theorem da_139 : fd_G cX5_isName 0 [(0, .aload_n 1, 1), (1, .invokevirtual 122, 3), (4, .aload_n 0, 1), (5, .getfield 38, 3), (8, .aload_n 0, 1), (9, .getfield 62, 3), (12, .isub, 1), (13, .if_icmp .eq 5, 3), (16, .iconst 0, 1), (17, .ireturn, 1), (18, .iconst 0, 1), (19, .istore_n 2, 1), (20, .iload_n 2, 1), (21, .aload_n 1, 1), (22, .invokevirtual 122, 3), (25, .if_icmp .ge 30, 3)] = true := by decide +kernel
theorem dX5_isName_0 : decode cX5_isName 0 = .ok (.aload_n 1, 1) := dk_0 da_139
theorem dX5_isName_1 : decode cX5_isName 1 = .ok (.invokevirtual 122, 3) := dk_1 da_139
theorem dX5_isName_4 : decode cX5_isName 4 = .ok (.aload_n 0, 1) := dk_2 da_139
theorem dX5_isName_5 : decode cX5_isName 5 = .ok (.getfield 38, 3) := dk_3 da_139
theorem dX5_isName_8 : decode cX5_isName 8 = .ok (.aload_n 0, 1) := dk_4 da_139
theorem dX5_isName_9 : decode cX5_isName 9 = .ok (.getfield 62, 3) := dk_5 da_139
theorem dX5_isName_12 : decode cX5_isName 12 = .ok (.isub, 1) := dk_6 da_139
theorem dX5_isName_13 : decode cX5_isName 13 = .ok (.if_icmp .eq 5, 3) := dk_7 da_139
theorem dX5_isName_16 : decode cX5_isName 16 = .ok (.iconst 0, 1) := dk_8 da_139
theorem dX5_isName_17 : decode cX5_isName 17 = .ok (.ireturn, 1) := dk_9 da_139
theorem dX5_isName_18 : decode cX5_isName 18 = .ok (.iconst 0, 1) := dk_10 da_139
theorem dX5_isName_19 : decode cX5_isName 19 = .ok (.istore_n 2, 1) := dk_11 da_139
theorem dX5_isName_20 : decode cX5_isName 20 = .ok (.iload_n 2, 1) := dk_12 da_139
theorem dX5_isName_21 : decode cX5_isName 21 = .ok (.aload_n 1, 1) := dk_13 da_139
theorem dX5_isName_22 : decode cX5_isName 22 = .ok (.invokevirtual 122, 3) := dk_14 da_139
theorem dX5_isName_25 : decode cX5_isName 25 = .ok (.if_icmp .ge 30, 3) := dk_15 da_139
theorem da_140 : fd_G cX5_isName 28 [(28, .aload_n 0, 1), (29, .getfield 9, 3), (32, .aload_n 0, 1), (33, .getfield 62, 3), (36, .iload_n 2, 1), (37, .iadd, 1), (38, .baload, 1), (39, .aload_n 1, 1), (40, .iload_n 2, 1), (41, .invokevirtual 126, 3), (44, .if_icmp .eq 5, 3), (47, .iconst 0, 1), (48, .ireturn, 1), (49, .iinc 2 1, 3), (52, .goto (-32), 3), (55, .iconst 1, 1)] = true := by decide +kernel
theorem dX5_isName_28 : decode cX5_isName 28 = .ok (.aload_n 0, 1) := dk_0 da_140
theorem dX5_isName_29 : decode cX5_isName 29 = .ok (.getfield 9, 3) := dk_1 da_140
theorem dX5_isName_32 : decode cX5_isName 32 = .ok (.aload_n 0, 1) := dk_2 da_140
theorem dX5_isName_33 : decode cX5_isName 33 = .ok (.getfield 62, 3) := dk_3 da_140
theorem dX5_isName_36 : decode cX5_isName 36 = .ok (.iload_n 2, 1) := dk_4 da_140
theorem dX5_isName_37 : decode cX5_isName 37 = .ok (.iadd, 1) := dk_5 da_140
theorem dX5_isName_38 : decode cX5_isName 38 = .ok (.baload, 1) := dk_6 da_140
theorem dX5_isName_39 : decode cX5_isName 39 = .ok (.aload_n 1, 1) := dk_7 da_140
theorem dX5_isName_40 : decode cX5_isName 40 = .ok (.iload_n 2, 1) := dk_8 da_140
theorem dX5_isName_41 : decode cX5_isName 41 = .ok (.invokevirtual 126, 3) := dk_9 da_140
theorem dX5_isName_44 : decode cX5_isName 44 = .ok (.if_icmp .eq 5, 3) := dk_10 da_140
theorem dX5_isName_47 : decode cX5_isName 47 = .ok (.iconst 0, 1) := dk_11 da_140
theorem dX5_isName_48 : decode cX5_isName 48 = .ok (.ireturn, 1) := dk_12 da_140
theorem dX5_isName_49 : decode cX5_isName 49 = .ok (.iinc 2 1, 3) := dk_13 da_140
theorem dX5_isName_52 : decode cX5_isName 52 = .ok (.goto (-32), 3) := dk_14 da_140
theorem dX5_isName_55 : decode cX5_isName 55 = .ok (.iconst 1, 1) := dk_15 da_140
theorem da_141 : fd_G cX5_isName 56 [(56, .ireturn, 1)] = true := by decide +kernel
theorem dX5_isName_56 : decode cX5_isName 56 = .ok (.ireturn, 1) := dk_0 da_141
theorem dJ0_length_8abf5_4 : decode cJ0_length_8abf5 4 = .ok (.arraylength, 1) := by decide +kernel
theorem da_142 : fd_G cJ0_length_8abf5 0 [(0, .aload_n 0, 1), (1, .getfield 9, 3), (5, .aload_n 0, 1), (6, .invokevirtual 335, 3), (9, .ishr, 1), (10, .ireturn, 1)] = true := by decide +kernel
theorem dJ0_length_8abf5_0 : decode cJ0_length_8abf5 0 = .ok (.aload_n 0, 1) := dk_0 da_142
theorem dJ0_length_8abf5_1 : decode cJ0_length_8abf5 1 = .ok (.getfield 9, 3) := dk_1 da_142
theorem dJ0_length_8abf5_5 : decode cJ0_length_8abf5 5 = .ok (.aload_n 0, 1) := dk_2 da_142
theorem dJ0_length_8abf5_6 : decode cJ0_length_8abf5 6 = .ok (.invokevirtual 335, 3) := dk_3 da_142
theorem dJ0_length_8abf5_9 : decode cJ0_length_8abf5 9 = .ok (.ishr, 1) := dk_4 da_142
theorem dJ0_length_8abf5_10 : decode cJ0_length_8abf5 10 = .ok (.ireturn, 1) := dk_5 da_142
theorem da_143 : fd_G cJ0_charAt_5068e 0 [(0, .aload_n 0, 1), (1, .invokevirtual 492, 3), (4, .ifCond .eq 12, 3), (7, .aload_n 0, 1), (8, .getfield 9, 3), (11, .iload_n 1, 1), (12, .invokestatic 495, 3), (15, .ireturn, 1), (16, .aload_n 0, 1), (17, .getfield 9, 3), (20, .iload_n 1, 1), (21, .invokestatic 498, 3), (24, .ireturn, 1)] = true := by decide +kernel
theorem dJ0_charAt_5068e_0 : decode cJ0_charAt_5068e 0 = .ok (.aload_n 0, 1) := dk_0 da_143
theorem dJ0_charAt_5068e_1 : decode cJ0_charAt_5068e 1 = .ok (.invokevirtual 492, 3) := dk_1 da_143
theorem dJ0_charAt_5068e_4 : decode cJ0_charAt_5068e 4 = .ok (.ifCond .eq 12, 3) := dk_2 da_143
theorem dJ0_charAt_5068e_7 : decode cJ0_charAt_5068e 7 = .ok (.aload_n 0, 1) := dk_3 da_143
theorem dJ0_charAt_5068e_8 : decode cJ0_charAt_5068e 8 = .ok (.getfield 9, 3) := dk_4 da_143
theorem dJ0_charAt_5068e_11 : decode cJ0_charAt_5068e 11 = .ok (.iload_n 1, 1) := dk_5 da_143
theorem dJ0_charAt_5068e_12 : decode cJ0_charAt_5068e 12 = .ok (.invokestatic 495, 3) := dk_6 da_143
theorem dJ0_charAt_5068e_15 : decode cJ0_charAt_5068e 15 = .ok (.ireturn, 1) := dk_7 da_143
theorem dJ0_charAt_5068e_16 : decode cJ0_charAt_5068e 16 = .ok (.aload_n 0, 1) := dk_8 da_143
theorem dJ0_charAt_5068e_17 : decode cJ0_charAt_5068e 17 = .ok (.getfield 9, 3) := dk_9 da_143
theorem dJ0_charAt_5068e_20 : decode cJ0_charAt_5068e 20 = .ok (.iload_n 1, 1) := dk_10 da_143
theorem dJ0_charAt_5068e_21 : decode cJ0_charAt_5068e 21 = .ok (.invokestatic 498, 3) := dk_11 da_143
theorem dJ0_charAt_5068e_24 : decode cJ0_charAt_5068e 24 = .ok (.ireturn, 1) := dk_12 da_143
theorem dJ0_coder_7d493_0 : decode cJ0_coder_7d493 0 = .ok (.getstatic 38, 3) := by decide +kernel
theorem da_144 : fd_G cJ0_coder_7d493 3 [(3, .ifCond .eq 10, 3), (6, .aload_n 0, 1), (7, .getfield 15, 3), (10, .goto 4, 3), (13, .iconst 1, 1), (14, .ireturn, 1)] = true := by decide +kernel
theorem dJ0_coder_7d493_3 : decode cJ0_coder_7d493 3 = .ok (.ifCond .eq 10, 3) := dk_0 da_144
theorem dJ0_coder_7d493_6 : decode cJ0_coder_7d493 6 = .ok (.aload_n 0, 1) := dk_1 da_144
theorem dJ0_coder_7d493_7 : decode cJ0_coder_7d493 7 = .ok (.getfield 15, 3) := dk_2 da_144
theorem dJ0_coder_7d493_10 : decode cJ0_coder_7d493 10 = .ok (.goto 4, 3) := dk_3 da_144
theorem dJ0_coder_7d493_13 : decode cJ0_coder_7d493 13 = .ok (.iconst 1, 1) := dk_4 da_144
theorem dJ0_coder_7d493_14 : decode cJ0_coder_7d493 14 = .ok (.ireturn, 1) := dk_5 da_144
theorem dJ0_isLatin1_aae02_0 : decode cJ0_isLatin1_aae02 0 = .ok (.getstatic 38, 3) := by decide +kernel
theorem da_145 : fd_G cJ0_isLatin1_aae02 3 [(3, .ifCond .eq 14, 3), (6, .aload_n 0, 1), (7, .getfield 15, 3), (10, .ifCond .ne 7, 3), (13, .iconst 1, 1), (14, .goto 4, 3), (17, .iconst 0, 1), (18, .ireturn, 1)] = true := by decide +kernel
theorem dJ0_isLatin1_aae02_3 : decode cJ0_isLatin1_aae02 3 = .ok (.ifCond .eq 14, 3) := dk_0 da_145
theorem dJ0_isLatin1_aae02_6 : decode cJ0_isLatin1_aae02 6 = .ok (.aload_n 0, 1) := dk_1 da_145
theorem dJ0_isLatin1_aae02_7 : decode cJ0_isLatin1_aae02 7 = .ok (.getfield 15, 3) := dk_2 da_145
theorem dJ0_isLatin1_aae02_10 : decode cJ0_isLatin1_aae02 10 = .ok (.ifCond .ne 7, 3) := dk_3 da_145
theorem dJ0_isLatin1_aae02_13 : decode cJ0_isLatin1_aae02 13 = .ok (.iconst 1, 1) := dk_4 da_145
theorem dJ0_isLatin1_aae02_14 : decode cJ0_isLatin1_aae02 14 = .ok (.goto 4, 3) := dk_5 da_145
theorem dJ0_isLatin1_aae02_17 : decode cJ0_isLatin1_aae02 17 = .ok (.iconst 0, 1) := dk_6 da_145
theorem dJ0_isLatin1_aae02_18 : decode cJ0_isLatin1_aae02 18 = .ok (.ireturn, 1) := dk_7 da_145
theorem dJ0_checkIndex_df160_2 : decode cJ0_checkIndex_df160 2 = .ok (.getstatic 1053, 3) := by decide +kernel
theorem da_146 : fd_G cJ0_checkIndex_df160 0 [(0, .iload_n 0, 1), (1, .iload_n 1, 1), (5, .invokestatic 1059, 3), (8, .pop, 1), (9, .return_, 1)] = true := by decide +kernel
theorem dJ0_checkIndex_df160_0 : decode cJ0_checkIndex_df160 0 = .ok (.iload_n 0, 1) := dk_0 da_146
theorem dJ0_checkIndex_df160_1 : decode cJ0_checkIndex_df160 1 = .ok (.iload_n 1, 1) := dk_1 da_146
theorem dJ0_checkIndex_df160_5 : decode cJ0_checkIndex_df160 5 = .ok (.invokestatic 1059, 3) := dk_2 da_146
theorem dJ0_checkIndex_df160_8 : decode cJ0_checkIndex_df160 8 = .ok (.pop, 1) := dk_3 da_146
theorem dJ0_checkIndex_df160_9 : decode cJ0_checkIndex_df160 9 = .ok (.return_, 1) := dk_4 da_146
theorem dJ1_charAt_3b067_2 : decode cJ1_charAt_3b067 2 = .ok (.arraylength, 1) := by decide +kernel
theorem dJ1_charAt_3b067_13 : decode cJ1_charAt_3b067 13 = .ok (.i2c, 1) := by decide +kernel
theorem da_147 : fd_G cJ1_charAt_3b067 0 [(0, .iload_n 1, 1), (1, .aload_n 0, 1), (3, .invokestatic 9, 3), (6, .aload_n 0, 1), (7, .iload_n 1, 1), (8, .baload, 1), (9, .sipush 255, 3), (12, .iand, 1), (14, .ireturn, 1)] = true := by decide +kernel
theorem dJ1_charAt_3b067_0 : decode cJ1_charAt_3b067 0 = .ok (.iload_n 1, 1) := dk_0 da_147
theorem dJ1_charAt_3b067_1 : decode cJ1_charAt_3b067 1 = .ok (.aload_n 0, 1) := dk_1 da_147
theorem dJ1_charAt_3b067_3 : decode cJ1_charAt_3b067 3 = .ok (.invokestatic 9, 3) := dk_2 da_147
theorem dJ1_charAt_3b067_6 : decode cJ1_charAt_3b067 6 = .ok (.aload_n 0, 1) := dk_3 da_147
theorem dJ1_charAt_3b067_7 : decode cJ1_charAt_3b067 7 = .ok (.iload_n 1, 1) := dk_4 da_147
theorem dJ1_charAt_3b067_8 : decode cJ1_charAt_3b067 8 = .ok (.baload, 1) := dk_5 da_147
theorem dJ1_charAt_3b067_9 : decode cJ1_charAt_3b067 9 = .ok (.sipush 255, 3) := dk_6 da_147
theorem dJ1_charAt_3b067_12 : decode cJ1_charAt_3b067 12 = .ok (.iand, 1) := dk_7 da_147
theorem dJ1_charAt_3b067_14 : decode cJ1_charAt_3b067 14 = .ok (.ireturn, 1) := dk_8 da_147
theorem dJ2_getChar_3b067_0 : decode cJ2_getChar_3b067 0 = .ok (.getstatic 44, 3) := by decide +kernel
theorem dJ2_getChar_3b067_27 : decode cJ2_getChar_3b067 27 = .ok (.athrow, 1) := by decide +kernel
theorem da_148 : fd_G cJ2_getChar_3b067 3 [(3, .ifCond .ne 25, 3), (6, .iload_n 1, 1), (7, .ifCond .lt 11, 3), (10, .iload_n 1, 1), (11, .aload_n 0, 1), (12, .invokestatic 48, 3), (15, .if_icmp .lt 13, 3), (18, .new 52, 3), (21, .dup, 1), (22, .ldc 54, 2), (24, .invokespecial 56, 3), (28, .iload_n 1, 1), (29, .iconst 1, 1), (30, .ishl, 1), (31, .istore_n 1, 1), (32, .aload_n 0, 1)] = true := by decide +kernel
theorem dJ2_getChar_3b067_3 : decode cJ2_getChar_3b067 3 = .ok (.ifCond .ne 25, 3) := dk_0 da_148
theorem dJ2_getChar_3b067_6 : decode cJ2_getChar_3b067 6 = .ok (.iload_n 1, 1) := dk_1 da_148
theorem dJ2_getChar_3b067_7 : decode cJ2_getChar_3b067 7 = .ok (.ifCond .lt 11, 3) := dk_2 da_148
theorem dJ2_getChar_3b067_10 : decode cJ2_getChar_3b067 10 = .ok (.iload_n 1, 1) := dk_3 da_148
theorem dJ2_getChar_3b067_11 : decode cJ2_getChar_3b067 11 = .ok (.aload_n 0, 1) := dk_4 da_148
theorem dJ2_getChar_3b067_12 : decode cJ2_getChar_3b067 12 = .ok (.invokestatic 48, 3) := dk_5 da_148
theorem dJ2_getChar_3b067_15 : decode cJ2_getChar_3b067 15 = .ok (.if_icmp .lt 13, 3) := dk_6 da_148
theorem dJ2_getChar_3b067_18 : decode cJ2_getChar_3b067 18 = .ok (.new 52, 3) := dk_7 da_148
theorem dJ2_getChar_3b067_21 : decode cJ2_getChar_3b067 21 = .ok (.dup, 1) := dk_8 da_148
theorem dJ2_getChar_3b067_22 : decode cJ2_getChar_3b067 22 = .ok (.ldc 54, 2) := dk_9 da_148
theorem dJ2_getChar_3b067_24 : decode cJ2_getChar_3b067 24 = .ok (.invokespecial 56, 3) := dk_10 da_148
theorem dJ2_getChar_3b067_28 : decode cJ2_getChar_3b067 28 = .ok (.iload_n 1, 1) := dk_11 da_148
theorem dJ2_getChar_3b067_29 : decode cJ2_getChar_3b067 29 = .ok (.iconst 1, 1) := dk_12 da_148
theorem dJ2_getChar_3b067_30 : decode cJ2_getChar_3b067 30 = .ok (.ishl, 1) := dk_13 da_148
theorem dJ2_getChar_3b067_31 : decode cJ2_getChar_3b067 31 = .ok (.istore_n 1, 1) := dk_14 da_148
theorem dJ2_getChar_3b067_32 : decode cJ2_getChar_3b067 32 = .ok (.aload_n 0, 1) := dk_15 da_148
theorem dJ2_getChar_3b067_42 : decode cJ2_getChar_3b067 42 = .ok (.getstatic 59, 3) := by decide +kernel
theorem dJ2_getChar_3b067_53 : decode cJ2_getChar_3b067 53 = .ok (.getstatic 63, 3) := by decide +kernel
theorem dJ2_getChar_3b067_58 : decode cJ2_getChar_3b067 58 = .ok (.i2c, 1) := by decide +kernel
theorem da_149 : fd_G cJ2_getChar_3b067 33 [(33, .iload_n 1, 1), (34, .iinc 1 1, 3), (37, .baload, 1), (38, .sipush 255, 3), (41, .iand, 1), (45, .ishl, 1), (46, .aload_n 0, 1), (47, .iload_n 1, 1), (48, .baload, 1), (49, .sipush 255, 3), (52, .iand, 1), (56, .ishl, 1), (57, .ior, 1), (59, .ireturn, 1)] = true := by decide +kernel
theorem dJ2_getChar_3b067_33 : decode cJ2_getChar_3b067 33 = .ok (.iload_n 1, 1) := dk_0 da_149
theorem dJ2_getChar_3b067_34 : decode cJ2_getChar_3b067 34 = .ok (.iinc 1 1, 3) := dk_1 da_149
theorem dJ2_getChar_3b067_37 : decode cJ2_getChar_3b067 37 = .ok (.baload, 1) := dk_2 da_149
theorem dJ2_getChar_3b067_38 : decode cJ2_getChar_3b067 38 = .ok (.sipush 255, 3) := dk_3 da_149
theorem dJ2_getChar_3b067_41 : decode cJ2_getChar_3b067 41 = .ok (.iand, 1) := dk_4 da_149
theorem dJ2_getChar_3b067_45 : decode cJ2_getChar_3b067 45 = .ok (.ishl, 1) := dk_5 da_149
theorem dJ2_getChar_3b067_46 : decode cJ2_getChar_3b067 46 = .ok (.aload_n 0, 1) := dk_6 da_149
theorem dJ2_getChar_3b067_47 : decode cJ2_getChar_3b067 47 = .ok (.iload_n 1, 1) := dk_7 da_149
theorem dJ2_getChar_3b067_48 : decode cJ2_getChar_3b067 48 = .ok (.baload, 1) := dk_8 da_149
theorem dJ2_getChar_3b067_49 : decode cJ2_getChar_3b067 49 = .ok (.sipush 255, 3) := dk_9 da_149
theorem dJ2_getChar_3b067_52 : decode cJ2_getChar_3b067 52 = .ok (.iand, 1) := dk_10 da_149
theorem dJ2_getChar_3b067_56 : decode cJ2_getChar_3b067 56 = .ok (.ishl, 1) := dk_11 da_149
theorem dJ2_getChar_3b067_57 : decode cJ2_getChar_3b067 57 = .ok (.ior, 1) := dk_12 da_149
theorem dJ2_getChar_3b067_59 : decode cJ2_getChar_3b067 59 = .ok (.ireturn, 1) := dk_13 da_149
theorem dJ2_length_9d52b_1 : decode cJ2_length_9d52b 1 = .ok (.arraylength, 1) := by decide +kernel
theorem da_150 : fd_G cJ2_length_9d52b 0 [(0, .aload_n 0, 1), (2, .iconst 1, 1), (3, .ishr, 1), (4, .ireturn, 1)] = true := by decide +kernel
theorem dJ2_length_9d52b_0 : decode cJ2_length_9d52b 0 = .ok (.aload_n 0, 1) := dk_0 da_150
theorem dJ2_length_9d52b_2 : decode cJ2_length_9d52b 2 = .ok (.iconst 1, 1) := dk_1 da_150
theorem dJ2_length_9d52b_3 : decode cJ2_length_9d52b 3 = .ok (.ishr, 1) := dk_2 da_150
theorem dJ2_length_9d52b_4 : decode cJ2_length_9d52b 4 = .ok (.ireturn, 1) := dk_3 da_150
theorem da_151 : fd_G cJ2_charAt_3b067 0 [(0, .iload_n 1, 1), (1, .aload_n 0, 1), (2, .invokestatic 67, 3), (5, .aload_n 0, 1), (6, .iload_n 1, 1), (7, .invokestatic 71, 3), (10, .ireturn, 1)] = true := by decide +kernel
theorem dJ2_charAt_3b067_0 : decode cJ2_charAt_3b067 0 = .ok (.iload_n 1, 1) := dk_0 da_151
theorem dJ2_charAt_3b067_1 : decode cJ2_charAt_3b067 1 = .ok (.aload_n 0, 1) := dk_1 da_151
theorem dJ2_charAt_3b067_2 : decode cJ2_charAt_3b067 2 = .ok (.invokestatic 67, 3) := dk_2 da_151
theorem dJ2_charAt_3b067_5 : decode cJ2_charAt_3b067 5 = .ok (.aload_n 0, 1) := dk_3 da_151
theorem dJ2_charAt_3b067_6 : decode cJ2_charAt_3b067 6 = .ok (.iload_n 1, 1) := dk_4 da_151
theorem dJ2_charAt_3b067_7 : decode cJ2_charAt_3b067 7 = .ok (.invokestatic 71, 3) := dk_5 da_151
theorem dJ2_charAt_3b067_10 : decode cJ2_charAt_3b067 10 = .ok (.ireturn, 1) := dk_6 da_151
theorem da_152 : fd_G cJ2_checkIndex_2214a 0 [(0, .iload_n 0, 1), (1, .aload_n 1, 1), (2, .invokestatic 48, 3), (5, .invokestatic 414, 3), (8, .return_, 1)] = true := by decide +kernel
theorem dJ2_checkIndex_2214a_0 : decode cJ2_checkIndex_2214a 0 = .ok (.iload_n 0, 1) := dk_0 da_152
theorem dJ2_checkIndex_2214a_1 : decode cJ2_checkIndex_2214a 1 = .ok (.aload_n 1, 1) := dk_1 da_152
theorem dJ2_checkIndex_2214a_2 : decode cJ2_checkIndex_2214a 2 = .ok (.invokestatic 48, 3) := dk_2 da_152
theorem dJ2_checkIndex_2214a_5 : decode cJ2_checkIndex_2214a 5 = .ok (.invokestatic 414, 3) := dk_3 da_152
theorem dJ2_checkIndex_2214a_8 : decode cJ2_checkIndex_2214a 8 = .ok (.return_, 1) := dk_4 da_152
theorem dJ3_checkIndex_8e157_15 : decode cJ3_checkIndex_8e157 15 = .ok (.athrow, 1) := by decide +kernel
theorem da_153 : fd_G cJ3_checkIndex_8e157 0 [(0, .iload_n 0, 1), (1, .ifCond .lt 8, 3), (4, .iload_n 0, 1), (5, .iload_n 1, 1), (6, .if_icmp .lt 10, 3), (9, .aload_n 2, 1), (10, .iload_n 0, 1), (11, .iload_n 1, 1), (12, .invokestatic 95, 3), (16, .iload_n 0, 1), (17, .ireturn, 1)] = true := by decide +kernel
theorem dJ3_checkIndex_8e157_0 : decode cJ3_checkIndex_8e157 0 = .ok (.iload_n 0, 1) := dk_0 da_153
theorem dJ3_checkIndex_8e157_1 : decode cJ3_checkIndex_8e157 1 = .ok (.ifCond .lt 8, 3) := dk_1 da_153
theorem dJ3_checkIndex_8e157_4 : decode cJ3_checkIndex_8e157 4 = .ok (.iload_n 0, 1) := dk_2 da_153
theorem dJ3_checkIndex_8e157_5 : decode cJ3_checkIndex_8e157 5 = .ok (.iload_n 1, 1) := dk_3 da_153
theorem dJ3_checkIndex_8e157_6 : decode cJ3_checkIndex_8e157 6 = .ok (.if_icmp .lt 10, 3) := dk_4 da_153
theorem dJ3_checkIndex_8e157_9 : decode cJ3_checkIndex_8e157 9 = .ok (.aload_n 2, 1) := dk_5 da_153
theorem dJ3_checkIndex_8e157_10 : decode cJ3_checkIndex_8e157 10 = .ok (.iload_n 0, 1) := dk_6 da_153
theorem dJ3_checkIndex_8e157_11 : decode cJ3_checkIndex_8e157 11 = .ok (.iload_n 1, 1) := dk_7 da_153
theorem dJ3_checkIndex_8e157_12 : decode cJ3_checkIndex_8e157 12 = .ok (.invokestatic 95, 3) := dk_8 da_153
theorem dJ3_checkIndex_8e157_16 : decode cJ3_checkIndex_8e157 16 = .ok (.iload_n 0, 1) := dk_9 da_153
theorem dJ3_checkIndex_8e157_17 : decode cJ3_checkIndex_8e157 17 = .ok (.ireturn, 1) := dk_10 da_153
theorem dJ6_bitCount_0f7a4_3 : decode cJ6_bitCount_0f7a4 3 = .ok (.iushr, 1) := by decide +kernel
theorem dJ6_bitCount_0f7a4_4 : decode cJ6_bitCount_0f7a4 4 = .ok (.ldc_w 265, 3) := by decide +kernel
theorem dJ6_bitCount_0f7a4_9 : decode cJ6_bitCount_0f7a4 9 = .ok (.istore_n 0, 1) := by decide +kernel
theorem dJ6_bitCount_0f7a4_11 : decode cJ6_bitCount_0f7a4 11 = .ok (.ldc_w 266, 3) := by decide +kernel
theorem dJ6_bitCount_0f7a4_17 : decode cJ6_bitCount_0f7a4 17 = .ok (.iushr, 1) := by decide +kernel
theorem dJ6_bitCount_0f7a4_18 : decode cJ6_bitCount_0f7a4 18 = .ok (.ldc_w 266, 3) := by decide +kernel
theorem dJ6_bitCount_0f7a4_23 : decode cJ6_bitCount_0f7a4 23 = .ok (.istore_n 0, 1) := by decide +kernel
theorem dJ6_bitCount_0f7a4_27 : decode cJ6_bitCount_0f7a4 27 = .ok (.iushr, 1) := by decide +kernel
theorem dJ6_bitCount_0f7a4_29 : decode cJ6_bitCount_0f7a4 29 = .ok (.ldc_w 267, 3) := by decide +kernel
theorem da_154 : fd_G cJ6_bitCount_0f7a4 0 [(0, .iload_n 0, 1), (1, .iload_n 0, 1), (2, .iconst 1, 1), (7, .iand, 1), (8, .isub, 1), (10, .iload_n 0, 1), (14, .iand, 1), (15, .iload_n 0, 1), (16, .iconst 2, 1), (21, .iand, 1), (22, .iadd, 1), (24, .iload_n 0, 1), (25, .iload_n 0, 1), (26, .iconst 4, 1), (28, .iadd, 1), (32, .iand, 1)] = true := by decide +kernel
theorem dJ6_bitCount_0f7a4_0 : decode cJ6_bitCount_0f7a4 0 = .ok (.iload_n 0, 1) := dk_0 da_154
theorem dJ6_bitCount_0f7a4_1 : decode cJ6_bitCount_0f7a4 1 = .ok (.iload_n 0, 1) := dk_1 da_154
theorem dJ6_bitCount_0f7a4_2 : decode cJ6_bitCount_0f7a4 2 = .ok (.iconst 1, 1) := dk_2 da_154
theorem dJ6_bitCount_0f7a4_7 : decode cJ6_bitCount_0f7a4 7 = .ok (.iand, 1) := dk_3 da_154
theorem dJ6_bitCount_0f7a4_8 : decode cJ6_bitCount_0f7a4 8 = .ok (.isub, 1) := dk_4 da_154
theorem dJ6_bitCount_0f7a4_10 : decode cJ6_bitCount_0f7a4 10 = .ok (.iload_n 0, 1) := dk_5 da_154
theorem dJ6_bitCount_0f7a4_14 : decode cJ6_bitCount_0f7a4 14 = .ok (.iand, 1) := dk_6 da_154
theorem dJ6_bitCount_0f7a4_15 : decode cJ6_bitCount_0f7a4 15 = .ok (.iload_n 0, 1) := dk_7 da_154
theorem dJ6_bitCount_0f7a4_16 : decode cJ6_bitCount_0f7a4 16 = .ok (.iconst 2, 1) := dk_8 da_154
theorem dJ6_bitCount_0f7a4_21 : decode cJ6_bitCount_0f7a4 21 = .ok (.iand, 1) := dk_9 da_154
theorem dJ6_bitCount_0f7a4_22 : decode cJ6_bitCount_0f7a4 22 = .ok (.iadd, 1) := dk_10 da_154
theorem dJ6_bitCount_0f7a4_24 : decode cJ6_bitCount_0f7a4 24 = .ok (.iload_n 0, 1) := dk_11 da_154
theorem dJ6_bitCount_0f7a4_25 : decode cJ6_bitCount_0f7a4 25 = .ok (.iload_n 0, 1) := dk_12 da_154
theorem dJ6_bitCount_0f7a4_26 : decode cJ6_bitCount_0f7a4 26 = .ok (.iconst 4, 1) := dk_13 da_154
theorem dJ6_bitCount_0f7a4_28 : decode cJ6_bitCount_0f7a4 28 = .ok (.iadd, 1) := dk_14 da_154
theorem dJ6_bitCount_0f7a4_32 : decode cJ6_bitCount_0f7a4 32 = .ok (.iand, 1) := dk_15 da_154
theorem dJ6_bitCount_0f7a4_33 : decode cJ6_bitCount_0f7a4 33 = .ok (.istore_n 0, 1) := by decide +kernel
theorem dJ6_bitCount_0f7a4_38 : decode cJ6_bitCount_0f7a4 38 = .ok (.iushr, 1) := by decide +kernel
theorem dJ6_bitCount_0f7a4_40 : decode cJ6_bitCount_0f7a4 40 = .ok (.istore_n 0, 1) := by decide +kernel
theorem dJ6_bitCount_0f7a4_45 : decode cJ6_bitCount_0f7a4 45 = .ok (.iushr, 1) := by decide +kernel
theorem dJ6_bitCount_0f7a4_47 : decode cJ6_bitCount_0f7a4 47 = .ok (.istore_n 0, 1) := by decide +kernel
theorem da_155 : fd_G cJ6_bitCount_0f7a4 34 [(34, .iload_n 0, 1), (35, .iload_n 0, 1), (36, .bipush 8, 2), (39, .iadd, 1), (41, .iload_n 0, 1), (42, .iload_n 0, 1), (43, .bipush 16, 2), (46, .iadd, 1), (48, .iload_n 0, 1), (49, .bipush 63, 2), (51, .iand, 1), (52, .ireturn, 1)] = true := by decide +kernel
theorem dJ6_bitCount_0f7a4_34 : decode cJ6_bitCount_0f7a4 34 = .ok (.iload_n 0, 1) := dk_0 da_155
theorem dJ6_bitCount_0f7a4_35 : decode cJ6_bitCount_0f7a4 35 = .ok (.iload_n 0, 1) := dk_1 da_155
theorem dJ6_bitCount_0f7a4_36 : decode cJ6_bitCount_0f7a4 36 = .ok (.bipush 8, 2) := dk_2 da_155
theorem dJ6_bitCount_0f7a4_39 : decode cJ6_bitCount_0f7a4 39 = .ok (.iadd, 1) := dk_3 da_155
theorem dJ6_bitCount_0f7a4_41 : decode cJ6_bitCount_0f7a4 41 = .ok (.iload_n 0, 1) := dk_4 da_155
theorem dJ6_bitCount_0f7a4_42 : decode cJ6_bitCount_0f7a4 42 = .ok (.iload_n 0, 1) := dk_5 da_155
theorem dJ6_bitCount_0f7a4_43 : decode cJ6_bitCount_0f7a4 43 = .ok (.bipush 16, 2) := dk_6 da_155
theorem dJ6_bitCount_0f7a4_46 : decode cJ6_bitCount_0f7a4 46 = .ok (.iadd, 1) := dk_7 da_155
theorem dJ6_bitCount_0f7a4_48 : decode cJ6_bitCount_0f7a4 48 = .ok (.iload_n 0, 1) := dk_8 da_155
theorem dJ6_bitCount_0f7a4_49 : decode cJ6_bitCount_0f7a4 49 = .ok (.bipush 63, 2) := dk_9 da_155
theorem dJ6_bitCount_0f7a4_51 : decode cJ6_bitCount_0f7a4 51 = .ok (.iand, 1) := dk_10 da_155
theorem dJ6_bitCount_0f7a4_52 : decode cJ6_bitCount_0f7a4 52 = .ok (.ireturn, 1) := dk_11 da_155
theorem dJ7_fill_d0a16_3 : decode cJ7_fill_d0a16 3 = .ok (.arraylength, 1) := by decide +kernel
theorem dJ7_fill_d0a16_14 : decode cJ7_fill_d0a16 14 = .ok (.lload_n 1, 1) := by decide +kernel
theorem dJ7_fill_d0a16_15 : decode cJ7_fill_d0a16 15 = .ok (.lastore, 1) := by decide +kernel
theorem da_156 : fd_G cJ7_fill_d0a16 0 [(0, .iconst 0, 1), (1, .istore_n 3, 1), (2, .aload_n 0, 1), (4, .istore 4, 2), (6, .iload_n 3, 1), (7, .iload 4, 2), (9, .if_icmp .ge 13, 3), (12, .aload_n 0, 1), (13, .iload_n 3, 1), (16, .iinc 3 1, 3), (19, .goto (-13), 3), (22, .return_, 1)] = true := by decide +kernel
theorem dJ7_fill_d0a16_0 : decode cJ7_fill_d0a16 0 = .ok (.iconst 0, 1) := dk_0 da_156
theorem dJ7_fill_d0a16_1 : decode cJ7_fill_d0a16 1 = .ok (.istore_n 3, 1) := dk_1 da_156
theorem dJ7_fill_d0a16_2 : decode cJ7_fill_d0a16 2 = .ok (.aload_n 0, 1) := dk_2 da_156
theorem dJ7_fill_d0a16_4 : decode cJ7_fill_d0a16 4 = .ok (.istore 4, 2) := dk_3 da_156
theorem dJ7_fill_d0a16_6 : decode cJ7_fill_d0a16 6 = .ok (.iload_n 3, 1) := dk_4 da_156
theorem dJ7_fill_d0a16_7 : decode cJ7_fill_d0a16 7 = .ok (.iload 4, 2) := dk_5 da_156
theorem dJ7_fill_d0a16_9 : decode cJ7_fill_d0a16 9 = .ok (.if_icmp .ge 13, 3) := dk_6 da_156
theorem dJ7_fill_d0a16_12 : decode cJ7_fill_d0a16 12 = .ok (.aload_n 0, 1) := dk_7 da_156
theorem dJ7_fill_d0a16_13 : decode cJ7_fill_d0a16 13 = .ok (.iload_n 3, 1) := dk_8 da_156
theorem dJ7_fill_d0a16_16 : decode cJ7_fill_d0a16 16 = .ok (.iinc 3 1, 3) := dk_9 da_156
theorem dJ7_fill_d0a16_19 : decode cJ7_fill_d0a16 19 = .ok (.goto (-13), 3) := dk_10 da_156
theorem dJ7_fill_d0a16_22 : decode cJ7_fill_d0a16 22 = .ok (.return_, 1) := dk_11 da_156
theorem dJ7_fill_53178_3 : decode cJ7_fill_53178 3 = .ok (.arraylength, 1) := by decide +kernel
theorem da_157 : fd_G cJ7_fill_53178 0 [(0, .iconst 0, 1), (1, .istore_n 2, 1), (2, .aload_n 0, 1), (4, .istore_n 3, 1), (5, .iload_n 2, 1), (6, .iload_n 3, 1), (7, .if_icmp .ge 13, 3), (10, .aload_n 0, 1), (11, .iload_n 2, 1), (12, .iload_n 1, 1), (13, .iastore, 1), (14, .iinc 2 1, 3), (17, .goto (-12), 3), (20, .return_, 1)] = true := by decide +kernel
theorem dJ7_fill_53178_0 : decode cJ7_fill_53178 0 = .ok (.iconst 0, 1) := dk_0 da_157
theorem dJ7_fill_53178_1 : decode cJ7_fill_53178 1 = .ok (.istore_n 2, 1) := dk_1 da_157
theorem dJ7_fill_53178_2 : decode cJ7_fill_53178 2 = .ok (.aload_n 0, 1) := dk_2 da_157
theorem dJ7_fill_53178_4 : decode cJ7_fill_53178 4 = .ok (.istore_n 3, 1) := dk_3 da_157
theorem dJ7_fill_53178_5 : decode cJ7_fill_53178 5 = .ok (.iload_n 2, 1) := dk_4 da_157
theorem dJ7_fill_53178_6 : decode cJ7_fill_53178 6 = .ok (.iload_n 3, 1) := dk_5 da_157
theorem dJ7_fill_53178_7 : decode cJ7_fill_53178 7 = .ok (.if_icmp .ge 13, 3) := dk_6 da_157
theorem dJ7_fill_53178_10 : decode cJ7_fill_53178 10 = .ok (.aload_n 0, 1) := dk_7 da_157
theorem dJ7_fill_53178_11 : decode cJ7_fill_53178 11 = .ok (.iload_n 2, 1) := dk_8 da_157
theorem dJ7_fill_53178_12 : decode cJ7_fill_53178 12 = .ok (.iload_n 1, 1) := dk_9 da_157
theorem dJ7_fill_53178_13 : decode cJ7_fill_53178 13 = .ok (.iastore, 1) := dk_10 da_157
theorem dJ7_fill_53178_14 : decode cJ7_fill_53178 14 = .ok (.iinc 2 1, 3) := dk_11 da_157
theorem dJ7_fill_53178_17 : decode cJ7_fill_53178 17 = .ok (.goto (-12), 3) := dk_12 da_157
theorem dJ7_fill_53178_20 : decode cJ7_fill_53178 20 = .ok (.return_, 1) := dk_13 da_157
theorem da_158 : fd_G cJ9_max_7cf53 0 [(0, .iload_n 0, 1), (1, .iload_n 1, 1), (2, .if_icmp .lt 7, 3), (5, .iload_n 0, 1), (6, .goto 4, 3), (9, .iload_n 1, 1), (10, .ireturn, 1)] = true := by decide +kernel
theorem dJ9_max_7cf53_0 : decode cJ9_max_7cf53 0 = .ok (.iload_n 0, 1) := dk_0 da_158
theorem dJ9_max_7cf53_1 : decode cJ9_max_7cf53 1 = .ok (.iload_n 1, 1) := dk_1 da_158
theorem dJ9_max_7cf53_2 : decode cJ9_max_7cf53 2 = .ok (.if_icmp .lt 7, 3) := dk_2 da_158
theorem dJ9_max_7cf53_5 : decode cJ9_max_7cf53 5 = .ok (.iload_n 0, 1) := dk_3 da_158
theorem dJ9_max_7cf53_6 : decode cJ9_max_7cf53 6 = .ok (.goto 4, 3) := dk_4 da_158
theorem dJ9_max_7cf53_9 : decode cJ9_max_7cf53 9 = .ok (.iload_n 1, 1) := dk_5 da_158
theorem dJ9_max_7cf53_10 : decode cJ9_max_7cf53 10 = .ok (.ireturn, 1) := dk_6 da_158
theorem da_159 : fd_G cJ9_min_7cf53 0 [(0, .iload_n 0, 1), (1, .iload_n 1, 1), (2, .if_icmp .gt 7, 3), (5, .iload_n 0, 1), (6, .goto 4, 3), (9, .iload_n 1, 1), (10, .ireturn, 1)] = true := by decide +kernel
theorem dJ9_min_7cf53_0 : decode cJ9_min_7cf53 0 = .ok (.iload_n 0, 1) := dk_0 da_159
theorem dJ9_min_7cf53_1 : decode cJ9_min_7cf53 1 = .ok (.iload_n 1, 1) := dk_1 da_159
theorem dJ9_min_7cf53_2 : decode cJ9_min_7cf53 2 = .ok (.if_icmp .gt 7, 3) := dk_2 da_159
theorem dJ9_min_7cf53_5 : decode cJ9_min_7cf53 5 = .ok (.iload_n 0, 1) := dk_3 da_159
theorem dJ9_min_7cf53_6 : decode cJ9_min_7cf53 6 = .ok (.goto 4, 3) := dk_4 da_159
theorem dJ9_min_7cf53_9 : decode cJ9_min_7cf53 9 = .ok (.iload_n 1, 1) := dk_5 da_159
theorem dJ9_min_7cf53_10 : decode cJ9_min_7cf53 10 = .ok (.ireturn, 1) := dk_6 da_159
