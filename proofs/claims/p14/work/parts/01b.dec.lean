theorem da_0 : (decode cX1_init 0 = .ok (.aload_n 0, 1)) ∧ (decode cX1_init 1 = .ok (.invokespecial 3, 3)) ∧ (decode cX1_init 4 = .ok (.aload_n 0, 1)) ∧ (decode cX1_init 5 = .ok (.iconst 5, 1)) ∧ (decode cX1_init 6 = .ok (.newarray .int, 2)) ∧ (decode cX1_init 8 = .ok (.putfield 9, 3)) ∧ (decode cX1_init 11 = .ok (.aload_n 0, 1)) ∧ (decode cX1_init 12 = .ok (.iconst 5, 1)) ∧ (decode cX1_init 13 = .ok (.newarray .int, 2)) ∧ (decode cX1_init 15 = .ok (.putfield 15, 3)) := by decide +kernel
theorem dX1_init_0 : decode cX1_init 0 = .ok (.aload_n 0, 1) := da_0.1
theorem dX1_init_1 : decode cX1_init 1 = .ok (.invokespecial 3, 3) := da_0.2.1
theorem dX1_init_4 : decode cX1_init 4 = .ok (.aload_n 0, 1) := da_0.2.2.1
theorem dX1_init_5 : decode cX1_init 5 = .ok (.iconst 5, 1) := da_0.2.2.2.1
theorem dX1_init_6 : decode cX1_init 6 = .ok (.newarray .int, 2) := da_0.2.2.2.2.1
theorem dX1_init_8 : decode cX1_init 8 = .ok (.putfield 9, 3) := da_0.2.2.2.2.2.1
theorem dX1_init_11 : decode cX1_init 11 = .ok (.aload_n 0, 1) := da_0.2.2.2.2.2.2.1
theorem dX1_init_12 : decode cX1_init 12 = .ok (.iconst 5, 1) := da_0.2.2.2.2.2.2.2.1
theorem dX1_init_13 : decode cX1_init 13 = .ok (.newarray .int, 2) := da_0.2.2.2.2.2.2.2.2.1
theorem dX1_init_15 : decode cX1_init 15 = .ok (.putfield 15, 3) := da_0.2.2.2.2.2.2.2.2.2
theorem da_10 : (decode cX1_init 18 = .ok (.aload_n 0, 1)) ∧ (decode cX1_init 19 = .ok (.iconst 5, 1)) ∧ (decode cX1_init 20 = .ok (.newarray .int, 2)) ∧ (decode cX1_init 22 = .ok (.putfield 18, 3)) ∧ (decode cX1_init 25 = .ok (.aload_n 0, 1)) ∧ (decode cX1_init 26 = .ok (.bipush 8, 2)) ∧ (decode cX1_init 28 = .ok (.newarray .int, 2)) ∧ (decode cX1_init 30 = .ok (.putfield 21, 3)) ∧ (decode cX1_init 33 = .ok (.aload_n 0, 1)) ∧ (decode cX1_init 34 = .ok (.iconst 5, 1)) := by decide +kernel
theorem dX1_init_18 : decode cX1_init 18 = .ok (.aload_n 0, 1) := da_10.1
theorem dX1_init_19 : decode cX1_init 19 = .ok (.iconst 5, 1) := da_10.2.1
theorem dX1_init_20 : decode cX1_init 20 = .ok (.newarray .int, 2) := da_10.2.2.1
theorem dX1_init_22 : decode cX1_init 22 = .ok (.putfield 18, 3) := da_10.2.2.2.1
theorem dX1_init_25 : decode cX1_init 25 = .ok (.aload_n 0, 1) := da_10.2.2.2.2.1
theorem dX1_init_26 : decode cX1_init 26 = .ok (.bipush 8, 2) := da_10.2.2.2.2.2.1
theorem dX1_init_28 : decode cX1_init 28 = .ok (.newarray .int, 2) := da_10.2.2.2.2.2.2.1
theorem dX1_init_30 : decode cX1_init 30 = .ok (.putfield 21, 3) := da_10.2.2.2.2.2.2.2.1
theorem dX1_init_33 : decode cX1_init 33 = .ok (.aload_n 0, 1) := da_10.2.2.2.2.2.2.2.2.1
theorem dX1_init_34 : decode cX1_init 34 = .ok (.iconst 5, 1) := da_10.2.2.2.2.2.2.2.2.2
theorem da_20 : (decode cX1_init 35 = .ok (.newarray .int, 2)) ∧ (decode cX1_init 37 = .ok (.putfield 24, 3)) ∧ (decode cX1_init 40 = .ok (.aload_n 0, 1)) ∧ (decode cX1_init 41 = .ok (.iconst 2, 1)) ∧ (decode cX1_init 42 = .ok (.putfield 27, 3)) ∧ (decode cX1_init 45 = .ok (.aload_n 0, 1)) ∧ (decode cX1_init 46 = .ok (.iconst 4, 1)) ∧ (decode cX1_init 47 = .ok (.putfield 31, 3)) ∧ (decode cX1_init 50 = .ok (.aload_n 0, 1)) ∧ (decode cX1_init 51 = .ok (.bipush (-4), 2)) := by decide +kernel
theorem dX1_init_35 : decode cX1_init 35 = .ok (.newarray .int, 2) := da_20.1
theorem dX1_init_37 : decode cX1_init 37 = .ok (.putfield 24, 3) := da_20.2.1
theorem dX1_init_40 : decode cX1_init 40 = .ok (.aload_n 0, 1) := da_20.2.2.1
theorem dX1_init_41 : decode cX1_init 41 = .ok (.iconst 2, 1) := da_20.2.2.2.1
theorem dX1_init_42 : decode cX1_init 42 = .ok (.putfield 27, 3) := da_20.2.2.2.2.1
theorem dX1_init_45 : decode cX1_init 45 = .ok (.aload_n 0, 1) := da_20.2.2.2.2.2.1
theorem dX1_init_46 : decode cX1_init 46 = .ok (.iconst 4, 1) := da_20.2.2.2.2.2.2.1
theorem dX1_init_47 : decode cX1_init 47 = .ok (.putfield 31, 3) := da_20.2.2.2.2.2.2.2.1
theorem dX1_init_50 : decode cX1_init 50 = .ok (.aload_n 0, 1) := da_20.2.2.2.2.2.2.2.2.1
theorem dX1_init_51 : decode cX1_init 51 = .ok (.bipush (-4), 2) := da_20.2.2.2.2.2.2.2.2.2
theorem da_30 : (decode cX1_init 53 = .ok (.putfield 34, 3)) ∧ (decode cX1_init 56 = .ok (.return_, 1)) ∧ (decode cX1_clear 0 = .ok (.aload_n 0, 1)) ∧ (decode cX1_clear 1 = .ok (.iconst 0, 1)) ∧ (decode cX1_clear 2 = .ok (.putfield 37, 3)) ∧ (decode cX1_clear 5 = .ok (.aload_n 0, 1)) ∧ (decode cX1_clear 6 = .ok (.iconst 0, 1)) ∧ (decode cX1_clear 7 = .ok (.putfield 40, 3)) ∧ (decode cX1_clear 10 = .ok (.aload_n 0, 1)) ∧ (decode cX1_clear 11 = .ok (.iconst 0, 1)) := by decide +kernel
theorem dX1_init_53 : decode cX1_init 53 = .ok (.putfield 34, 3) := da_30.1
theorem dX1_init_56 : decode cX1_init 56 = .ok (.return_, 1) := da_30.2.1
theorem dX1_clear_0 : decode cX1_clear 0 = .ok (.aload_n 0, 1) := da_30.2.2.1
theorem dX1_clear_1 : decode cX1_clear 1 = .ok (.iconst 0, 1) := da_30.2.2.2.1
theorem dX1_clear_2 : decode cX1_clear 2 = .ok (.putfield 37, 3) := da_30.2.2.2.2.1
theorem dX1_clear_5 : decode cX1_clear 5 = .ok (.aload_n 0, 1) := da_30.2.2.2.2.2.1
theorem dX1_clear_6 : decode cX1_clear 6 = .ok (.iconst 0, 1) := da_30.2.2.2.2.2.2.1
theorem dX1_clear_7 : decode cX1_clear 7 = .ok (.putfield 40, 3) := da_30.2.2.2.2.2.2.2.1
theorem dX1_clear_10 : decode cX1_clear 10 = .ok (.aload_n 0, 1) := da_30.2.2.2.2.2.2.2.2.1
theorem dX1_clear_11 : decode cX1_clear 11 = .ok (.iconst 0, 1) := da_30.2.2.2.2.2.2.2.2.2
theorem da_40 : (decode cX1_clear 12 = .ok (.putfield 43, 3)) ∧ (decode cX1_clear 15 = .ok (.aload_n 0, 1)) ∧ (decode cX1_clear 16 = .ok (.iconst 2, 1)) ∧ (decode cX1_clear 17 = .ok (.putfield 27, 3)) ∧ (decode cX1_clear 20 = .ok (.aload_n 0, 1)) ∧ (decode cX1_clear 21 = .ok (.iconst 4, 1)) ∧ (decode cX1_clear 22 = .ok (.putfield 31, 3)) ∧ (decode cX1_clear 25 = .ok (.aload_n 0, 1)) ∧ (decode cX1_clear 26 = .ok (.iconst 0, 1)) ∧ (decode cX1_clear 27 = .ok (.putfield 46, 3)) := by decide +kernel
theorem dX1_clear_12 : decode cX1_clear 12 = .ok (.putfield 43, 3) := da_40.1
theorem dX1_clear_15 : decode cX1_clear 15 = .ok (.aload_n 0, 1) := da_40.2.1
theorem dX1_clear_16 : decode cX1_clear 16 = .ok (.iconst 2, 1) := da_40.2.2.1
theorem dX1_clear_17 : decode cX1_clear 17 = .ok (.putfield 27, 3) := da_40.2.2.2.1
theorem dX1_clear_20 : decode cX1_clear 20 = .ok (.aload_n 0, 1) := da_40.2.2.2.2.1
theorem dX1_clear_21 : decode cX1_clear 21 = .ok (.iconst 4, 1) := da_40.2.2.2.2.2.1
theorem dX1_clear_22 : decode cX1_clear 22 = .ok (.putfield 31, 3) := da_40.2.2.2.2.2.2.1
theorem dX1_clear_25 : decode cX1_clear 25 = .ok (.aload_n 0, 1) := da_40.2.2.2.2.2.2.2.1
theorem dX1_clear_26 : decode cX1_clear 26 = .ok (.iconst 0, 1) := da_40.2.2.2.2.2.2.2.2.1
theorem dX1_clear_27 : decode cX1_clear 27 = .ok (.putfield 46, 3) := da_40.2.2.2.2.2.2.2.2.2
theorem da_50 : (decode cX1_clear 30 = .ok (.aload_n 0, 1)) ∧ (decode cX1_clear 31 = .ok (.invokevirtual 49, 3)) ∧ (decode cX1_clear 34 = .ok (.return_, 1)) ∧ (decode cX1_clearTally 0 = .ok (.aload_n 0, 1)) ∧ (decode cX1_clearTally 1 = .ok (.iconst 0, 1)) ∧ (decode cX1_clearTally 2 = .ok (.putfield 52, 3)) ∧ (decode cX1_clearTally 5 = .ok (.aload_n 0, 1)) ∧ (decode cX1_clearTally 6 = .ok (.iconst 0, 1)) ∧ (decode cX1_clearTally 7 = .ok (.putfield 55, 3)) ∧ (decode cX1_clearTally 10 = .ok (.aload_n 0, 1)) := by decide +kernel
theorem dX1_clear_30 : decode cX1_clear 30 = .ok (.aload_n 0, 1) := da_50.1
theorem dX1_clear_31 : decode cX1_clear 31 = .ok (.invokevirtual 49, 3) := da_50.2.1
theorem dX1_clear_34 : decode cX1_clear 34 = .ok (.return_, 1) := da_50.2.2.1
theorem dX1_clearTally_0 : decode cX1_clearTally 0 = .ok (.aload_n 0, 1) := da_50.2.2.2.1
theorem dX1_clearTally_1 : decode cX1_clearTally 1 = .ok (.iconst 0, 1) := da_50.2.2.2.2.1
theorem dX1_clearTally_2 : decode cX1_clearTally 2 = .ok (.putfield 52, 3) := da_50.2.2.2.2.2.1
theorem dX1_clearTally_5 : decode cX1_clearTally 5 = .ok (.aload_n 0, 1) := da_50.2.2.2.2.2.2.1
theorem dX1_clearTally_6 : decode cX1_clearTally 6 = .ok (.iconst 0, 1) := da_50.2.2.2.2.2.2.2.1
theorem dX1_clearTally_7 : decode cX1_clearTally 7 = .ok (.putfield 55, 3) := da_50.2.2.2.2.2.2.2.2.1
theorem dX1_clearTally_10 : decode cX1_clearTally 10 = .ok (.aload_n 0, 1) := da_50.2.2.2.2.2.2.2.2.2
theorem da_60 : (decode cX1_clearTally 11 = .ok (.bipush (-4), 2)) ∧ (decode cX1_clearTally 13 = .ok (.putfield 34, 3)) ∧ (decode cX1_clearTally 16 = .ok (.return_, 1)) ∧ (decode cX1_copyFrom 0 = .ok (.aload_n 1, 1)) ∧ (decode cX1_copyFrom 1 = .ok (.getfield 9, 3)) ∧ (decode cX1_copyFrom 4 = .ok (.iconst 0, 1)) ∧ (decode cX1_copyFrom 5 = .ok (.aload_n 0, 1)) ∧ (decode cX1_copyFrom 6 = .ok (.getfield 9, 3)) ∧ (decode cX1_copyFrom 9 = .ok (.iconst 0, 1)) ∧ (decode cX1_copyFrom 10 = .ok (.iconst 5, 1)) := by decide +kernel
theorem dX1_clearTally_11 : decode cX1_clearTally 11 = .ok (.bipush (-4), 2) := da_60.1
theorem dX1_clearTally_13 : decode cX1_clearTally 13 = .ok (.putfield 34, 3) := da_60.2.1
theorem dX1_clearTally_16 : decode cX1_clearTally 16 = .ok (.return_, 1) := da_60.2.2.1
theorem dX1_copyFrom_0 : decode cX1_copyFrom 0 = .ok (.aload_n 1, 1) := da_60.2.2.2.1
theorem dX1_copyFrom_1 : decode cX1_copyFrom 1 = .ok (.getfield 9, 3) := da_60.2.2.2.2.1
theorem dX1_copyFrom_4 : decode cX1_copyFrom 4 = .ok (.iconst 0, 1) := da_60.2.2.2.2.2.1
theorem dX1_copyFrom_5 : decode cX1_copyFrom 5 = .ok (.aload_n 0, 1) := da_60.2.2.2.2.2.2.1
theorem dX1_copyFrom_6 : decode cX1_copyFrom 6 = .ok (.getfield 9, 3) := da_60.2.2.2.2.2.2.2.1
theorem dX1_copyFrom_9 : decode cX1_copyFrom 9 = .ok (.iconst 0, 1) := da_60.2.2.2.2.2.2.2.2.1
theorem dX1_copyFrom_10 : decode cX1_copyFrom 10 = .ok (.iconst 5, 1) := da_60.2.2.2.2.2.2.2.2.2
theorem da_70 : (decode cX1_copyFrom 11 = .ok (.invokestatic 58, 3)) ∧ (decode cX1_copyFrom 14 = .ok (.aload_n 1, 1)) ∧ (decode cX1_copyFrom 15 = .ok (.getfield 15, 3)) ∧ (decode cX1_copyFrom 18 = .ok (.iconst 0, 1)) ∧ (decode cX1_copyFrom 19 = .ok (.aload_n 0, 1)) ∧ (decode cX1_copyFrom 20 = .ok (.getfield 15, 3)) ∧ (decode cX1_copyFrom 23 = .ok (.iconst 0, 1)) ∧ (decode cX1_copyFrom 24 = .ok (.iconst 5, 1)) ∧ (decode cX1_copyFrom 25 = .ok (.invokestatic 58, 3)) ∧ (decode cX1_copyFrom 28 = .ok (.aload_n 1, 1)) := by decide +kernel
theorem dX1_copyFrom_11 : decode cX1_copyFrom 11 = .ok (.invokestatic 58, 3) := da_70.1
theorem dX1_copyFrom_14 : decode cX1_copyFrom 14 = .ok (.aload_n 1, 1) := da_70.2.1
theorem dX1_copyFrom_15 : decode cX1_copyFrom 15 = .ok (.getfield 15, 3) := da_70.2.2.1
theorem dX1_copyFrom_18 : decode cX1_copyFrom 18 = .ok (.iconst 0, 1) := da_70.2.2.2.1
theorem dX1_copyFrom_19 : decode cX1_copyFrom 19 = .ok (.aload_n 0, 1) := da_70.2.2.2.2.1
theorem dX1_copyFrom_20 : decode cX1_copyFrom 20 = .ok (.getfield 15, 3) := da_70.2.2.2.2.2.1
theorem dX1_copyFrom_23 : decode cX1_copyFrom 23 = .ok (.iconst 0, 1) := da_70.2.2.2.2.2.2.1
theorem dX1_copyFrom_24 : decode cX1_copyFrom 24 = .ok (.iconst 5, 1) := da_70.2.2.2.2.2.2.2.1
theorem dX1_copyFrom_25 : decode cX1_copyFrom 25 = .ok (.invokestatic 58, 3) := da_70.2.2.2.2.2.2.2.2.1
theorem dX1_copyFrom_28 : decode cX1_copyFrom 28 = .ok (.aload_n 1, 1) := da_70.2.2.2.2.2.2.2.2.2
theorem da_80 : (decode cX1_copyFrom 29 = .ok (.getfield 18, 3)) ∧ (decode cX1_copyFrom 32 = .ok (.iconst 0, 1)) ∧ (decode cX1_copyFrom 33 = .ok (.aload_n 0, 1)) ∧ (decode cX1_copyFrom 34 = .ok (.getfield 18, 3)) ∧ (decode cX1_copyFrom 37 = .ok (.iconst 0, 1)) ∧ (decode cX1_copyFrom 38 = .ok (.iconst 5, 1)) ∧ (decode cX1_copyFrom 39 = .ok (.invokestatic 58, 3)) ∧ (decode cX1_copyFrom 42 = .ok (.aload_n 1, 1)) ∧ (decode cX1_copyFrom 43 = .ok (.getfield 21, 3)) ∧ (decode cX1_copyFrom 46 = .ok (.iconst 0, 1)) := by decide +kernel
theorem dX1_copyFrom_29 : decode cX1_copyFrom 29 = .ok (.getfield 18, 3) := da_80.1
theorem dX1_copyFrom_32 : decode cX1_copyFrom 32 = .ok (.iconst 0, 1) := da_80.2.1
theorem dX1_copyFrom_33 : decode cX1_copyFrom 33 = .ok (.aload_n 0, 1) := da_80.2.2.1
theorem dX1_copyFrom_34 : decode cX1_copyFrom 34 = .ok (.getfield 18, 3) := da_80.2.2.2.1
theorem dX1_copyFrom_37 : decode cX1_copyFrom 37 = .ok (.iconst 0, 1) := da_80.2.2.2.2.1
theorem dX1_copyFrom_38 : decode cX1_copyFrom 38 = .ok (.iconst 5, 1) := da_80.2.2.2.2.2.1
theorem dX1_copyFrom_39 : decode cX1_copyFrom 39 = .ok (.invokestatic 58, 3) := da_80.2.2.2.2.2.2.1
theorem dX1_copyFrom_42 : decode cX1_copyFrom 42 = .ok (.aload_n 1, 1) := da_80.2.2.2.2.2.2.2.1
theorem dX1_copyFrom_43 : decode cX1_copyFrom 43 = .ok (.getfield 21, 3) := da_80.2.2.2.2.2.2.2.2.1
theorem dX1_copyFrom_46 : decode cX1_copyFrom 46 = .ok (.iconst 0, 1) := da_80.2.2.2.2.2.2.2.2.2
theorem da_90 : (decode cX1_copyFrom 47 = .ok (.aload_n 0, 1)) ∧ (decode cX1_copyFrom 48 = .ok (.getfield 21, 3)) ∧ (decode cX1_copyFrom 51 = .ok (.iconst 0, 1)) ∧ (decode cX1_copyFrom 52 = .ok (.bipush 8, 2)) ∧ (decode cX1_copyFrom 54 = .ok (.invokestatic 58, 3)) ∧ (decode cX1_copyFrom 57 = .ok (.aload_n 0, 1)) ∧ (decode cX1_copyFrom 58 = .ok (.aload_n 1, 1)) ∧ (decode cX1_copyFrom 59 = .ok (.getfield 37, 3)) ∧ (decode cX1_copyFrom 62 = .ok (.putfield 37, 3)) ∧ (decode cX1_copyFrom 65 = .ok (.aload_n 0, 1)) := by decide +kernel
theorem dX1_copyFrom_47 : decode cX1_copyFrom 47 = .ok (.aload_n 0, 1) := da_90.1
theorem dX1_copyFrom_48 : decode cX1_copyFrom 48 = .ok (.getfield 21, 3) := da_90.2.1
theorem dX1_copyFrom_51 : decode cX1_copyFrom 51 = .ok (.iconst 0, 1) := da_90.2.2.1
theorem dX1_copyFrom_52 : decode cX1_copyFrom 52 = .ok (.bipush 8, 2) := da_90.2.2.2.1
theorem dX1_copyFrom_54 : decode cX1_copyFrom 54 = .ok (.invokestatic 58, 3) := da_90.2.2.2.2.1
theorem dX1_copyFrom_57 : decode cX1_copyFrom 57 = .ok (.aload_n 0, 1) := da_90.2.2.2.2.2.1
theorem dX1_copyFrom_58 : decode cX1_copyFrom 58 = .ok (.aload_n 1, 1) := da_90.2.2.2.2.2.2.1
theorem dX1_copyFrom_59 : decode cX1_copyFrom 59 = .ok (.getfield 37, 3) := da_90.2.2.2.2.2.2.2.1
theorem dX1_copyFrom_62 : decode cX1_copyFrom 62 = .ok (.putfield 37, 3) := da_90.2.2.2.2.2.2.2.2.1
theorem dX1_copyFrom_65 : decode cX1_copyFrom 65 = .ok (.aload_n 0, 1) := da_90.2.2.2.2.2.2.2.2.2
theorem da_100 : (decode cX1_copyFrom 66 = .ok (.aload_n 1, 1)) ∧ (decode cX1_copyFrom 67 = .ok (.getfield 40, 3)) ∧ (decode cX1_copyFrom 70 = .ok (.putfield 40, 3)) ∧ (decode cX1_copyFrom 73 = .ok (.aload_n 0, 1)) ∧ (decode cX1_copyFrom 74 = .ok (.aload_n 1, 1)) ∧ (decode cX1_copyFrom 75 = .ok (.getfield 43, 3)) ∧ (decode cX1_copyFrom 78 = .ok (.putfield 43, 3)) ∧ (decode cX1_copyFrom 81 = .ok (.aload_n 0, 1)) ∧ (decode cX1_copyFrom 82 = .ok (.aload_n 1, 1)) ∧ (decode cX1_copyFrom 83 = .ok (.getfield 27, 3)) := by decide +kernel
theorem dX1_copyFrom_66 : decode cX1_copyFrom 66 = .ok (.aload_n 1, 1) := da_100.1
theorem dX1_copyFrom_67 : decode cX1_copyFrom 67 = .ok (.getfield 40, 3) := da_100.2.1
theorem dX1_copyFrom_70 : decode cX1_copyFrom 70 = .ok (.putfield 40, 3) := da_100.2.2.1
theorem dX1_copyFrom_73 : decode cX1_copyFrom 73 = .ok (.aload_n 0, 1) := da_100.2.2.2.1
theorem dX1_copyFrom_74 : decode cX1_copyFrom 74 = .ok (.aload_n 1, 1) := da_100.2.2.2.2.1
theorem dX1_copyFrom_75 : decode cX1_copyFrom 75 = .ok (.getfield 43, 3) := da_100.2.2.2.2.2.1
theorem dX1_copyFrom_78 : decode cX1_copyFrom 78 = .ok (.putfield 43, 3) := da_100.2.2.2.2.2.2.1
theorem dX1_copyFrom_81 : decode cX1_copyFrom 81 = .ok (.aload_n 0, 1) := da_100.2.2.2.2.2.2.2.1
theorem dX1_copyFrom_82 : decode cX1_copyFrom 82 = .ok (.aload_n 1, 1) := da_100.2.2.2.2.2.2.2.2.1
theorem dX1_copyFrom_83 : decode cX1_copyFrom 83 = .ok (.getfield 27, 3) := da_100.2.2.2.2.2.2.2.2.2
theorem da_110 : (decode cX1_copyFrom 86 = .ok (.putfield 27, 3)) ∧ (decode cX1_copyFrom 89 = .ok (.aload_n 0, 1)) ∧ (decode cX1_copyFrom 90 = .ok (.aload_n 1, 1)) ∧ (decode cX1_copyFrom 91 = .ok (.getfield 31, 3)) ∧ (decode cX1_copyFrom 94 = .ok (.putfield 31, 3)) ∧ (decode cX1_copyFrom 97 = .ok (.aload_n 0, 1)) ∧ (decode cX1_copyFrom 98 = .ok (.aload_n 1, 1)) ∧ (decode cX1_copyFrom 99 = .ok (.getfield 46, 3)) ∧ (decode cX1_copyFrom 102 = .ok (.putfield 46, 3)) ∧ (decode cX1_copyFrom 105 = .ok (.aload_n 0, 1)) := by decide +kernel
theorem dX1_copyFrom_86 : decode cX1_copyFrom 86 = .ok (.putfield 27, 3) := da_110.1
theorem dX1_copyFrom_89 : decode cX1_copyFrom 89 = .ok (.aload_n 0, 1) := da_110.2.1
theorem dX1_copyFrom_90 : decode cX1_copyFrom 90 = .ok (.aload_n 1, 1) := da_110.2.2.1
theorem dX1_copyFrom_91 : decode cX1_copyFrom 91 = .ok (.getfield 31, 3) := da_110.2.2.2.1
theorem dX1_copyFrom_94 : decode cX1_copyFrom 94 = .ok (.putfield 31, 3) := da_110.2.2.2.2.1
theorem dX1_copyFrom_97 : decode cX1_copyFrom 97 = .ok (.aload_n 0, 1) := da_110.2.2.2.2.2.1
theorem dX1_copyFrom_98 : decode cX1_copyFrom 98 = .ok (.aload_n 1, 1) := da_110.2.2.2.2.2.2.1
theorem dX1_copyFrom_99 : decode cX1_copyFrom 99 = .ok (.getfield 46, 3) := da_110.2.2.2.2.2.2.2.1
theorem dX1_copyFrom_102 : decode cX1_copyFrom 102 = .ok (.putfield 46, 3) := da_110.2.2.2.2.2.2.2.2.1
theorem dX1_copyFrom_105 : decode cX1_copyFrom 105 = .ok (.aload_n 0, 1) := da_110.2.2.2.2.2.2.2.2.2
theorem da_120 : (decode cX1_copyFrom 106 = .ok (.aload_n 1, 1)) ∧ (decode cX1_copyFrom 107 = .ok (.getfield 52, 3)) ∧ (decode cX1_copyFrom 110 = .ok (.putfield 52, 3)) ∧ (decode cX1_copyFrom 113 = .ok (.aload_n 0, 1)) ∧ (decode cX1_copyFrom 114 = .ok (.aload_n 1, 1)) ∧ (decode cX1_copyFrom 115 = .ok (.getfield 55, 3)) ∧ (decode cX1_copyFrom 118 = .ok (.putfield 55, 3)) ∧ (decode cX1_copyFrom 121 = .ok (.aload_n 0, 1)) ∧ (decode cX1_copyFrom 122 = .ok (.aload_n 1, 1)) ∧ (decode cX1_copyFrom 123 = .ok (.getfield 34, 3)) := by decide +kernel
theorem dX1_copyFrom_106 : decode cX1_copyFrom 106 = .ok (.aload_n 1, 1) := da_120.1
theorem dX1_copyFrom_107 : decode cX1_copyFrom 107 = .ok (.getfield 52, 3) := da_120.2.1
theorem dX1_copyFrom_110 : decode cX1_copyFrom 110 = .ok (.putfield 52, 3) := da_120.2.2.1
theorem dX1_copyFrom_113 : decode cX1_copyFrom 113 = .ok (.aload_n 0, 1) := da_120.2.2.2.1
theorem dX1_copyFrom_114 : decode cX1_copyFrom 114 = .ok (.aload_n 1, 1) := da_120.2.2.2.2.1
theorem dX1_copyFrom_115 : decode cX1_copyFrom 115 = .ok (.getfield 55, 3) := da_120.2.2.2.2.2.1
theorem dX1_copyFrom_118 : decode cX1_copyFrom 118 = .ok (.putfield 55, 3) := da_120.2.2.2.2.2.2.1
theorem dX1_copyFrom_121 : decode cX1_copyFrom 121 = .ok (.aload_n 0, 1) := da_120.2.2.2.2.2.2.2.1
theorem dX1_copyFrom_122 : decode cX1_copyFrom 122 = .ok (.aload_n 1, 1) := da_120.2.2.2.2.2.2.2.2.1
theorem dX1_copyFrom_123 : decode cX1_copyFrom 123 = .ok (.getfield 34, 3) := da_120.2.2.2.2.2.2.2.2.2
theorem da_130 : (decode cX1_copyFrom 126 = .ok (.putfield 34, 3)) ∧ (decode cX1_copyFrom 129 = .ok (.return_, 1)) ∧ (decode cX1_startFrom 0 = .ok (.aload_n 0, 1)) ∧ (decode cX1_startFrom 1 = .ok (.aload_n 1, 1)) ∧ (decode cX1_startFrom 2 = .ok (.invokevirtual 64, 3)) ∧ (decode cX1_startFrom 5 = .ok (.aload_n 0, 1)) ∧ (decode cX1_startFrom 6 = .ok (.invokevirtual 49, 3)) ∧ (decode cX1_startFrom 9 = .ok (.return_, 1)) ∧ (decode cX1_isThere 0 = .ok (.iload_n 1, 1)) ∧ (decode cX1_isThere 1 = .ok (.ifCond .lt 15, 3)) := by decide +kernel
theorem dX1_copyFrom_126 : decode cX1_copyFrom 126 = .ok (.putfield 34, 3) := da_130.1
theorem dX1_copyFrom_129 : decode cX1_copyFrom 129 = .ok (.return_, 1) := da_130.2.1
theorem dX1_startFrom_0 : decode cX1_startFrom 0 = .ok (.aload_n 0, 1) := da_130.2.2.1
theorem dX1_startFrom_1 : decode cX1_startFrom 1 = .ok (.aload_n 1, 1) := da_130.2.2.2.1
theorem dX1_startFrom_2 : decode cX1_startFrom 2 = .ok (.invokevirtual 64, 3) := da_130.2.2.2.2.1
theorem dX1_startFrom_5 : decode cX1_startFrom 5 = .ok (.aload_n 0, 1) := da_130.2.2.2.2.2.1
theorem dX1_startFrom_6 : decode cX1_startFrom 6 = .ok (.invokevirtual 49, 3) := da_130.2.2.2.2.2.2.1
theorem dX1_startFrom_9 : decode cX1_startFrom 9 = .ok (.return_, 1) := da_130.2.2.2.2.2.2.2.1
theorem dX1_isThere_0 : decode cX1_isThere 0 = .ok (.iload_n 1, 1) := da_130.2.2.2.2.2.2.2.2.1
theorem dX1_isThere_1 : decode cX1_isThere 1 = .ok (.ifCond .lt 15, 3) := da_130.2.2.2.2.2.2.2.2.2
theorem da_140 : (decode cX1_isThere 4 = .ok (.iload_n 1, 1)) ∧ (decode cX1_isThere 5 = .ok (.aload_n 0, 1)) ∧ (decode cX1_isThere 6 = .ok (.getfield 37, 3)) ∧ (decode cX1_isThere 9 = .ok (.if_icmp .ge 7, 3)) ∧ (decode cX1_isThere 12 = .ok (.iconst 1, 1)) ∧ (decode cX1_isThere 13 = .ok (.goto 4, 3)) ∧ (decode cX1_isThere 16 = .ok (.iconst 0, 1)) ∧ (decode cX1_isThere 17 = .ok (.ireturn, 1)) ∧ (decode cX1_waits 0 = .ok (.iload_n 1, 1)) ∧ (decode cX1_waits 1 = .ok (.ifCond .lt 26, 3)) := by decide +kernel
theorem dX1_isThere_4 : decode cX1_isThere 4 = .ok (.iload_n 1, 1) := da_140.1
theorem dX1_isThere_5 : decode cX1_isThere 5 = .ok (.aload_n 0, 1) := da_140.2.1
theorem dX1_isThere_6 : decode cX1_isThere 6 = .ok (.getfield 37, 3) := da_140.2.2.1
theorem dX1_isThere_9 : decode cX1_isThere 9 = .ok (.if_icmp .ge 7, 3) := da_140.2.2.2.1
theorem dX1_isThere_12 : decode cX1_isThere 12 = .ok (.iconst 1, 1) := da_140.2.2.2.2.1
theorem dX1_isThere_13 : decode cX1_isThere 13 = .ok (.goto 4, 3) := da_140.2.2.2.2.2.1
theorem dX1_isThere_16 : decode cX1_isThere 16 = .ok (.iconst 0, 1) := da_140.2.2.2.2.2.2.1
theorem dX1_isThere_17 : decode cX1_isThere 17 = .ok (.ireturn, 1) := da_140.2.2.2.2.2.2.2.1
theorem dX1_waits_0 : decode cX1_waits 0 = .ok (.iload_n 1, 1) := da_140.2.2.2.2.2.2.2.2.1
theorem dX1_waits_1 : decode cX1_waits 1 = .ok (.ifCond .lt 26, 3) := da_140.2.2.2.2.2.2.2.2.2
theorem da_150 : (decode cX1_waits 4 = .ok (.iload_n 1, 1)) ∧ (decode cX1_waits 5 = .ok (.aload_n 0, 1)) ∧ (decode cX1_waits 6 = .ok (.getfield 37, 3)) ∧ (decode cX1_waits 9 = .ok (.if_icmp .ge 18, 3)) ∧ (decode cX1_waits 12 = .ok (.aload_n 0, 1)) ∧ (decode cX1_waits 13 = .ok (.getfield 40, 3)) ∧ (decode cX1_waits 16 = .ok (.iload_n 1, 1)) ∧ (decode cX1_waits 17 = .ok (.ishr, 1)) ∧ (decode cX1_waits 18 = .ok (.iconst 1, 1)) ∧ (decode cX1_waits 19 = .ok (.iand, 1)) := by decide +kernel
theorem dX1_waits_4 : decode cX1_waits 4 = .ok (.iload_n 1, 1) := da_150.1
theorem dX1_waits_5 : decode cX1_waits 5 = .ok (.aload_n 0, 1) := da_150.2.1
theorem dX1_waits_6 : decode cX1_waits 6 = .ok (.getfield 37, 3) := da_150.2.2.1
theorem dX1_waits_9 : decode cX1_waits 9 = .ok (.if_icmp .ge 18, 3) := da_150.2.2.2.1
theorem dX1_waits_12 : decode cX1_waits 12 = .ok (.aload_n 0, 1) := da_150.2.2.2.2.1
theorem dX1_waits_13 : decode cX1_waits 13 = .ok (.getfield 40, 3) := da_150.2.2.2.2.2.1
theorem dX1_waits_16 : decode cX1_waits 16 = .ok (.iload_n 1, 1) := da_150.2.2.2.2.2.2.1
theorem dX1_waits_17 : decode cX1_waits 17 = .ok (.ishr, 1) := da_150.2.2.2.2.2.2.2.1
theorem dX1_waits_18 : decode cX1_waits 18 = .ok (.iconst 1, 1) := da_150.2.2.2.2.2.2.2.2.1
theorem dX1_waits_19 : decode cX1_waits 19 = .ok (.iand, 1) := da_150.2.2.2.2.2.2.2.2.2
theorem da_160 : (decode cX1_waits 20 = .ok (.ifCond .ne 7, 3)) ∧ (decode cX1_waits 23 = .ok (.iconst 1, 1)) ∧ (decode cX1_waits 24 = .ok (.goto 4, 3)) ∧ (decode cX1_waits 27 = .ok (.iconst 0, 1)) ∧ (decode cX1_waits 28 = .ok (.ireturn, 1)) ∧ (decode cX1_isAct 0 = .ok (.aload_n 0, 1)) ∧ (decode cX1_isAct 1 = .ok (.iload_n 1, 1)) ∧ (decode cX1_isAct 2 = .ok (.invokevirtual 68, 3)) ∧ (decode cX1_isAct 5 = .ok (.ifCond .ne 14, 3)) ∧ (decode cX1_isAct 8 = .ok (.iload_n 1, 1)) := by decide +kernel
theorem dX1_waits_20 : decode cX1_waits 20 = .ok (.ifCond .ne 7, 3) := da_160.1
theorem dX1_waits_23 : decode cX1_waits 23 = .ok (.iconst 1, 1) := da_160.2.1
theorem dX1_waits_24 : decode cX1_waits 24 = .ok (.goto 4, 3) := da_160.2.2.1
theorem dX1_waits_27 : decode cX1_waits 27 = .ok (.iconst 0, 1) := da_160.2.2.2.1
theorem dX1_waits_28 : decode cX1_waits 28 = .ok (.ireturn, 1) := da_160.2.2.2.2.1
theorem dX1_isAct_0 : decode cX1_isAct 0 = .ok (.aload_n 0, 1) := da_160.2.2.2.2.2.1
theorem dX1_isAct_1 : decode cX1_isAct 1 = .ok (.iload_n 1, 1) := da_160.2.2.2.2.2.2.1
theorem dX1_isAct_2 : decode cX1_isAct 2 = .ok (.invokevirtual 68, 3) := da_160.2.2.2.2.2.2.2.1
theorem dX1_isAct_5 : decode cX1_isAct 5 = .ok (.ifCond .ne 14, 3) := da_160.2.2.2.2.2.2.2.2.1
theorem dX1_isAct_8 : decode cX1_isAct 8 = .ok (.iload_n 1, 1) := da_160.2.2.2.2.2.2.2.2.2
theorem da_170 : (decode cX1_isAct 9 = .ok (.iconst 5, 1)) ∧ (decode cX1_isAct 10 = .ok (.if_icmp .eq 9, 3)) ∧ (decode cX1_isAct 13 = .ok (.iload_n 1, 1)) ∧ (decode cX1_isAct 14 = .ok (.bipush 6, 2)) ∧ (decode cX1_isAct 16 = .ok (.if_icmp .ne 7, 3)) ∧ (decode cX1_isAct 19 = .ok (.iconst 1, 1)) ∧ (decode cX1_isAct 20 = .ok (.goto 4, 3)) ∧ (decode cX1_isAct 23 = .ok (.iconst 0, 1)) ∧ (decode cX1_isAct 24 = .ok (.ireturn, 1)) ∧ (decode cX1_brim 0 = .ok (.getstatic 72, 3)) := by decide +kernel
theorem dX1_isAct_9 : decode cX1_isAct 9 = .ok (.iconst 5, 1) := da_170.1
theorem dX1_isAct_10 : decode cX1_isAct 10 = .ok (.if_icmp .eq 9, 3) := da_170.2.1
theorem dX1_isAct_13 : decode cX1_isAct 13 = .ok (.iload_n 1, 1) := da_170.2.2.1
theorem dX1_isAct_14 : decode cX1_isAct 14 = .ok (.bipush 6, 2) := da_170.2.2.2.1
theorem dX1_isAct_16 : decode cX1_isAct 16 = .ok (.if_icmp .ne 7, 3) := da_170.2.2.2.2.1
theorem dX1_isAct_19 : decode cX1_isAct 19 = .ok (.iconst 1, 1) := da_170.2.2.2.2.2.1
theorem dX1_isAct_20 : decode cX1_isAct 20 = .ok (.goto 4, 3) := da_170.2.2.2.2.2.2.1
theorem dX1_isAct_23 : decode cX1_isAct 23 = .ok (.iconst 0, 1) := da_170.2.2.2.2.2.2.2.1
theorem dX1_isAct_24 : decode cX1_isAct 24 = .ok (.ireturn, 1) := da_170.2.2.2.2.2.2.2.2.1
theorem dX1_brim_0 : decode cX1_brim 0 = .ok (.getstatic 72, 3) := da_170.2.2.2.2.2.2.2.2.2
theorem da_180 : (decode cX1_brim 3 = .ok (.aload_n 0, 1)) ∧ (decode cX1_brim 4 = .ok (.getfield 9, 3)) ∧ (decode cX1_brim 7 = .ok (.iload_n 1, 1)) ∧ (decode cX1_brim 8 = .ok (.iaload, 1)) ∧ (decode cX1_brim 9 = .ok (.iaload, 1)) ∧ (decode cX1_brim 10 = .ok (.ireturn, 1)) ∧ (decode cX1_weptOrNone 0 = .ok (.aload_n 0, 1)) ∧ (decode cX1_weptOrNone 1 = .ok (.getfield 18, 3)) ∧ (decode cX1_weptOrNone 4 = .ok (.iload_n 1, 1)) ∧ (decode cX1_weptOrNone 5 = .ok (.iaload, 1)) := by decide +kernel
theorem dX1_brim_3 : decode cX1_brim 3 = .ok (.aload_n 0, 1) := da_180.1
theorem dX1_brim_4 : decode cX1_brim 4 = .ok (.getfield 9, 3) := da_180.2.1
theorem dX1_brim_7 : decode cX1_brim 7 = .ok (.iload_n 1, 1) := da_180.2.2.1
theorem dX1_brim_8 : decode cX1_brim 8 = .ok (.iaload, 1) := da_180.2.2.2.1
theorem dX1_brim_9 : decode cX1_brim 9 = .ok (.iaload, 1) := da_180.2.2.2.2.1
theorem dX1_brim_10 : decode cX1_brim 10 = .ok (.ireturn, 1) := da_180.2.2.2.2.2.1
theorem dX1_weptOrNone_0 : decode cX1_weptOrNone 0 = .ok (.aload_n 0, 1) := da_180.2.2.2.2.2.2.1
theorem dX1_weptOrNone_1 : decode cX1_weptOrNone 1 = .ok (.getfield 18, 3) := da_180.2.2.2.2.2.2.2.1
theorem dX1_weptOrNone_4 : decode cX1_weptOrNone 4 = .ok (.iload_n 1, 1) := da_180.2.2.2.2.2.2.2.2.1
theorem dX1_weptOrNone_5 : decode cX1_weptOrNone 5 = .ok (.iaload, 1) := da_180.2.2.2.2.2.2.2.2.2
theorem da_190 : (decode cX1_weptOrNone 6 = .ok (.iconst (-1), 1)) ∧ (decode cX1_weptOrNone 7 = .ok (.if_icmp .ne 8, 3)) ∧ (decode cX1_weptOrNone 10 = .ok (.bipush (-4), 2)) ∧ (decode cX1_weptOrNone 12 = .ok (.goto 9, 3)) ∧ (decode cX1_weptOrNone 15 = .ok (.aload_n 0, 1)) ∧ (decode cX1_weptOrNone 16 = .ok (.getfield 18, 3)) ∧ (decode cX1_weptOrNone 19 = .ok (.iload_n 1, 1)) ∧ (decode cX1_weptOrNone 20 = .ok (.iaload, 1)) ∧ (decode cX1_weptOrNone 21 = .ok (.ireturn, 1)) ∧ (decode cX1_waitingBits 0 = .ok (.iconst 1, 1)) := by decide +kernel
theorem dX1_weptOrNone_6 : decode cX1_weptOrNone 6 = .ok (.iconst (-1), 1) := da_190.1
theorem dX1_weptOrNone_7 : decode cX1_weptOrNone 7 = .ok (.if_icmp .ne 8, 3) := da_190.2.1
theorem dX1_weptOrNone_10 : decode cX1_weptOrNone 10 = .ok (.bipush (-4), 2) := da_190.2.2.1
theorem dX1_weptOrNone_12 : decode cX1_weptOrNone 12 = .ok (.goto 9, 3) := da_190.2.2.2.1
theorem dX1_weptOrNone_15 : decode cX1_weptOrNone 15 = .ok (.aload_n 0, 1) := da_190.2.2.2.2.1
theorem dX1_weptOrNone_16 : decode cX1_weptOrNone 16 = .ok (.getfield 18, 3) := da_190.2.2.2.2.2.1
theorem dX1_weptOrNone_19 : decode cX1_weptOrNone 19 = .ok (.iload_n 1, 1) := da_190.2.2.2.2.2.2.1
theorem dX1_weptOrNone_20 : decode cX1_weptOrNone 20 = .ok (.iaload, 1) := da_190.2.2.2.2.2.2.2.1
theorem dX1_weptOrNone_21 : decode cX1_weptOrNone 21 = .ok (.ireturn, 1) := da_190.2.2.2.2.2.2.2.2.1
theorem dX1_waitingBits_0 : decode cX1_waitingBits 0 = .ok (.iconst 1, 1) := da_190.2.2.2.2.2.2.2.2.2
theorem da_200 : (decode cX1_waitingBits 1 = .ok (.aload_n 0, 1)) ∧ (decode cX1_waitingBits 2 = .ok (.getfield 37, 3)) ∧ (decode cX1_waitingBits 5 = .ok (.ishl, 1)) ∧ (decode cX1_waitingBits 6 = .ok (.iconst 1, 1)) ∧ (decode cX1_waitingBits 7 = .ok (.isub, 1)) ∧ (decode cX1_waitingBits 8 = .ok (.aload_n 0, 1)) ∧ (decode cX1_waitingBits 9 = .ok (.getfield 40, 3)) ∧ (decode cX1_waitingBits 12 = .ok (.iconst (-1), 1)) ∧ (decode cX1_waitingBits 13 = .ok (.ixor, 1)) ∧ (decode cX1_waitingBits 14 = .ok (.iand, 1)) := by decide +kernel
theorem dX1_waitingBits_1 : decode cX1_waitingBits 1 = .ok (.aload_n 0, 1) := da_200.1
theorem dX1_waitingBits_2 : decode cX1_waitingBits 2 = .ok (.getfield 37, 3) := da_200.2.1
theorem dX1_waitingBits_5 : decode cX1_waitingBits 5 = .ok (.ishl, 1) := da_200.2.2.1
theorem dX1_waitingBits_6 : decode cX1_waitingBits 6 = .ok (.iconst 1, 1) := da_200.2.2.2.1
theorem dX1_waitingBits_7 : decode cX1_waitingBits 7 = .ok (.isub, 1) := da_200.2.2.2.2.1
theorem dX1_waitingBits_8 : decode cX1_waitingBits 8 = .ok (.aload_n 0, 1) := da_200.2.2.2.2.2.1
theorem dX1_waitingBits_9 : decode cX1_waitingBits 9 = .ok (.getfield 40, 3) := da_200.2.2.2.2.2.2.1
theorem dX1_waitingBits_12 : decode cX1_waitingBits 12 = .ok (.iconst (-1), 1) := da_200.2.2.2.2.2.2.2.1
theorem dX1_waitingBits_13 : decode cX1_waitingBits 13 = .ok (.ixor, 1) := da_200.2.2.2.2.2.2.2.2.1
theorem dX1_waitingBits_14 : decode cX1_waitingBits 14 = .ok (.iand, 1) := da_200.2.2.2.2.2.2.2.2.2
theorem da_210 : (decode cX1_waitingBits 15 = .ok (.ireturn, 1)) ∧ (decode cX1_allSorrow 0 = .ok (.iconst 0, 1)) ∧ (decode cX1_allSorrow 1 = .ok (.istore_n 1, 1)) ∧ (decode cX1_allSorrow 2 = .ok (.iconst 0, 1)) ∧ (decode cX1_allSorrow 3 = .ok (.istore_n 2, 1)) ∧ (decode cX1_allSorrow 4 = .ok (.iload_n 2, 1)) ∧ (decode cX1_allSorrow 5 = .ok (.aload_n 0, 1)) ∧ (decode cX1_allSorrow 6 = .ok (.getfield 37, 3)) ∧ (decode cX1_allSorrow 9 = .ok (.if_icmp .ge 26, 3)) ∧ (decode cX1_allSorrow 12 = .ok (.aload_n 0, 1)) := by decide +kernel
theorem dX1_waitingBits_15 : decode cX1_waitingBits 15 = .ok (.ireturn, 1) := da_210.1
theorem dX1_allSorrow_0 : decode cX1_allSorrow 0 = .ok (.iconst 0, 1) := da_210.2.1
theorem dX1_allSorrow_1 : decode cX1_allSorrow 1 = .ok (.istore_n 1, 1) := da_210.2.2.1
theorem dX1_allSorrow_2 : decode cX1_allSorrow 2 = .ok (.iconst 0, 1) := da_210.2.2.2.1
theorem dX1_allSorrow_3 : decode cX1_allSorrow 3 = .ok (.istore_n 2, 1) := da_210.2.2.2.2.1
theorem dX1_allSorrow_4 : decode cX1_allSorrow 4 = .ok (.iload_n 2, 1) := da_210.2.2.2.2.2.1
theorem dX1_allSorrow_5 : decode cX1_allSorrow 5 = .ok (.aload_n 0, 1) := da_210.2.2.2.2.2.2.1
theorem dX1_allSorrow_6 : decode cX1_allSorrow 6 = .ok (.getfield 37, 3) := da_210.2.2.2.2.2.2.2.1
theorem dX1_allSorrow_9 : decode cX1_allSorrow 9 = .ok (.if_icmp .ge 26, 3) := da_210.2.2.2.2.2.2.2.2.1
theorem dX1_allSorrow_12 : decode cX1_allSorrow 12 = .ok (.aload_n 0, 1) := da_210.2.2.2.2.2.2.2.2.2
theorem da_220 : (decode cX1_allSorrow 13 = .ok (.iload_n 2, 1)) ∧ (decode cX1_allSorrow 14 = .ok (.invokevirtual 75, 3)) ∧ (decode cX1_allSorrow 17 = .ok (.ifCond .eq 12, 3)) ∧ (decode cX1_allSorrow 20 = .ok (.iload_n 1, 1)) ∧ (decode cX1_allSorrow 21 = .ok (.aload_n 0, 1)) ∧ (decode cX1_allSorrow 22 = .ok (.getfield 15, 3)) ∧ (decode cX1_allSorrow 25 = .ok (.iload_n 2, 1)) ∧ (decode cX1_allSorrow 26 = .ok (.iaload, 1)) ∧ (decode cX1_allSorrow 27 = .ok (.iadd, 1)) ∧ (decode cX1_allSorrow 28 = .ok (.istore_n 1, 1)) := by decide +kernel
theorem dX1_allSorrow_13 : decode cX1_allSorrow 13 = .ok (.iload_n 2, 1) := da_220.1
theorem dX1_allSorrow_14 : decode cX1_allSorrow 14 = .ok (.invokevirtual 75, 3) := da_220.2.1
theorem dX1_allSorrow_17 : decode cX1_allSorrow 17 = .ok (.ifCond .eq 12, 3) := da_220.2.2.1
theorem dX1_allSorrow_20 : decode cX1_allSorrow 20 = .ok (.iload_n 1, 1) := da_220.2.2.2.1
theorem dX1_allSorrow_21 : decode cX1_allSorrow 21 = .ok (.aload_n 0, 1) := da_220.2.2.2.2.1
theorem dX1_allSorrow_22 : decode cX1_allSorrow 22 = .ok (.getfield 15, 3) := da_220.2.2.2.2.2.1
theorem dX1_allSorrow_25 : decode cX1_allSorrow 25 = .ok (.iload_n 2, 1) := da_220.2.2.2.2.2.2.1
theorem dX1_allSorrow_26 : decode cX1_allSorrow 26 = .ok (.iaload, 1) := da_220.2.2.2.2.2.2.2.1
theorem dX1_allSorrow_27 : decode cX1_allSorrow 27 = .ok (.iadd, 1) := da_220.2.2.2.2.2.2.2.2.1
theorem dX1_allSorrow_28 : decode cX1_allSorrow 28 = .ok (.istore_n 1, 1) := da_220.2.2.2.2.2.2.2.2.2
theorem da_230 : (decode cX1_allSorrow 29 = .ok (.iinc 2 1, 3)) ∧ (decode cX1_allSorrow 32 = .ok (.goto (-28), 3)) ∧ (decode cX1_allSorrow 35 = .ok (.iload_n 1, 1)) ∧ (decode cX1_allSorrow 36 = .ok (.ireturn, 1)) ∧ (decode cX1_everWept 0 = .ok (.iconst 0, 1)) ∧ (decode cX1_everWept 1 = .ok (.istore_n 1, 1)) ∧ (decode cX1_everWept 2 = .ok (.iconst 0, 1)) ∧ (decode cX1_everWept 3 = .ok (.istore_n 2, 1)) ∧ (decode cX1_everWept 4 = .ok (.iload_n 2, 1)) ∧ (decode cX1_everWept 5 = .ok (.aload_n 0, 1)) := by decide +kernel
theorem dX1_allSorrow_29 : decode cX1_allSorrow 29 = .ok (.iinc 2 1, 3) := da_230.1
theorem dX1_allSorrow_32 : decode cX1_allSorrow 32 = .ok (.goto (-28), 3) := da_230.2.1
theorem dX1_allSorrow_35 : decode cX1_allSorrow 35 = .ok (.iload_n 1, 1) := da_230.2.2.1
theorem dX1_allSorrow_36 : decode cX1_allSorrow 36 = .ok (.ireturn, 1) := da_230.2.2.2.1
theorem dX1_everWept_0 : decode cX1_everWept 0 = .ok (.iconst 0, 1) := da_230.2.2.2.2.1
theorem dX1_everWept_1 : decode cX1_everWept 1 = .ok (.istore_n 1, 1) := da_230.2.2.2.2.2.1
theorem dX1_everWept_2 : decode cX1_everWept 2 = .ok (.iconst 0, 1) := da_230.2.2.2.2.2.2.1
theorem dX1_everWept_3 : decode cX1_everWept 3 = .ok (.istore_n 2, 1) := da_230.2.2.2.2.2.2.2.1
theorem dX1_everWept_4 : decode cX1_everWept 4 = .ok (.iload_n 2, 1) := da_230.2.2.2.2.2.2.2.2.1
theorem dX1_everWept_5 : decode cX1_everWept 5 = .ok (.aload_n 0, 1) := da_230.2.2.2.2.2.2.2.2.2
theorem da_240 : (decode cX1_everWept 6 = .ok (.getfield 37, 3)) ∧ (decode cX1_everWept 9 = .ok (.if_icmp .ge 22, 3)) ∧ (decode cX1_everWept 12 = .ok (.aload_n 0, 1)) ∧ (decode cX1_everWept 13 = .ok (.getfield 18, 3)) ∧ (decode cX1_everWept 16 = .ok (.iload_n 2, 1)) ∧ (decode cX1_everWept 17 = .ok (.iaload, 1)) ∧ (decode cX1_everWept 18 = .ok (.iconst (-1), 1)) ∧ (decode cX1_everWept 19 = .ok (.if_icmp .eq 6, 3)) ∧ (decode cX1_everWept 22 = .ok (.iinc 1 1, 3)) ∧ (decode cX1_everWept 25 = .ok (.iinc 2 1, 3)) := by decide +kernel
theorem dX1_everWept_6 : decode cX1_everWept 6 = .ok (.getfield 37, 3) := da_240.1
theorem dX1_everWept_9 : decode cX1_everWept 9 = .ok (.if_icmp .ge 22, 3) := da_240.2.1
theorem dX1_everWept_12 : decode cX1_everWept 12 = .ok (.aload_n 0, 1) := da_240.2.2.1
theorem dX1_everWept_13 : decode cX1_everWept 13 = .ok (.getfield 18, 3) := da_240.2.2.2.1
theorem dX1_everWept_16 : decode cX1_everWept 16 = .ok (.iload_n 2, 1) := da_240.2.2.2.2.1
theorem dX1_everWept_17 : decode cX1_everWept 17 = .ok (.iaload, 1) := da_240.2.2.2.2.2.1
theorem dX1_everWept_18 : decode cX1_everWept 18 = .ok (.iconst (-1), 1) := da_240.2.2.2.2.2.2.1
theorem dX1_everWept_19 : decode cX1_everWept 19 = .ok (.if_icmp .eq 6, 3) := da_240.2.2.2.2.2.2.2.1
theorem dX1_everWept_22 : decode cX1_everWept 22 = .ok (.iinc 1 1, 3) := da_240.2.2.2.2.2.2.2.2.1
theorem dX1_everWept_25 : decode cX1_everWept 25 = .ok (.iinc 2 1, 3) := da_240.2.2.2.2.2.2.2.2.2
theorem da_250 : (decode cX1_everWept 28 = .ok (.goto (-24), 3)) ∧ (decode cX1_everWept 31 = .ok (.iload_n 1, 1)) ∧ (decode cX1_everWept 32 = .ok (.ireturn, 1)) ∧ (decode cX1_tramsPlanned 0 = .ok (.iconst 0, 1)) ∧ (decode cX1_tramsPlanned 1 = .ok (.istore_n 1, 1)) ∧ (decode cX1_tramsPlanned 2 = .ok (.iconst 0, 1)) ∧ (decode cX1_tramsPlanned 3 = .ok (.istore_n 2, 1)) ∧ (decode cX1_tramsPlanned 4 = .ok (.iload_n 2, 1)) ∧ (decode cX1_tramsPlanned 5 = .ok (.aload_n 0, 1)) ∧ (decode cX1_tramsPlanned 6 = .ok (.getfield 46, 3)) := by decide +kernel
theorem dX1_everWept_28 : decode cX1_everWept 28 = .ok (.goto (-24), 3) := da_250.1
theorem dX1_everWept_31 : decode cX1_everWept 31 = .ok (.iload_n 1, 1) := da_250.2.1
theorem dX1_everWept_32 : decode cX1_everWept 32 = .ok (.ireturn, 1) := da_250.2.2.1
theorem dX1_tramsPlanned_0 : decode cX1_tramsPlanned 0 = .ok (.iconst 0, 1) := da_250.2.2.2.1
theorem dX1_tramsPlanned_1 : decode cX1_tramsPlanned 1 = .ok (.istore_n 1, 1) := da_250.2.2.2.2.1
theorem dX1_tramsPlanned_2 : decode cX1_tramsPlanned 2 = .ok (.iconst 0, 1) := da_250.2.2.2.2.2.1
theorem dX1_tramsPlanned_3 : decode cX1_tramsPlanned 3 = .ok (.istore_n 2, 1) := da_250.2.2.2.2.2.2.1
theorem dX1_tramsPlanned_4 : decode cX1_tramsPlanned 4 = .ok (.iload_n 2, 1) := da_250.2.2.2.2.2.2.2.1
theorem dX1_tramsPlanned_5 : decode cX1_tramsPlanned 5 = .ok (.aload_n 0, 1) := da_250.2.2.2.2.2.2.2.2.1
theorem dX1_tramsPlanned_6 : decode cX1_tramsPlanned 6 = .ok (.getfield 46, 3) := da_250.2.2.2.2.2.2.2.2.2
theorem da_260 : (decode cX1_tramsPlanned 9 = .ok (.if_icmp .ge 23, 3)) ∧ (decode cX1_tramsPlanned 12 = .ok (.aload_n 0, 1)) ∧ (decode cX1_tramsPlanned 13 = .ok (.getfield 21, 3)) ∧ (decode cX1_tramsPlanned 16 = .ok (.iload_n 2, 1)) ∧ (decode cX1_tramsPlanned 17 = .ok (.iaload, 1)) ∧ (decode cX1_tramsPlanned 18 = .ok (.bipush 6, 2)) ∧ (decode cX1_tramsPlanned 20 = .ok (.if_icmp .ne 6, 3)) ∧ (decode cX1_tramsPlanned 23 = .ok (.iinc 1 1, 3)) ∧ (decode cX1_tramsPlanned 26 = .ok (.iinc 2 1, 3)) ∧ (decode cX1_tramsPlanned 29 = .ok (.goto (-25), 3)) := by decide +kernel
theorem dX1_tramsPlanned_9 : decode cX1_tramsPlanned 9 = .ok (.if_icmp .ge 23, 3) := da_260.1
theorem dX1_tramsPlanned_12 : decode cX1_tramsPlanned 12 = .ok (.aload_n 0, 1) := da_260.2.1
theorem dX1_tramsPlanned_13 : decode cX1_tramsPlanned 13 = .ok (.getfield 21, 3) := da_260.2.2.1
theorem dX1_tramsPlanned_16 : decode cX1_tramsPlanned 16 = .ok (.iload_n 2, 1) := da_260.2.2.2.1
theorem dX1_tramsPlanned_17 : decode cX1_tramsPlanned 17 = .ok (.iaload, 1) := da_260.2.2.2.2.1
theorem dX1_tramsPlanned_18 : decode cX1_tramsPlanned 18 = .ok (.bipush 6, 2) := da_260.2.2.2.2.2.1
theorem dX1_tramsPlanned_20 : decode cX1_tramsPlanned 20 = .ok (.if_icmp .ne 6, 3) := da_260.2.2.2.2.2.2.1
theorem dX1_tramsPlanned_23 : decode cX1_tramsPlanned 23 = .ok (.iinc 1 1, 3) := da_260.2.2.2.2.2.2.2.1
theorem dX1_tramsPlanned_26 : decode cX1_tramsPlanned 26 = .ok (.iinc 2 1, 3) := da_260.2.2.2.2.2.2.2.2.1
theorem dX1_tramsPlanned_29 : decode cX1_tramsPlanned 29 = .ok (.goto (-25), 3) := da_260.2.2.2.2.2.2.2.2.2
theorem da_270 : (decode cX1_tramsPlanned 32 = .ok (.iload_n 1, 1)) ∧ (decode cX1_tramsPlanned 33 = .ok (.ireturn, 1)) ∧ (decode cX1_addOne 0 = .ok (.aload_n 0, 1)) ∧ (decode cX1_addOne 1 = .ok (.getfield 37, 3)) ∧ (decode cX1_addOne 4 = .ok (.iconst 5, 1)) ∧ (decode cX1_addOne 5 = .ok (.if_icmp .ge 43, 3)) ∧ (decode cX1_addOne 8 = .ok (.aload_n 0, 1)) ∧ (decode cX1_addOne 9 = .ok (.getfield 9, 3)) ∧ (decode cX1_addOne 12 = .ok (.aload_n 0, 1)) ∧ (decode cX1_addOne 13 = .ok (.getfield 37, 3)) := by decide +kernel
theorem dX1_tramsPlanned_32 : decode cX1_tramsPlanned 32 = .ok (.iload_n 1, 1) := da_270.1
theorem dX1_tramsPlanned_33 : decode cX1_tramsPlanned 33 = .ok (.ireturn, 1) := da_270.2.1
theorem dX1_addOne_0 : decode cX1_addOne 0 = .ok (.aload_n 0, 1) := da_270.2.2.1
theorem dX1_addOne_1 : decode cX1_addOne 1 = .ok (.getfield 37, 3) := da_270.2.2.2.1
theorem dX1_addOne_4 : decode cX1_addOne 4 = .ok (.iconst 5, 1) := da_270.2.2.2.2.1
theorem dX1_addOne_5 : decode cX1_addOne 5 = .ok (.if_icmp .ge 43, 3) := da_270.2.2.2.2.2.1
theorem dX1_addOne_8 : decode cX1_addOne 8 = .ok (.aload_n 0, 1) := da_270.2.2.2.2.2.2.1
theorem dX1_addOne_9 : decode cX1_addOne 9 = .ok (.getfield 9, 3) := da_270.2.2.2.2.2.2.2.1
theorem dX1_addOne_12 : decode cX1_addOne 12 = .ok (.aload_n 0, 1) := da_270.2.2.2.2.2.2.2.2.1
theorem dX1_addOne_13 : decode cX1_addOne 13 = .ok (.getfield 37, 3) := da_270.2.2.2.2.2.2.2.2.2
theorem da_280 : (decode cX1_addOne 16 = .ok (.iload_n 1, 1)) ∧ (decode cX1_addOne 17 = .ok (.iastore, 1)) ∧ (decode cX1_addOne 18 = .ok (.aload_n 0, 1)) ∧ (decode cX1_addOne 19 = .ok (.getfield 15, 3)) ∧ (decode cX1_addOne 22 = .ok (.aload_n 0, 1)) ∧ (decode cX1_addOne 23 = .ok (.getfield 37, 3)) ∧ (decode cX1_addOne 26 = .ok (.iload_n 2, 1)) ∧ (decode cX1_addOne 27 = .ok (.iastore, 1)) ∧ (decode cX1_addOne 28 = .ok (.aload_n 0, 1)) ∧ (decode cX1_addOne 29 = .ok (.getfield 18, 3)) := by decide +kernel
theorem dX1_addOne_16 : decode cX1_addOne 16 = .ok (.iload_n 1, 1) := da_280.1
theorem dX1_addOne_17 : decode cX1_addOne 17 = .ok (.iastore, 1) := da_280.2.1
theorem dX1_addOne_18 : decode cX1_addOne 18 = .ok (.aload_n 0, 1) := da_280.2.2.1
theorem dX1_addOne_19 : decode cX1_addOne 19 = .ok (.getfield 15, 3) := da_280.2.2.2.1
theorem dX1_addOne_22 : decode cX1_addOne 22 = .ok (.aload_n 0, 1) := da_280.2.2.2.2.1
theorem dX1_addOne_23 : decode cX1_addOne 23 = .ok (.getfield 37, 3) := da_280.2.2.2.2.2.1
theorem dX1_addOne_26 : decode cX1_addOne 26 = .ok (.iload_n 2, 1) := da_280.2.2.2.2.2.2.1
theorem dX1_addOne_27 : decode cX1_addOne 27 = .ok (.iastore, 1) := da_280.2.2.2.2.2.2.2.1
theorem dX1_addOne_28 : decode cX1_addOne 28 = .ok (.aload_n 0, 1) := da_280.2.2.2.2.2.2.2.2.1
theorem dX1_addOne_29 : decode cX1_addOne 29 = .ok (.getfield 18, 3) := da_280.2.2.2.2.2.2.2.2.2
theorem da_290 : (decode cX1_addOne 32 = .ok (.aload_n 0, 1)) ∧ (decode cX1_addOne 33 = .ok (.getfield 37, 3)) ∧ (decode cX1_addOne 36 = .ok (.iconst (-1), 1)) ∧ (decode cX1_addOne 37 = .ok (.iastore, 1)) ∧ (decode cX1_addOne 38 = .ok (.aload_n 0, 1)) ∧ (decode cX1_addOne 39 = .ok (.dup, 1)) ∧ (decode cX1_addOne 40 = .ok (.getfield 37, 3)) ∧ (decode cX1_addOne 43 = .ok (.iconst 1, 1)) ∧ (decode cX1_addOne 44 = .ok (.iadd, 1)) ∧ (decode cX1_addOne 45 = .ok (.putfield 37, 3)) := by decide +kernel
theorem dX1_addOne_32 : decode cX1_addOne 32 = .ok (.aload_n 0, 1) := da_290.1
theorem dX1_addOne_33 : decode cX1_addOne 33 = .ok (.getfield 37, 3) := da_290.2.1
theorem dX1_addOne_36 : decode cX1_addOne 36 = .ok (.iconst (-1), 1) := da_290.2.2.1
theorem dX1_addOne_37 : decode cX1_addOne 37 = .ok (.iastore, 1) := da_290.2.2.2.1
theorem dX1_addOne_38 : decode cX1_addOne 38 = .ok (.aload_n 0, 1) := da_290.2.2.2.2.1
theorem dX1_addOne_39 : decode cX1_addOne 39 = .ok (.dup, 1) := da_290.2.2.2.2.2.1
theorem dX1_addOne_40 : decode cX1_addOne 40 = .ok (.getfield 37, 3) := da_290.2.2.2.2.2.2.1
theorem dX1_addOne_43 : decode cX1_addOne 43 = .ok (.iconst 1, 1) := da_290.2.2.2.2.2.2.2.1
theorem dX1_addOne_44 : decode cX1_addOne 44 = .ok (.iadd, 1) := da_290.2.2.2.2.2.2.2.2.1
theorem dX1_addOne_45 : decode cX1_addOne 45 = .ok (.putfield 37, 3) := da_290.2.2.2.2.2.2.2.2.2
theorem da_300 : (decode cX1_addOne 48 = .ok (.return_, 1)) ∧ (decode cX1_addAct 0 = .ok (.aload_n 0, 1)) ∧ (decode cX1_addAct 1 = .ok (.getfield 46, 3)) ∧ (decode cX1_addAct 4 = .ok (.bipush 8, 2)) ∧ (decode cX1_addAct 6 = .ok (.if_icmp .lt 5, 3)) ∧ (decode cX1_addAct 9 = .ok (.iconst 0, 1)) ∧ (decode cX1_addAct 10 = .ok (.ireturn, 1)) ∧ (decode cX1_addAct 11 = .ok (.aload_n 0, 1)) ∧ (decode cX1_addAct 12 = .ok (.getfield 21, 3)) ∧ (decode cX1_addAct 15 = .ok (.aload_n 0, 1)) := by decide +kernel
theorem dX1_addOne_48 : decode cX1_addOne 48 = .ok (.return_, 1) := da_300.1
theorem dX1_addAct_0 : decode cX1_addAct 0 = .ok (.aload_n 0, 1) := da_300.2.1
theorem dX1_addAct_1 : decode cX1_addAct 1 = .ok (.getfield 46, 3) := da_300.2.2.1
theorem dX1_addAct_4 : decode cX1_addAct 4 = .ok (.bipush 8, 2) := da_300.2.2.2.1
theorem dX1_addAct_6 : decode cX1_addAct 6 = .ok (.if_icmp .lt 5, 3) := da_300.2.2.2.2.1
theorem dX1_addAct_9 : decode cX1_addAct 9 = .ok (.iconst 0, 1) := da_300.2.2.2.2.2.1
theorem dX1_addAct_10 : decode cX1_addAct 10 = .ok (.ireturn, 1) := da_300.2.2.2.2.2.2.1
theorem dX1_addAct_11 : decode cX1_addAct 11 = .ok (.aload_n 0, 1) := da_300.2.2.2.2.2.2.2.1
theorem dX1_addAct_12 : decode cX1_addAct 12 = .ok (.getfield 21, 3) := da_300.2.2.2.2.2.2.2.2.1
theorem dX1_addAct_15 : decode cX1_addAct 15 = .ok (.aload_n 0, 1) := da_300.2.2.2.2.2.2.2.2.2
theorem da_310 : (decode cX1_addAct 16 = .ok (.getfield 46, 3)) ∧ (decode cX1_addAct 19 = .ok (.iload_n 1, 1)) ∧ (decode cX1_addAct 20 = .ok (.iastore, 1)) ∧ (decode cX1_addAct 21 = .ok (.aload_n 0, 1)) ∧ (decode cX1_addAct 22 = .ok (.dup, 1)) ∧ (decode cX1_addAct 23 = .ok (.getfield 46, 3)) ∧ (decode cX1_addAct 26 = .ok (.iconst 1, 1)) ∧ (decode cX1_addAct 27 = .ok (.iadd, 1)) ∧ (decode cX1_addAct 28 = .ok (.putfield 46, 3)) ∧ (decode cX1_addAct 31 = .ok (.iconst 1, 1)) := by decide +kernel
theorem dX1_addAct_16 : decode cX1_addAct 16 = .ok (.getfield 46, 3) := da_310.1
theorem dX1_addAct_19 : decode cX1_addAct 19 = .ok (.iload_n 1, 1) := da_310.2.1
theorem dX1_addAct_20 : decode cX1_addAct 20 = .ok (.iastore, 1) := da_310.2.2.1
theorem dX1_addAct_21 : decode cX1_addAct 21 = .ok (.aload_n 0, 1) := da_310.2.2.2.1
theorem dX1_addAct_22 : decode cX1_addAct 22 = .ok (.dup, 1) := da_310.2.2.2.2.1
theorem dX1_addAct_23 : decode cX1_addAct 23 = .ok (.getfield 46, 3) := da_310.2.2.2.2.2.1
theorem dX1_addAct_26 : decode cX1_addAct 26 = .ok (.iconst 1, 1) := da_310.2.2.2.2.2.2.1
theorem dX1_addAct_27 : decode cX1_addAct 27 = .ok (.iadd, 1) := da_310.2.2.2.2.2.2.2.1
theorem dX1_addAct_28 : decode cX1_addAct 28 = .ok (.putfield 46, 3) := da_310.2.2.2.2.2.2.2.2.1
theorem dX1_addAct_31 : decode cX1_addAct 31 = .ok (.iconst 1, 1) := da_310.2.2.2.2.2.2.2.2.2
theorem da_320 : (decode cX1_addAct 32 = .ok (.ireturn, 1)) ∧ (decode cX1_changeActs 0 = .ok (.iload_n 1, 1)) ∧ (decode cX1_changeActs 1 = .ok (.ifCond .lt 49, 3)) ∧ (decode cX1_changeActs 4 = .ok (.iload_n 1, 1)) ∧ (decode cX1_changeActs 5 = .ok (.aload_n 0, 1)) ∧ (decode cX1_changeActs 6 = .ok (.getfield 46, 3)) ∧ (decode cX1_changeActs 9 = .ok (.if_icmp .ge 41, 3)) ∧ (decode cX1_changeActs 12 = .ok (.iload_n 2, 1)) ∧ (decode cX1_changeActs 13 = .ok (.ifCond .lt 37, 3)) ∧ (decode cX1_changeActs 16 = .ok (.iload_n 2, 1)) := by decide +kernel
theorem dX1_addAct_32 : decode cX1_addAct 32 = .ok (.ireturn, 1) := da_320.1
theorem dX1_changeActs_0 : decode cX1_changeActs 0 = .ok (.iload_n 1, 1) := da_320.2.1
theorem dX1_changeActs_1 : decode cX1_changeActs 1 = .ok (.ifCond .lt 49, 3) := da_320.2.2.1
theorem dX1_changeActs_4 : decode cX1_changeActs 4 = .ok (.iload_n 1, 1) := da_320.2.2.2.1
theorem dX1_changeActs_5 : decode cX1_changeActs 5 = .ok (.aload_n 0, 1) := da_320.2.2.2.2.1
theorem dX1_changeActs_6 : decode cX1_changeActs 6 = .ok (.getfield 46, 3) := da_320.2.2.2.2.2.1
theorem dX1_changeActs_9 : decode cX1_changeActs 9 = .ok (.if_icmp .ge 41, 3) := da_320.2.2.2.2.2.2.1
theorem dX1_changeActs_12 : decode cX1_changeActs 12 = .ok (.iload_n 2, 1) := da_320.2.2.2.2.2.2.2.1
theorem dX1_changeActs_13 : decode cX1_changeActs 13 = .ok (.ifCond .lt 37, 3) := da_320.2.2.2.2.2.2.2.2.1
theorem dX1_changeActs_16 : decode cX1_changeActs 16 = .ok (.iload_n 2, 1) := da_320.2.2.2.2.2.2.2.2.2
theorem da_330 : (decode cX1_changeActs 17 = .ok (.aload_n 0, 1)) ∧ (decode cX1_changeActs 18 = .ok (.getfield 46, 3)) ∧ (decode cX1_changeActs 21 = .ok (.if_icmp .ge 29, 3)) ∧ (decode cX1_changeActs 24 = .ok (.aload_n 0, 1)) ∧ (decode cX1_changeActs 25 = .ok (.getfield 21, 3)) ∧ (decode cX1_changeActs 28 = .ok (.iload_n 1, 1)) ∧ (decode cX1_changeActs 29 = .ok (.iaload, 1)) ∧ (decode cX1_changeActs 30 = .ok (.istore_n 3, 1)) ∧ (decode cX1_changeActs 31 = .ok (.aload_n 0, 1)) ∧ (decode cX1_changeActs 32 = .ok (.getfield 21, 3)) := by decide +kernel
theorem dX1_changeActs_17 : decode cX1_changeActs 17 = .ok (.aload_n 0, 1) := da_330.1
theorem dX1_changeActs_18 : decode cX1_changeActs 18 = .ok (.getfield 46, 3) := da_330.2.1
theorem dX1_changeActs_21 : decode cX1_changeActs 21 = .ok (.if_icmp .ge 29, 3) := da_330.2.2.1
theorem dX1_changeActs_24 : decode cX1_changeActs 24 = .ok (.aload_n 0, 1) := da_330.2.2.2.1
theorem dX1_changeActs_25 : decode cX1_changeActs 25 = .ok (.getfield 21, 3) := da_330.2.2.2.2.1
theorem dX1_changeActs_28 : decode cX1_changeActs 28 = .ok (.iload_n 1, 1) := da_330.2.2.2.2.2.1
theorem dX1_changeActs_29 : decode cX1_changeActs 29 = .ok (.iaload, 1) := da_330.2.2.2.2.2.2.1
theorem dX1_changeActs_30 : decode cX1_changeActs 30 = .ok (.istore_n 3, 1) := da_330.2.2.2.2.2.2.2.1
theorem dX1_changeActs_31 : decode cX1_changeActs 31 = .ok (.aload_n 0, 1) := da_330.2.2.2.2.2.2.2.2.1
theorem dX1_changeActs_32 : decode cX1_changeActs 32 = .ok (.getfield 21, 3) := da_330.2.2.2.2.2.2.2.2.2
theorem da_340 : (decode cX1_changeActs 35 = .ok (.iload_n 1, 1)) ∧ (decode cX1_changeActs 36 = .ok (.aload_n 0, 1)) ∧ (decode cX1_changeActs 37 = .ok (.getfield 21, 3)) ∧ (decode cX1_changeActs 40 = .ok (.iload_n 2, 1)) ∧ (decode cX1_changeActs 41 = .ok (.iaload, 1)) ∧ (decode cX1_changeActs 42 = .ok (.iastore, 1)) ∧ (decode cX1_changeActs 43 = .ok (.aload_n 0, 1)) ∧ (decode cX1_changeActs 44 = .ok (.getfield 21, 3)) ∧ (decode cX1_changeActs 47 = .ok (.iload_n 2, 1)) ∧ (decode cX1_changeActs 48 = .ok (.iload_n 3, 1)) := by decide +kernel
theorem dX1_changeActs_35 : decode cX1_changeActs 35 = .ok (.iload_n 1, 1) := da_340.1
theorem dX1_changeActs_36 : decode cX1_changeActs 36 = .ok (.aload_n 0, 1) := da_340.2.1
theorem dX1_changeActs_37 : decode cX1_changeActs 37 = .ok (.getfield 21, 3) := da_340.2.2.1
theorem dX1_changeActs_40 : decode cX1_changeActs 40 = .ok (.iload_n 2, 1) := da_340.2.2.2.1
theorem dX1_changeActs_41 : decode cX1_changeActs 41 = .ok (.iaload, 1) := da_340.2.2.2.2.1
theorem dX1_changeActs_42 : decode cX1_changeActs 42 = .ok (.iastore, 1) := da_340.2.2.2.2.2.1
theorem dX1_changeActs_43 : decode cX1_changeActs 43 = .ok (.aload_n 0, 1) := da_340.2.2.2.2.2.2.1
theorem dX1_changeActs_44 : decode cX1_changeActs 44 = .ok (.getfield 21, 3) := da_340.2.2.2.2.2.2.2.1
theorem dX1_changeActs_47 : decode cX1_changeActs 47 = .ok (.iload_n 2, 1) := da_340.2.2.2.2.2.2.2.2.1
theorem dX1_changeActs_48 : decode cX1_changeActs 48 = .ok (.iload_n 3, 1) := da_340.2.2.2.2.2.2.2.2.2
theorem da_350 : (decode cX1_changeActs 49 = .ok (.iastore, 1)) ∧ (decode cX1_changeActs 50 = .ok (.return_, 1)) ∧ (decode cX1_allActsFit 0 = .ok (.iconst 0, 1)) ∧ (decode cX1_allActsFit 1 = .ok (.istore_n 1, 1)) ∧ (decode cX1_allActsFit 2 = .ok (.iload_n 1, 1)) ∧ (decode cX1_allActsFit 3 = .ok (.aload_n 0, 1)) ∧ (decode cX1_allActsFit 4 = .ok (.getfield 46, 3)) ∧ (decode cX1_allActsFit 7 = .ok (.if_icmp .ge 24, 3)) ∧ (decode cX1_allActsFit 10 = .ok (.aload_n 0, 1)) ∧ (decode cX1_allActsFit 11 = .ok (.aload_n 0, 1)) := by decide +kernel
theorem dX1_changeActs_49 : decode cX1_changeActs 49 = .ok (.iastore, 1) := da_350.1
theorem dX1_changeActs_50 : decode cX1_changeActs 50 = .ok (.return_, 1) := da_350.2.1
theorem dX1_allActsFit_0 : decode cX1_allActsFit 0 = .ok (.iconst 0, 1) := da_350.2.2.1
theorem dX1_allActsFit_1 : decode cX1_allActsFit 1 = .ok (.istore_n 1, 1) := da_350.2.2.2.1
theorem dX1_allActsFit_2 : decode cX1_allActsFit 2 = .ok (.iload_n 1, 1) := da_350.2.2.2.2.1
theorem dX1_allActsFit_3 : decode cX1_allActsFit 3 = .ok (.aload_n 0, 1) := da_350.2.2.2.2.2.1
theorem dX1_allActsFit_4 : decode cX1_allActsFit 4 = .ok (.getfield 46, 3) := da_350.2.2.2.2.2.2.1
theorem dX1_allActsFit_7 : decode cX1_allActsFit 7 = .ok (.if_icmp .ge 24, 3) := da_350.2.2.2.2.2.2.2.1
theorem dX1_allActsFit_10 : decode cX1_allActsFit 10 = .ok (.aload_n 0, 1) := da_350.2.2.2.2.2.2.2.2.1
theorem dX1_allActsFit_11 : decode cX1_allActsFit 11 = .ok (.aload_n 0, 1) := da_350.2.2.2.2.2.2.2.2.2
theorem da_360 : (decode cX1_allActsFit 12 = .ok (.getfield 21, 3)) ∧ (decode cX1_allActsFit 15 = .ok (.iload_n 1, 1)) ∧ (decode cX1_allActsFit 16 = .ok (.iaload, 1)) ∧ (decode cX1_allActsFit 17 = .ok (.invokevirtual 78, 3)) ∧ (decode cX1_allActsFit 20 = .ok (.ifCond .ne 5, 3)) ∧ (decode cX1_allActsFit 23 = .ok (.iconst 0, 1)) ∧ (decode cX1_allActsFit 24 = .ok (.ireturn, 1)) ∧ (decode cX1_allActsFit 25 = .ok (.iinc 1 1, 3)) ∧ (decode cX1_allActsFit 28 = .ok (.goto (-26), 3)) ∧ (decode cX1_allActsFit 31 = .ok (.iconst 1, 1)) := by decide +kernel
theorem dX1_allActsFit_12 : decode cX1_allActsFit 12 = .ok (.getfield 21, 3) := da_360.1
theorem dX1_allActsFit_15 : decode cX1_allActsFit 15 = .ok (.iload_n 1, 1) := da_360.2.1
theorem dX1_allActsFit_16 : decode cX1_allActsFit 16 = .ok (.iaload, 1) := da_360.2.2.1
theorem dX1_allActsFit_17 : decode cX1_allActsFit 17 = .ok (.invokevirtual 78, 3) := da_360.2.2.2.1
theorem dX1_allActsFit_20 : decode cX1_allActsFit 20 = .ok (.ifCond .ne 5, 3) := da_360.2.2.2.2.1
theorem dX1_allActsFit_23 : decode cX1_allActsFit 23 = .ok (.iconst 0, 1) := da_360.2.2.2.2.2.1
theorem dX1_allActsFit_24 : decode cX1_allActsFit 24 = .ok (.ireturn, 1) := da_360.2.2.2.2.2.2.1
theorem dX1_allActsFit_25 : decode cX1_allActsFit 25 = .ok (.iinc 1 1, 3) := da_360.2.2.2.2.2.2.2.1
theorem dX1_allActsFit_28 : decode cX1_allActsFit 28 = .ok (.goto (-26), 3) := da_360.2.2.2.2.2.2.2.2.1
theorem dX1_allActsFit_31 : decode cX1_allActsFit 31 = .ok (.iconst 1, 1) := da_360.2.2.2.2.2.2.2.2.2
theorem da_370 : (decode cX1_allActsFit 32 = .ok (.ireturn, 1)) ∧ (decode cX1_followPlan 0 = .ok (.iconst 0, 1)) ∧ (decode cX1_followPlan 1 = .ok (.istore_n 1, 1)) ∧ (decode cX1_followPlan 2 = .ok (.iload_n 1, 1)) ∧ (decode cX1_followPlan 3 = .ok (.aload_n 0, 1)) ∧ (decode cX1_followPlan 4 = .ok (.getfield 46, 3)) ∧ (decode cX1_followPlan 7 = .ok (.if_icmp .ge 36, 3)) ∧ (decode cX1_followPlan 10 = .ok (.aload_n 0, 1)) ∧ (decode cX1_followPlan 11 = .ok (.aload_n 0, 1)) ∧ (decode cX1_followPlan 12 = .ok (.getfield 21, 3)) := by decide +kernel
theorem dX1_allActsFit_32 : decode cX1_allActsFit 32 = .ok (.ireturn, 1) := da_370.1
theorem dX1_followPlan_0 : decode cX1_followPlan 0 = .ok (.iconst 0, 1) := da_370.2.1
theorem dX1_followPlan_1 : decode cX1_followPlan 1 = .ok (.istore_n 1, 1) := da_370.2.2.1
theorem dX1_followPlan_2 : decode cX1_followPlan 2 = .ok (.iload_n 1, 1) := da_370.2.2.2.1
theorem dX1_followPlan_3 : decode cX1_followPlan 3 = .ok (.aload_n 0, 1) := da_370.2.2.2.2.1
theorem dX1_followPlan_4 : decode cX1_followPlan 4 = .ok (.getfield 46, 3) := da_370.2.2.2.2.2.1
theorem dX1_followPlan_7 : decode cX1_followPlan 7 = .ok (.if_icmp .ge 36, 3) := da_370.2.2.2.2.2.2.1
theorem dX1_followPlan_10 : decode cX1_followPlan 10 = .ok (.aload_n 0, 1) := da_370.2.2.2.2.2.2.2.1
theorem dX1_followPlan_11 : decode cX1_followPlan 11 = .ok (.aload_n 0, 1) := da_370.2.2.2.2.2.2.2.2.1
theorem dX1_followPlan_12 : decode cX1_followPlan 12 = .ok (.getfield 21, 3) := da_370.2.2.2.2.2.2.2.2.2
theorem da_380 : (decode cX1_followPlan 15 = .ok (.iload_n 1, 1)) ∧ (decode cX1_followPlan 16 = .ok (.iaload, 1)) ∧ (decode cX1_followPlan 17 = .ok (.invokevirtual 81, 3)) ∧ (decode cX1_followPlan 20 = .ok (.ifCond .ne 17, 3)) ∧ (decode cX1_followPlan 23 = .ok (.aload_n 0, 1)) ∧ (decode cX1_followPlan 24 = .ok (.getfield 34, 3)) ∧ (decode cX1_followPlan 27 = .ok (.bipush (-4), 2)) ∧ (decode cX1_followPlan 29 = .ok (.if_icmp .ne 8, 3)) ∧ (decode cX1_followPlan 32 = .ok (.aload_n 0, 1)) ∧ (decode cX1_followPlan 33 = .ok (.iload_n 1, 1)) := by decide +kernel
theorem dX1_followPlan_15 : decode cX1_followPlan 15 = .ok (.iload_n 1, 1) := da_380.1
theorem dX1_followPlan_16 : decode cX1_followPlan 16 = .ok (.iaload, 1) := da_380.2.1
theorem dX1_followPlan_17 : decode cX1_followPlan 17 = .ok (.invokevirtual 81, 3) := da_380.2.2.1
theorem dX1_followPlan_20 : decode cX1_followPlan 20 = .ok (.ifCond .ne 17, 3) := da_380.2.2.2.1
theorem dX1_followPlan_23 : decode cX1_followPlan 23 = .ok (.aload_n 0, 1) := da_380.2.2.2.2.1
theorem dX1_followPlan_24 : decode cX1_followPlan 24 = .ok (.getfield 34, 3) := da_380.2.2.2.2.2.1
theorem dX1_followPlan_27 : decode cX1_followPlan 27 = .ok (.bipush (-4), 2) := da_380.2.2.2.2.2.2.1
theorem dX1_followPlan_29 : decode cX1_followPlan 29 = .ok (.if_icmp .ne 8, 3) := da_380.2.2.2.2.2.2.2.1
theorem dX1_followPlan_32 : decode cX1_followPlan 32 = .ok (.aload_n 0, 1) := da_380.2.2.2.2.2.2.2.2.1
theorem dX1_followPlan_33 : decode cX1_followPlan 33 = .ok (.iload_n 1, 1) := da_380.2.2.2.2.2.2.2.2.2
theorem da_390 : (decode cX1_followPlan 34 = .ok (.putfield 34, 3)) ∧ (decode cX1_followPlan 37 = .ok (.iinc 1 1, 3)) ∧ (decode cX1_followPlan 40 = .ok (.goto (-38), 3)) ∧ (decode cX1_followPlan 43 = .ok (.return_, 1)) ∧ (decode cX1_play 0 = .ok (.iload_n 1, 1)) ∧ (decode cX1_play 1 = .ok (.iconst 5, 1)) ∧ (decode cX1_play 2 = .ok (.if_icmp .ne 9, 3)) ∧ (decode cX1_play 5 = .ok (.aload_n 0, 1)) ∧ (decode cX1_play 6 = .ok (.invokevirtual 84, 3)) ∧ (decode cX1_play 9 = .ok (.iconst 1, 1)) := by decide +kernel
theorem dX1_followPlan_34 : decode cX1_followPlan 34 = .ok (.putfield 34, 3) := da_390.1
theorem dX1_followPlan_37 : decode cX1_followPlan 37 = .ok (.iinc 1 1, 3) := da_390.2.1
theorem dX1_followPlan_40 : decode cX1_followPlan 40 = .ok (.goto (-38), 3) := da_390.2.2.1
theorem dX1_followPlan_43 : decode cX1_followPlan 43 = .ok (.return_, 1) := da_390.2.2.2.1
theorem dX1_play_0 : decode cX1_play 0 = .ok (.iload_n 1, 1) := da_390.2.2.2.2.1
theorem dX1_play_1 : decode cX1_play 1 = .ok (.iconst 5, 1) := da_390.2.2.2.2.2.1
theorem dX1_play_2 : decode cX1_play 2 = .ok (.if_icmp .ne 9, 3) := da_390.2.2.2.2.2.2.1
theorem dX1_play_5 : decode cX1_play 5 = .ok (.aload_n 0, 1) := da_390.2.2.2.2.2.2.2.1
theorem dX1_play_6 : decode cX1_play 6 = .ok (.invokevirtual 84, 3) := da_390.2.2.2.2.2.2.2.2.1
theorem dX1_play_9 : decode cX1_play 9 = .ok (.iconst 1, 1) := da_390.2.2.2.2.2.2.2.2.2
theorem da_400 : (decode cX1_play 10 = .ok (.ireturn, 1)) ∧ (decode cX1_play 11 = .ok (.iload_n 1, 1)) ∧ (decode cX1_play 12 = .ok (.bipush 6, 2)) ∧ (decode cX1_play 14 = .ok (.if_icmp .ne 10, 3)) ∧ (decode cX1_play 17 = .ok (.aload_n 0, 1)) ∧ (decode cX1_play 18 = .ok (.invokevirtual 87, 3)) ∧ (decode cX1_play 21 = .ok (.pop, 1)) ∧ (decode cX1_play 22 = .ok (.iconst 1, 1)) ∧ (decode cX1_play 23 = .ok (.ireturn, 1)) ∧ (decode cX1_play 24 = .ok (.aload_n 0, 1)) := by decide +kernel
theorem dX1_play_10 : decode cX1_play 10 = .ok (.ireturn, 1) := da_400.1
theorem dX1_play_11 : decode cX1_play 11 = .ok (.iload_n 1, 1) := da_400.2.1
theorem dX1_play_12 : decode cX1_play 12 = .ok (.bipush 6, 2) := da_400.2.2.1
theorem dX1_play_14 : decode cX1_play 14 = .ok (.if_icmp .ne 10, 3) := da_400.2.2.2.1
theorem dX1_play_17 : decode cX1_play 17 = .ok (.aload_n 0, 1) := da_400.2.2.2.2.1
theorem dX1_play_18 : decode cX1_play 18 = .ok (.invokevirtual 87, 3) := da_400.2.2.2.2.2.1
theorem dX1_play_21 : decode cX1_play 21 = .ok (.pop, 1) := da_400.2.2.2.2.2.2.1
theorem dX1_play_22 : decode cX1_play 22 = .ok (.iconst 1, 1) := da_400.2.2.2.2.2.2.2.1
theorem dX1_play_23 : decode cX1_play 23 = .ok (.ireturn, 1) := da_400.2.2.2.2.2.2.2.2.1
theorem dX1_play_24 : decode cX1_play 24 = .ok (.aload_n 0, 1) := da_400.2.2.2.2.2.2.2.2.2
theorem da_410 : (decode cX1_play 25 = .ok (.iload_n 1, 1)) ∧ (decode cX1_play 26 = .ok (.invokevirtual 75, 3)) ∧ (decode cX1_play 29 = .ok (.ifCond .ne 5, 3)) ∧ (decode cX1_play 32 = .ok (.iconst 0, 1)) ∧ (decode cX1_play 33 = .ok (.ireturn, 1)) ∧ (decode cX1_play 34 = .ok (.aload_n 0, 1)) ∧ (decode cX1_play 35 = .ok (.iload_n 1, 1)) ∧ (decode cX1_play 36 = .ok (.invokevirtual 91, 3)) ∧ (decode cX1_play 39 = .ok (.pop, 1)) ∧ (decode cX1_play 40 = .ok (.iconst 1, 1)) := by decide +kernel
theorem dX1_play_25 : decode cX1_play 25 = .ok (.iload_n 1, 1) := da_410.1
theorem dX1_play_26 : decode cX1_play 26 = .ok (.invokevirtual 75, 3) := da_410.2.1
theorem dX1_play_29 : decode cX1_play 29 = .ok (.ifCond .ne 5, 3) := da_410.2.2.1
theorem dX1_play_32 : decode cX1_play 32 = .ok (.iconst 0, 1) := da_410.2.2.2.1
theorem dX1_play_33 : decode cX1_play 33 = .ok (.ireturn, 1) := da_410.2.2.2.2.1
theorem dX1_play_34 : decode cX1_play 34 = .ok (.aload_n 0, 1) := da_410.2.2.2.2.2.1
theorem dX1_play_35 : decode cX1_play 35 = .ok (.iload_n 1, 1) := da_410.2.2.2.2.2.2.1
theorem dX1_play_36 : decode cX1_play 36 = .ok (.invokevirtual 91, 3) := da_410.2.2.2.2.2.2.2.1
theorem dX1_play_39 : decode cX1_play 39 = .ok (.pop, 1) := da_410.2.2.2.2.2.2.2.2.1
theorem dX1_play_40 : decode cX1_play 40 = .ok (.iconst 1, 1) := da_410.2.2.2.2.2.2.2.2.2
theorem da_420 : (decode cX1_play 41 = .ok (.ireturn, 1)) ∧ (decode cX1_thinkAndWeep 0 = .ok (.aload_n 0, 1)) ∧ (decode cX1_thinkAndWeep 1 = .ok (.iload_n 1, 1)) ∧ (decode cX1_thinkAndWeep 2 = .ok (.aload_n 0, 1)) ∧ (decode cX1_thinkAndWeep 3 = .ok (.getfield 31, 3)) ∧ (decode cX1_thinkAndWeep 6 = .ok (.invokevirtual 95, 3)) ∧ (decode cX1_thinkAndWeep 9 = .ok (.iconst 0, 1)) ∧ (decode cX1_thinkAndWeep 10 = .ok (.istore_n 2, 1)) ∧ (decode cX1_thinkAndWeep 11 = .ok (.iconst 0, 1)) ∧ (decode cX1_thinkAndWeep 12 = .ok (.istore_n 3, 1)) := by decide +kernel
theorem dX1_play_41 : decode cX1_play 41 = .ok (.ireturn, 1) := da_420.1
theorem dX1_thinkAndWeep_0 : decode cX1_thinkAndWeep 0 = .ok (.aload_n 0, 1) := da_420.2.1
theorem dX1_thinkAndWeep_1 : decode cX1_thinkAndWeep 1 = .ok (.iload_n 1, 1) := da_420.2.2.1
theorem dX1_thinkAndWeep_2 : decode cX1_thinkAndWeep 2 = .ok (.aload_n 0, 1) := da_420.2.2.2.1
theorem dX1_thinkAndWeep_3 : decode cX1_thinkAndWeep 3 = .ok (.getfield 31, 3) := da_420.2.2.2.2.1
theorem dX1_thinkAndWeep_6 : decode cX1_thinkAndWeep 6 = .ok (.invokevirtual 95, 3) := da_420.2.2.2.2.2.1
theorem dX1_thinkAndWeep_9 : decode cX1_thinkAndWeep 9 = .ok (.iconst 0, 1) := da_420.2.2.2.2.2.2.1
theorem dX1_thinkAndWeep_10 : decode cX1_thinkAndWeep 10 = .ok (.istore_n 2, 1) := da_420.2.2.2.2.2.2.2.1
theorem dX1_thinkAndWeep_11 : decode cX1_thinkAndWeep 11 = .ok (.iconst 0, 1) := da_420.2.2.2.2.2.2.2.2.1
theorem dX1_thinkAndWeep_12 : decode cX1_thinkAndWeep 12 = .ok (.istore_n 3, 1) := da_420.2.2.2.2.2.2.2.2.2
theorem da_430 : (decode cX1_thinkAndWeep 13 = .ok (.iload_n 3, 1)) ∧ (decode cX1_thinkAndWeep 14 = .ok (.aload_n 0, 1)) ∧ (decode cX1_thinkAndWeep 15 = .ok (.getfield 37, 3)) ∧ (decode cX1_thinkAndWeep 18 = .ok (.if_icmp .ge 39, 3)) ∧ (decode cX1_thinkAndWeep 21 = .ok (.aload_n 0, 1)) ∧ (decode cX1_thinkAndWeep 22 = .ok (.iload_n 2, 1)) ∧ (decode cX1_thinkAndWeep 23 = .ok (.invokevirtual 99, 3)) ∧ (decode cX1_thinkAndWeep 26 = .ok (.istore 4, 2)) ∧ (decode cX1_thinkAndWeep 28 = .ok (.iload 4, 2)) ∧ (decode cX1_thinkAndWeep 30 = .ok (.bipush (-4), 2)) := by decide +kernel
theorem dX1_thinkAndWeep_13 : decode cX1_thinkAndWeep 13 = .ok (.iload_n 3, 1) := da_430.1
theorem dX1_thinkAndWeep_14 : decode cX1_thinkAndWeep 14 = .ok (.aload_n 0, 1) := da_430.2.1
theorem dX1_thinkAndWeep_15 : decode cX1_thinkAndWeep 15 = .ok (.getfield 37, 3) := da_430.2.2.1
theorem dX1_thinkAndWeep_18 : decode cX1_thinkAndWeep 18 = .ok (.if_icmp .ge 39, 3) := da_430.2.2.2.1
theorem dX1_thinkAndWeep_21 : decode cX1_thinkAndWeep 21 = .ok (.aload_n 0, 1) := da_430.2.2.2.2.1
theorem dX1_thinkAndWeep_22 : decode cX1_thinkAndWeep 22 = .ok (.iload_n 2, 1) := da_430.2.2.2.2.2.1
theorem dX1_thinkAndWeep_23 : decode cX1_thinkAndWeep 23 = .ok (.invokevirtual 99, 3) := da_430.2.2.2.2.2.2.1
theorem dX1_thinkAndWeep_26 : decode cX1_thinkAndWeep 26 = .ok (.istore 4, 2) := da_430.2.2.2.2.2.2.2.1
theorem dX1_thinkAndWeep_28 : decode cX1_thinkAndWeep 28 = .ok (.iload 4, 2) := da_430.2.2.2.2.2.2.2.2.1
theorem dX1_thinkAndWeep_30 : decode cX1_thinkAndWeep 30 = .ok (.bipush (-4), 2) := da_430.2.2.2.2.2.2.2.2.2
theorem da_440 : (decode cX1_thinkAndWeep 32 = .ok (.if_icmp .ne 6, 3)) ∧ (decode cX1_thinkAndWeep 35 = .ok (.goto 22, 3)) ∧ (decode cX1_thinkAndWeep 38 = .ok (.aload_n 0, 1)) ∧ (decode cX1_thinkAndWeep 39 = .ok (.iload 4, 2)) ∧ (decode cX1_thinkAndWeep 41 = .ok (.invokevirtual 102, 3)) ∧ (decode cX1_thinkAndWeep 44 = .ok (.iload_n 2, 1)) ∧ (decode cX1_thinkAndWeep 45 = .ok (.iconst 1, 1)) ∧ (decode cX1_thinkAndWeep 46 = .ok (.iload 4, 2)) ∧ (decode cX1_thinkAndWeep 48 = .ok (.ishl, 1)) ∧ (decode cX1_thinkAndWeep 49 = .ok (.ior, 1)) := by decide +kernel
theorem dX1_thinkAndWeep_32 : decode cX1_thinkAndWeep 32 = .ok (.if_icmp .ne 6, 3) := da_440.1
theorem dX1_thinkAndWeep_35 : decode cX1_thinkAndWeep 35 = .ok (.goto 22, 3) := da_440.2.1
theorem dX1_thinkAndWeep_38 : decode cX1_thinkAndWeep 38 = .ok (.aload_n 0, 1) := da_440.2.2.1
theorem dX1_thinkAndWeep_39 : decode cX1_thinkAndWeep 39 = .ok (.iload 4, 2) := da_440.2.2.2.1
theorem dX1_thinkAndWeep_41 : decode cX1_thinkAndWeep 41 = .ok (.invokevirtual 102, 3) := da_440.2.2.2.2.1
theorem dX1_thinkAndWeep_44 : decode cX1_thinkAndWeep 44 = .ok (.iload_n 2, 1) := da_440.2.2.2.2.2.1
theorem dX1_thinkAndWeep_45 : decode cX1_thinkAndWeep 45 = .ok (.iconst 1, 1) := da_440.2.2.2.2.2.2.1
theorem dX1_thinkAndWeep_46 : decode cX1_thinkAndWeep 46 = .ok (.iload 4, 2) := da_440.2.2.2.2.2.2.2.1
theorem dX1_thinkAndWeep_48 : decode cX1_thinkAndWeep 48 = .ok (.ishl, 1) := da_440.2.2.2.2.2.2.2.2.1
theorem dX1_thinkAndWeep_49 : decode cX1_thinkAndWeep 49 = .ok (.ior, 1) := da_440.2.2.2.2.2.2.2.2.2
theorem da_450 : (decode cX1_thinkAndWeep 50 = .ok (.istore_n 2, 1)) ∧ (decode cX1_thinkAndWeep 51 = .ok (.iinc 3 1, 3)) ∧ (decode cX1_thinkAndWeep 54 = .ok (.goto (-41), 3)) ∧ (decode cX1_thinkAndWeep 57 = .ok (.aload_n 0, 1)) ∧ (decode cX1_thinkAndWeep 58 = .ok (.dup, 1)) ∧ (decode cX1_thinkAndWeep 59 = .ok (.getfield 52, 3)) ∧ (decode cX1_thinkAndWeep 62 = .ok (.iload_n 2, 1)) ∧ (decode cX1_thinkAndWeep 63 = .ok (.ior, 1)) ∧ (decode cX1_thinkAndWeep 64 = .ok (.putfield 52, 3)) ∧ (decode cX1_thinkAndWeep 67 = .ok (.aload_n 0, 1)) := by decide +kernel
theorem dX1_thinkAndWeep_50 : decode cX1_thinkAndWeep 50 = .ok (.istore_n 2, 1) := da_450.1
theorem dX1_thinkAndWeep_51 : decode cX1_thinkAndWeep 51 = .ok (.iinc 3 1, 3) := da_450.2.1
theorem dX1_thinkAndWeep_54 : decode cX1_thinkAndWeep 54 = .ok (.goto (-41), 3) := da_450.2.2.1
theorem dX1_thinkAndWeep_57 : decode cX1_thinkAndWeep 57 = .ok (.aload_n 0, 1) := da_450.2.2.2.1
theorem dX1_thinkAndWeep_58 : decode cX1_thinkAndWeep 58 = .ok (.dup, 1) := da_450.2.2.2.2.1
theorem dX1_thinkAndWeep_59 : decode cX1_thinkAndWeep 59 = .ok (.getfield 52, 3) := da_450.2.2.2.2.2.1
theorem dX1_thinkAndWeep_62 : decode cX1_thinkAndWeep 62 = .ok (.iload_n 2, 1) := da_450.2.2.2.2.2.2.1
theorem dX1_thinkAndWeep_63 : decode cX1_thinkAndWeep 63 = .ok (.ior, 1) := da_450.2.2.2.2.2.2.2.1
theorem dX1_thinkAndWeep_64 : decode cX1_thinkAndWeep 64 = .ok (.putfield 52, 3) := da_450.2.2.2.2.2.2.2.2.1
theorem dX1_thinkAndWeep_67 : decode cX1_thinkAndWeep 67 = .ok (.aload_n 0, 1) := da_450.2.2.2.2.2.2.2.2.2
theorem da_460 : (decode cX1_thinkAndWeep 68 = .ok (.dup, 1)) ∧ (decode cX1_thinkAndWeep 69 = .ok (.getfield 55, 3)) ∧ (decode cX1_thinkAndWeep 72 = .ok (.iload_n 2, 1)) ∧ (decode cX1_thinkAndWeep 73 = .ok (.invokestatic 106, 3)) ∧ (decode cX1_thinkAndWeep 76 = .ok (.iadd, 1)) ∧ (decode cX1_thinkAndWeep 77 = .ok (.putfield 55, 3)) ∧ (decode cX1_thinkAndWeep 80 = .ok (.iload_n 2, 1)) ∧ (decode cX1_thinkAndWeep 81 = .ok (.ireturn, 1)) ∧ (decode cX1_firstToWeep 0 = .ok (.iconst 0, 1)) ∧ (decode cX1_firstToWeep 1 = .ok (.istore_n 2, 1)) := by decide +kernel
theorem dX1_thinkAndWeep_68 : decode cX1_thinkAndWeep 68 = .ok (.dup, 1) := da_460.1
theorem dX1_thinkAndWeep_69 : decode cX1_thinkAndWeep 69 = .ok (.getfield 55, 3) := da_460.2.1
theorem dX1_thinkAndWeep_72 : decode cX1_thinkAndWeep 72 = .ok (.iload_n 2, 1) := da_460.2.2.1
theorem dX1_thinkAndWeep_73 : decode cX1_thinkAndWeep 73 = .ok (.invokestatic 106, 3) := da_460.2.2.2.1
theorem dX1_thinkAndWeep_76 : decode cX1_thinkAndWeep 76 = .ok (.iadd, 1) := da_460.2.2.2.2.1
theorem dX1_thinkAndWeep_77 : decode cX1_thinkAndWeep 77 = .ok (.putfield 55, 3) := da_460.2.2.2.2.2.1
theorem dX1_thinkAndWeep_80 : decode cX1_thinkAndWeep 80 = .ok (.iload_n 2, 1) := da_460.2.2.2.2.2.2.1
theorem dX1_thinkAndWeep_81 : decode cX1_thinkAndWeep 81 = .ok (.ireturn, 1) := da_460.2.2.2.2.2.2.2.1
theorem dX1_firstToWeep_0 : decode cX1_firstToWeep 0 = .ok (.iconst 0, 1) := da_460.2.2.2.2.2.2.2.2.1
theorem dX1_firstToWeep_1 : decode cX1_firstToWeep 1 = .ok (.istore_n 2, 1) := da_460.2.2.2.2.2.2.2.2.2
theorem da_470 : (decode cX1_firstToWeep 2 = .ok (.iload_n 2, 1)) ∧ (decode cX1_firstToWeep 3 = .ok (.aload_n 0, 1)) ∧ (decode cX1_firstToWeep 4 = .ok (.getfield 37, 3)) ∧ (decode cX1_firstToWeep 7 = .ok (.if_icmp .ge 41, 3)) ∧ (decode cX1_firstToWeep 10 = .ok (.aload_n 0, 1)) ∧ (decode cX1_firstToWeep 11 = .ok (.iload_n 2, 1)) ∧ (decode cX1_firstToWeep 12 = .ok (.invokevirtual 75, 3)) ∧ (decode cX1_firstToWeep 15 = .ok (.ifCond .eq 27, 3)) ∧ (decode cX1_firstToWeep 18 = .ok (.aload_n 0, 1)) ∧ (decode cX1_firstToWeep 19 = .ok (.getfield 15, 3)) := by decide +kernel
theorem dX1_firstToWeep_2 : decode cX1_firstToWeep 2 = .ok (.iload_n 2, 1) := da_470.1
theorem dX1_firstToWeep_3 : decode cX1_firstToWeep 3 = .ok (.aload_n 0, 1) := da_470.2.1
theorem dX1_firstToWeep_4 : decode cX1_firstToWeep 4 = .ok (.getfield 37, 3) := da_470.2.2.1
theorem dX1_firstToWeep_7 : decode cX1_firstToWeep 7 = .ok (.if_icmp .ge 41, 3) := da_470.2.2.2.1
theorem dX1_firstToWeep_10 : decode cX1_firstToWeep 10 = .ok (.aload_n 0, 1) := da_470.2.2.2.2.1
theorem dX1_firstToWeep_11 : decode cX1_firstToWeep 11 = .ok (.iload_n 2, 1) := da_470.2.2.2.2.2.1
theorem dX1_firstToWeep_12 : decode cX1_firstToWeep 12 = .ok (.invokevirtual 75, 3) := da_470.2.2.2.2.2.2.1
theorem dX1_firstToWeep_15 : decode cX1_firstToWeep 15 = .ok (.ifCond .eq 27, 3) := da_470.2.2.2.2.2.2.2.1
theorem dX1_firstToWeep_18 : decode cX1_firstToWeep 18 = .ok (.aload_n 0, 1) := da_470.2.2.2.2.2.2.2.2.1
theorem dX1_firstToWeep_19 : decode cX1_firstToWeep 19 = .ok (.getfield 15, 3) := da_470.2.2.2.2.2.2.2.2.2
theorem da_480 : (decode cX1_firstToWeep 22 = .ok (.iload_n 2, 1)) ∧ (decode cX1_firstToWeep 23 = .ok (.iaload, 1)) ∧ (decode cX1_firstToWeep 24 = .ok (.aload_n 0, 1)) ∧ (decode cX1_firstToWeep 25 = .ok (.iload_n 2, 1)) ∧ (decode cX1_firstToWeep 26 = .ok (.invokevirtual 111, 3)) ∧ (decode cX1_firstToWeep 29 = .ok (.if_icmp .lt 13, 3)) ∧ (decode cX1_firstToWeep 32 = .ok (.iload_n 1, 1)) ∧ (decode cX1_firstToWeep 33 = .ok (.iload_n 2, 1)) ∧ (decode cX1_firstToWeep 34 = .ok (.ishr, 1)) ∧ (decode cX1_firstToWeep 35 = .ok (.iconst 1, 1)) := by decide +kernel
theorem dX1_firstToWeep_22 : decode cX1_firstToWeep 22 = .ok (.iload_n 2, 1) := da_480.1
theorem dX1_firstToWeep_23 : decode cX1_firstToWeep 23 = .ok (.iaload, 1) := da_480.2.1
theorem dX1_firstToWeep_24 : decode cX1_firstToWeep 24 = .ok (.aload_n 0, 1) := da_480.2.2.1
theorem dX1_firstToWeep_25 : decode cX1_firstToWeep 25 = .ok (.iload_n 2, 1) := da_480.2.2.2.1
theorem dX1_firstToWeep_26 : decode cX1_firstToWeep 26 = .ok (.invokevirtual 111, 3) := da_480.2.2.2.2.1
theorem dX1_firstToWeep_29 : decode cX1_firstToWeep 29 = .ok (.if_icmp .lt 13, 3) := da_480.2.2.2.2.2.1
theorem dX1_firstToWeep_32 : decode cX1_firstToWeep 32 = .ok (.iload_n 1, 1) := da_480.2.2.2.2.2.2.1
theorem dX1_firstToWeep_33 : decode cX1_firstToWeep 33 = .ok (.iload_n 2, 1) := da_480.2.2.2.2.2.2.2.1
theorem dX1_firstToWeep_34 : decode cX1_firstToWeep 34 = .ok (.ishr, 1) := da_480.2.2.2.2.2.2.2.2.1
theorem dX1_firstToWeep_35 : decode cX1_firstToWeep 35 = .ok (.iconst 1, 1) := da_480.2.2.2.2.2.2.2.2.2
theorem da_490 : (decode cX1_firstToWeep 36 = .ok (.iand, 1)) ∧ (decode cX1_firstToWeep 37 = .ok (.ifCond .ne 5, 3)) ∧ (decode cX1_firstToWeep 40 = .ok (.iload_n 2, 1)) ∧ (decode cX1_firstToWeep 41 = .ok (.ireturn, 1)) ∧ (decode cX1_firstToWeep 42 = .ok (.iinc 2 1, 3)) ∧ (decode cX1_firstToWeep 45 = .ok (.goto (-43), 3)) ∧ (decode cX1_firstToWeep 48 = .ok (.bipush (-4), 2)) ∧ (decode cX1_firstToWeep 50 = .ok (.ireturn, 1)) ∧ (decode cX1_weep 0 = .ok (.aload_n 0, 1)) ∧ (decode cX1_weep 1 = .ok (.getfield 18, 3)) := by decide +kernel
theorem dX1_firstToWeep_36 : decode cX1_firstToWeep 36 = .ok (.iand, 1) := da_490.1
theorem dX1_firstToWeep_37 : decode cX1_firstToWeep 37 = .ok (.ifCond .ne 5, 3) := da_490.2.1
theorem dX1_firstToWeep_40 : decode cX1_firstToWeep 40 = .ok (.iload_n 2, 1) := da_490.2.2.1
theorem dX1_firstToWeep_41 : decode cX1_firstToWeep 41 = .ok (.ireturn, 1) := da_490.2.2.2.1
theorem dX1_firstToWeep_42 : decode cX1_firstToWeep 42 = .ok (.iinc 2 1, 3) := da_490.2.2.2.2.1
theorem dX1_firstToWeep_45 : decode cX1_firstToWeep 45 = .ok (.goto (-43), 3) := da_490.2.2.2.2.2.1
theorem dX1_firstToWeep_48 : decode cX1_firstToWeep 48 = .ok (.bipush (-4), 2) := da_490.2.2.2.2.2.2.1
theorem dX1_firstToWeep_50 : decode cX1_firstToWeep 50 = .ok (.ireturn, 1) := da_490.2.2.2.2.2.2.2.1
theorem dX1_weep_0 : decode cX1_weep 0 = .ok (.aload_n 0, 1) := da_490.2.2.2.2.2.2.2.2.1
theorem dX1_weep_1 : decode cX1_weep 1 = .ok (.getfield 18, 3) := da_490.2.2.2.2.2.2.2.2.2
theorem da_500 : (decode cX1_weep 4 = .ok (.iload_n 1, 1)) ∧ (decode cX1_weep 5 = .ok (.aload_n 0, 1)) ∧ (decode cX1_weep 6 = .ok (.getfield 43, 3)) ∧ (decode cX1_weep 9 = .ok (.iastore, 1)) ∧ (decode cX1_weep 10 = .ok (.aload_n 0, 1)) ∧ (decode cX1_weep 11 = .ok (.getfield 15, 3)) ∧ (decode cX1_weep 14 = .ok (.iload_n 1, 1)) ∧ (decode cX1_weep 15 = .ok (.iconst 0, 1)) ∧ (decode cX1_weep 16 = .ok (.iastore, 1)) ∧ (decode cX1_weep 17 = .ok (.aload_n 0, 1)) := by decide +kernel
theorem dX1_weep_4 : decode cX1_weep 4 = .ok (.iload_n 1, 1) := da_500.1
theorem dX1_weep_5 : decode cX1_weep 5 = .ok (.aload_n 0, 1) := da_500.2.1
theorem dX1_weep_6 : decode cX1_weep 6 = .ok (.getfield 43, 3) := da_500.2.2.1
theorem dX1_weep_9 : decode cX1_weep 9 = .ok (.iastore, 1) := da_500.2.2.2.1
theorem dX1_weep_10 : decode cX1_weep 10 = .ok (.aload_n 0, 1) := da_500.2.2.2.2.1
theorem dX1_weep_11 : decode cX1_weep 11 = .ok (.getfield 15, 3) := da_500.2.2.2.2.2.1
theorem dX1_weep_14 : decode cX1_weep 14 = .ok (.iload_n 1, 1) := da_500.2.2.2.2.2.2.1
theorem dX1_weep_15 : decode cX1_weep 15 = .ok (.iconst 0, 1) := da_500.2.2.2.2.2.2.2.1
theorem dX1_weep_16 : decode cX1_weep 16 = .ok (.iastore, 1) := da_500.2.2.2.2.2.2.2.2.1
theorem dX1_weep_17 : decode cX1_weep 17 = .ok (.aload_n 0, 1) := da_500.2.2.2.2.2.2.2.2.2
theorem da_510 : (decode cX1_weep 18 = .ok (.aload_n 0, 1)) ∧ (decode cX1_weep 19 = .ok (.iload_n 1, 1)) ∧ (decode cX1_weep 20 = .ok (.iconst (-1), 1)) ∧ (decode cX1_weep 21 = .ok (.invokevirtual 114, 3)) ∧ (decode cX1_weep 24 = .ok (.iconst 2, 1)) ∧ (decode cX1_weep 25 = .ok (.invokevirtual 95, 3)) ∧ (decode cX1_weep 28 = .ok (.aload_n 0, 1)) ∧ (decode cX1_weep 29 = .ok (.aload_n 0, 1)) ∧ (decode cX1_weep 30 = .ok (.iload_n 1, 1)) ∧ (decode cX1_weep 31 = .ok (.iconst 1, 1)) := by decide +kernel
theorem dX1_weep_18 : decode cX1_weep 18 = .ok (.aload_n 0, 1) := da_510.1
theorem dX1_weep_19 : decode cX1_weep 19 = .ok (.iload_n 1, 1) := da_510.2.1
theorem dX1_weep_20 : decode cX1_weep 20 = .ok (.iconst (-1), 1) := da_510.2.2.1
theorem dX1_weep_21 : decode cX1_weep 21 = .ok (.invokevirtual 114, 3) := da_510.2.2.2.1
theorem dX1_weep_24 : decode cX1_weep 24 = .ok (.iconst 2, 1) := da_510.2.2.2.2.1
theorem dX1_weep_25 : decode cX1_weep 25 = .ok (.invokevirtual 95, 3) := da_510.2.2.2.2.2.1
theorem dX1_weep_28 : decode cX1_weep 28 = .ok (.aload_n 0, 1) := da_510.2.2.2.2.2.2.1
theorem dX1_weep_29 : decode cX1_weep 29 = .ok (.aload_n 0, 1) := da_510.2.2.2.2.2.2.2.1
theorem dX1_weep_30 : decode cX1_weep 30 = .ok (.iload_n 1, 1) := da_510.2.2.2.2.2.2.2.2.1
theorem dX1_weep_31 : decode cX1_weep 31 = .ok (.iconst 1, 1) := da_510.2.2.2.2.2.2.2.2.2
theorem da_520 : (decode cX1_weep 32 = .ok (.invokevirtual 114, 3)) ∧ (decode cX1_weep 35 = .ok (.iconst 2, 1)) ∧ (decode cX1_weep 36 = .ok (.invokevirtual 95, 3)) ∧ (decode cX1_weep 39 = .ok (.return_, 1)) ∧ (decode cX1_nearest 0 = .ok (.iload_n 1, 1)) ∧ (decode cX1_nearest 1 = .ok (.istore_n 3, 1)) ∧ (decode cX1_nearest 2 = .ok (.iconst 0, 1)) ∧ (decode cX1_nearest 3 = .ok (.istore 4, 2)) ∧ (decode cX1_nearest 5 = .ok (.iload 4, 2)) ∧ (decode cX1_nearest 7 = .ok (.iconst 5, 1)) := by decide +kernel
theorem dX1_weep_32 : decode cX1_weep 32 = .ok (.invokevirtual 114, 3) := da_520.1
theorem dX1_weep_35 : decode cX1_weep 35 = .ok (.iconst 2, 1) := da_520.2.1
theorem dX1_weep_36 : decode cX1_weep 36 = .ok (.invokevirtual 95, 3) := da_520.2.2.1
theorem dX1_weep_39 : decode cX1_weep 39 = .ok (.return_, 1) := da_520.2.2.2.1
theorem dX1_nearest_0 : decode cX1_nearest 0 = .ok (.iload_n 1, 1) := da_520.2.2.2.2.1
theorem dX1_nearest_1 : decode cX1_nearest 1 = .ok (.istore_n 3, 1) := da_520.2.2.2.2.2.1
theorem dX1_nearest_2 : decode cX1_nearest 2 = .ok (.iconst 0, 1) := da_520.2.2.2.2.2.2.1
theorem dX1_nearest_3 : decode cX1_nearest 3 = .ok (.istore 4, 2) := da_520.2.2.2.2.2.2.2.1
theorem dX1_nearest_5 : decode cX1_nearest 5 = .ok (.iload 4, 2) := da_520.2.2.2.2.2.2.2.2.1
theorem dX1_nearest_7 : decode cX1_nearest 7 = .ok (.iconst 5, 1) := da_520.2.2.2.2.2.2.2.2.2
theorem da_530 : (decode cX1_nearest 8 = .ok (.if_icmp .ge 23, 3)) ∧ (decode cX1_nearest 11 = .ok (.iload_n 3, 1)) ∧ (decode cX1_nearest 12 = .ok (.iload_n 2, 1)) ∧ (decode cX1_nearest 13 = .ok (.iadd, 1)) ∧ (decode cX1_nearest 14 = .ok (.istore_n 3, 1)) ∧ (decode cX1_nearest 15 = .ok (.aload_n 0, 1)) ∧ (decode cX1_nearest 16 = .ok (.iload_n 3, 1)) ∧ (decode cX1_nearest 17 = .ok (.invokevirtual 75, 3)) ∧ (decode cX1_nearest 20 = .ok (.ifCond .eq 5, 3)) ∧ (decode cX1_nearest 23 = .ok (.iload_n 3, 1)) := by decide +kernel
theorem dX1_nearest_8 : decode cX1_nearest 8 = .ok (.if_icmp .ge 23, 3) := da_530.1
theorem dX1_nearest_11 : decode cX1_nearest 11 = .ok (.iload_n 3, 1) := da_530.2.1
theorem dX1_nearest_12 : decode cX1_nearest 12 = .ok (.iload_n 2, 1) := da_530.2.2.1
theorem dX1_nearest_13 : decode cX1_nearest 13 = .ok (.iadd, 1) := da_530.2.2.2.1
theorem dX1_nearest_14 : decode cX1_nearest 14 = .ok (.istore_n 3, 1) := da_530.2.2.2.2.1
theorem dX1_nearest_15 : decode cX1_nearest 15 = .ok (.aload_n 0, 1) := da_530.2.2.2.2.2.1
theorem dX1_nearest_16 : decode cX1_nearest 16 = .ok (.iload_n 3, 1) := da_530.2.2.2.2.2.2.1
theorem dX1_nearest_17 : decode cX1_nearest 17 = .ok (.invokevirtual 75, 3) := da_530.2.2.2.2.2.2.2.1
theorem dX1_nearest_20 : decode cX1_nearest 20 = .ok (.ifCond .eq 5, 3) := da_530.2.2.2.2.2.2.2.2.1
theorem dX1_nearest_23 : decode cX1_nearest 23 = .ok (.iload_n 3, 1) := da_530.2.2.2.2.2.2.2.2.2
theorem da_540 : (decode cX1_nearest 24 = .ok (.ireturn, 1)) ∧ (decode cX1_nearest 25 = .ok (.iinc 4 1, 3)) ∧ (decode cX1_nearest 28 = .ok (.goto (-23), 3)) ∧ (decode cX1_nearest 31 = .ok (.bipush (-4), 2)) ∧ (decode cX1_nearest 33 = .ok (.ireturn, 1)) ∧ (decode cX1_sadden 0 = .ok (.iload_n 1, 1)) ∧ (decode cX1_sadden 1 = .ok (.ifCond .lt 30, 3)) ∧ (decode cX1_sadden 4 = .ok (.iload_n 1, 1)) ∧ (decode cX1_sadden 5 = .ok (.aload_n 0, 1)) ∧ (decode cX1_sadden 6 = .ok (.getfield 37, 3)) := by decide +kernel
theorem dX1_nearest_24 : decode cX1_nearest 24 = .ok (.ireturn, 1) := da_540.1
theorem dX1_nearest_25 : decode cX1_nearest 25 = .ok (.iinc 4 1, 3) := da_540.2.1
theorem dX1_nearest_28 : decode cX1_nearest 28 = .ok (.goto (-23), 3) := da_540.2.2.1
theorem dX1_nearest_31 : decode cX1_nearest 31 = .ok (.bipush (-4), 2) := da_540.2.2.2.1
theorem dX1_nearest_33 : decode cX1_nearest 33 = .ok (.ireturn, 1) := da_540.2.2.2.2.1
theorem dX1_sadden_0 : decode cX1_sadden 0 = .ok (.iload_n 1, 1) := da_540.2.2.2.2.2.1
theorem dX1_sadden_1 : decode cX1_sadden 1 = .ok (.ifCond .lt 30, 3) := da_540.2.2.2.2.2.2.1
theorem dX1_sadden_4 : decode cX1_sadden 4 = .ok (.iload_n 1, 1) := da_540.2.2.2.2.2.2.2.1
theorem dX1_sadden_5 : decode cX1_sadden 5 = .ok (.aload_n 0, 1) := da_540.2.2.2.2.2.2.2.2.1
theorem dX1_sadden_6 : decode cX1_sadden 6 = .ok (.getfield 37, 3) := da_540.2.2.2.2.2.2.2.2.2
theorem da_550 : (decode cX1_sadden 9 = .ok (.if_icmp .ge 22, 3)) ∧ (decode cX1_sadden 12 = .ok (.aload_n 0, 1)) ∧ (decode cX1_sadden 13 = .ok (.getfield 15, 3)) ∧ (decode cX1_sadden 16 = .ok (.iload_n 1, 1)) ∧ (decode cX1_sadden 17 = .ok (.bipush 40, 2)) ∧ (decode cX1_sadden 19 = .ok (.aload_n 0, 1)) ∧ (decode cX1_sadden 20 = .ok (.getfield 15, 3)) ∧ (decode cX1_sadden 23 = .ok (.iload_n 1, 1)) ∧ (decode cX1_sadden 24 = .ok (.iaload, 1)) ∧ (decode cX1_sadden 25 = .ok (.iload_n 2, 1)) := by decide +kernel
theorem dX1_sadden_9 : decode cX1_sadden 9 = .ok (.if_icmp .ge 22, 3) := da_550.1
theorem dX1_sadden_12 : decode cX1_sadden 12 = .ok (.aload_n 0, 1) := da_550.2.1
theorem dX1_sadden_13 : decode cX1_sadden 13 = .ok (.getfield 15, 3) := da_550.2.2.1
theorem dX1_sadden_16 : decode cX1_sadden 16 = .ok (.iload_n 1, 1) := da_550.2.2.2.1
theorem dX1_sadden_17 : decode cX1_sadden 17 = .ok (.bipush 40, 2) := da_550.2.2.2.2.1
theorem dX1_sadden_19 : decode cX1_sadden 19 = .ok (.aload_n 0, 1) := da_550.2.2.2.2.2.1
theorem dX1_sadden_20 : decode cX1_sadden 20 = .ok (.getfield 15, 3) := da_550.2.2.2.2.2.2.1
theorem dX1_sadden_23 : decode cX1_sadden 23 = .ok (.iload_n 1, 1) := da_550.2.2.2.2.2.2.2.1
theorem dX1_sadden_24 : decode cX1_sadden 24 = .ok (.iaload, 1) := da_550.2.2.2.2.2.2.2.2.1
theorem dX1_sadden_25 : decode cX1_sadden 25 = .ok (.iload_n 2, 1) := da_550.2.2.2.2.2.2.2.2.2
theorem da_560 : (decode cX1_sadden 26 = .ok (.iadd, 1)) ∧ (decode cX1_sadden 27 = .ok (.invokestatic 118, 3)) ∧ (decode cX1_sadden 30 = .ok (.iastore, 1)) ∧ (decode cX1_sadden 31 = .ok (.return_, 1)) ∧ (decode cX1_dry 0 = .ok (.iconst 0, 1)) ∧ (decode cX1_dry 1 = .ok (.istore_n 1, 1)) ∧ (decode cX1_dry 2 = .ok (.iload_n 1, 1)) ∧ (decode cX1_dry 3 = .ok (.aload_n 0, 1)) ∧ (decode cX1_dry 4 = .ok (.getfield 37, 3)) ∧ (decode cX1_dry 7 = .ok (.if_icmp .ge 35, 3)) := by decide +kernel
theorem dX1_sadden_26 : decode cX1_sadden 26 = .ok (.iadd, 1) := da_560.1
theorem dX1_sadden_27 : decode cX1_sadden 27 = .ok (.invokestatic 118, 3) := da_560.2.1
theorem dX1_sadden_30 : decode cX1_sadden 30 = .ok (.iastore, 1) := da_560.2.2.1
theorem dX1_sadden_31 : decode cX1_sadden 31 = .ok (.return_, 1) := da_560.2.2.2.1
theorem dX1_dry_0 : decode cX1_dry 0 = .ok (.iconst 0, 1) := da_560.2.2.2.2.1
theorem dX1_dry_1 : decode cX1_dry 1 = .ok (.istore_n 1, 1) := da_560.2.2.2.2.2.1
theorem dX1_dry_2 : decode cX1_dry 2 = .ok (.iload_n 1, 1) := da_560.2.2.2.2.2.2.1
theorem dX1_dry_3 : decode cX1_dry 3 = .ok (.aload_n 0, 1) := da_560.2.2.2.2.2.2.2.1
theorem dX1_dry_4 : decode cX1_dry 4 = .ok (.getfield 37, 3) := da_560.2.2.2.2.2.2.2.2.1
theorem dX1_dry_7 : decode cX1_dry 7 = .ok (.if_icmp .ge 35, 3) := da_560.2.2.2.2.2.2.2.2.2
theorem da_570 : (decode cX1_dry 10 = .ok (.aload_n 0, 1)) ∧ (decode cX1_dry 11 = .ok (.iload_n 1, 1)) ∧ (decode cX1_dry 12 = .ok (.invokevirtual 75, 3)) ∧ (decode cX1_dry 15 = .ok (.ifCond .eq 21, 3)) ∧ (decode cX1_dry 18 = .ok (.aload_n 0, 1)) ∧ (decode cX1_dry 19 = .ok (.getfield 15, 3)) ∧ (decode cX1_dry 22 = .ok (.iload_n 1, 1)) ∧ (decode cX1_dry 23 = .ok (.iconst 0, 1)) ∧ (decode cX1_dry 24 = .ok (.aload_n 0, 1)) ∧ (decode cX1_dry 25 = .ok (.getfield 15, 3)) := by decide +kernel
theorem dX1_dry_10 : decode cX1_dry 10 = .ok (.aload_n 0, 1) := da_570.1
theorem dX1_dry_11 : decode cX1_dry 11 = .ok (.iload_n 1, 1) := da_570.2.1
theorem dX1_dry_12 : decode cX1_dry 12 = .ok (.invokevirtual 75, 3) := da_570.2.2.1
theorem dX1_dry_15 : decode cX1_dry 15 = .ok (.ifCond .eq 21, 3) := da_570.2.2.2.1
theorem dX1_dry_18 : decode cX1_dry 18 = .ok (.aload_n 0, 1) := da_570.2.2.2.2.1
theorem dX1_dry_19 : decode cX1_dry 19 = .ok (.getfield 15, 3) := da_570.2.2.2.2.2.1
theorem dX1_dry_22 : decode cX1_dry 22 = .ok (.iload_n 1, 1) := da_570.2.2.2.2.2.2.1
theorem dX1_dry_23 : decode cX1_dry 23 = .ok (.iconst 0, 1) := da_570.2.2.2.2.2.2.2.1
theorem dX1_dry_24 : decode cX1_dry 24 = .ok (.aload_n 0, 1) := da_570.2.2.2.2.2.2.2.2.1
theorem dX1_dry_25 : decode cX1_dry 25 = .ok (.getfield 15, 3) := da_570.2.2.2.2.2.2.2.2.2
theorem da_580 : (decode cX1_dry 28 = .ok (.iload_n 1, 1)) ∧ (decode cX1_dry 29 = .ok (.iaload, 1)) ∧ (decode cX1_dry 30 = .ok (.iconst 1, 1)) ∧ (decode cX1_dry 31 = .ok (.isub, 1)) ∧ (decode cX1_dry 32 = .ok (.invokestatic 123, 3)) ∧ (decode cX1_dry 35 = .ok (.iastore, 1)) ∧ (decode cX1_dry 36 = .ok (.iinc 1 1, 3)) ∧ (decode cX1_dry 39 = .ok (.goto (-37), 3)) ∧ (decode cX1_dry 42 = .ok (.aload_n 0, 1)) ∧ (decode cX1_dry 43 = .ok (.sipush 999, 3)) := by decide +kernel
theorem dX1_dry_28 : decode cX1_dry 28 = .ok (.iload_n 1, 1) := da_580.1
theorem dX1_dry_29 : decode cX1_dry 29 = .ok (.iaload, 1) := da_580.2.1
theorem dX1_dry_30 : decode cX1_dry 30 = .ok (.iconst 1, 1) := da_580.2.2.1
theorem dX1_dry_31 : decode cX1_dry 31 = .ok (.isub, 1) := da_580.2.2.2.1
theorem dX1_dry_32 : decode cX1_dry 32 = .ok (.invokestatic 123, 3) := da_580.2.2.2.2.1
theorem dX1_dry_35 : decode cX1_dry 35 = .ok (.iastore, 1) := da_580.2.2.2.2.2.1
theorem dX1_dry_36 : decode cX1_dry 36 = .ok (.iinc 1 1, 3) := da_580.2.2.2.2.2.2.1
theorem dX1_dry_39 : decode cX1_dry 39 = .ok (.goto (-37), 3) := da_580.2.2.2.2.2.2.2.1
theorem dX1_dry_42 : decode cX1_dry 42 = .ok (.aload_n 0, 1) := da_580.2.2.2.2.2.2.2.2.1
theorem dX1_dry_43 : decode cX1_dry 43 = .ok (.sipush 999, 3) := da_580.2.2.2.2.2.2.2.2.2
theorem da_590 : (decode cX1_dry 46 = .ok (.aload_n 0, 1)) ∧ (decode cX1_dry 47 = .ok (.getfield 43, 3)) ∧ (decode cX1_dry 50 = .ok (.iconst 1, 1)) ∧ (decode cX1_dry 51 = .ok (.iadd, 1)) ∧ (decode cX1_dry 52 = .ok (.invokestatic 118, 3)) ∧ (decode cX1_dry 55 = .ok (.putfield 43, 3)) ∧ (decode cX1_dry 58 = .ok (.return_, 1)) ∧ (decode cX1_board 0 = .ok (.aload_n 0, 1)) ∧ (decode cX1_board 1 = .ok (.invokevirtual 126, 3)) ∧ (decode cX1_board 4 = .ok (.istore_n 1, 1)) := by decide +kernel
theorem dX1_dry_46 : decode cX1_dry 46 = .ok (.aload_n 0, 1) := da_590.1
theorem dX1_dry_47 : decode cX1_dry 47 = .ok (.getfield 43, 3) := da_590.2.1
theorem dX1_dry_50 : decode cX1_dry 50 = .ok (.iconst 1, 1) := da_590.2.2.1
theorem dX1_dry_51 : decode cX1_dry 51 = .ok (.iadd, 1) := da_590.2.2.2.1
theorem dX1_dry_52 : decode cX1_dry 52 = .ok (.invokestatic 118, 3) := da_590.2.2.2.2.1
theorem dX1_dry_55 : decode cX1_dry 55 = .ok (.putfield 43, 3) := da_590.2.2.2.2.2.1
theorem dX1_dry_58 : decode cX1_dry 58 = .ok (.return_, 1) := da_590.2.2.2.2.2.2.1
theorem dX1_board_0 : decode cX1_board 0 = .ok (.aload_n 0, 1) := da_590.2.2.2.2.2.2.2.1
theorem dX1_board_1 : decode cX1_board 1 = .ok (.invokevirtual 126, 3) := da_590.2.2.2.2.2.2.2.2.1
theorem dX1_board_4 : decode cX1_board 4 = .ok (.istore_n 1, 1) := da_590.2.2.2.2.2.2.2.2.2
theorem da_600 : (decode cX1_board 5 = .ok (.iconst 0, 1)) ∧ (decode cX1_board 6 = .ok (.istore_n 2, 1)) ∧ (decode cX1_board 7 = .ok (.iconst 0, 1)) ∧ (decode cX1_board 8 = .ok (.istore_n 3, 1)) ∧ (decode cX1_board 9 = .ok (.iload_n 3, 1)) ∧ (decode cX1_board 10 = .ok (.iload_n 1, 1)) ∧ (decode cX1_board 11 = .ok (.if_icmp .ge 28, 3)) ∧ (decode cX1_board 14 = .ok (.iload_n 3, 1)) ∧ (decode cX1_board 15 = .ok (.aload_n 0, 1)) ∧ (decode cX1_board 16 = .ok (.getfield 27, 3)) := by decide +kernel
theorem dX1_board_5 : decode cX1_board 5 = .ok (.iconst 0, 1) := da_600.1
theorem dX1_board_6 : decode cX1_board 6 = .ok (.istore_n 2, 1) := da_600.2.1
theorem dX1_board_7 : decode cX1_board 7 = .ok (.iconst 0, 1) := da_600.2.2.1
theorem dX1_board_8 : decode cX1_board 8 = .ok (.istore_n 3, 1) := da_600.2.2.2.1
theorem dX1_board_9 : decode cX1_board 9 = .ok (.iload_n 3, 1) := da_600.2.2.2.2.1
theorem dX1_board_10 : decode cX1_board 10 = .ok (.iload_n 1, 1) := da_600.2.2.2.2.2.1
theorem dX1_board_11 : decode cX1_board 11 = .ok (.if_icmp .ge 28, 3) := da_600.2.2.2.2.2.2.1
theorem dX1_board_14 : decode cX1_board 14 = .ok (.iload_n 3, 1) := da_600.2.2.2.2.2.2.2.1
theorem dX1_board_15 : decode cX1_board 15 = .ok (.aload_n 0, 1) := da_600.2.2.2.2.2.2.2.2.1
theorem dX1_board_16 : decode cX1_board 16 = .ok (.getfield 27, 3) := da_600.2.2.2.2.2.2.2.2.2
theorem da_610 : (decode cX1_board 19 = .ok (.if_icmp .ge 20, 3)) ∧ (decode cX1_board 22 = .ok (.iload_n 2, 1)) ∧ (decode cX1_board 23 = .ok (.iconst 1, 1)) ∧ (decode cX1_board 24 = .ok (.aload_n 0, 1)) ∧ (decode cX1_board 25 = .ok (.getfield 24, 3)) ∧ (decode cX1_board 28 = .ok (.iload_n 3, 1)) ∧ (decode cX1_board 29 = .ok (.iaload, 1)) ∧ (decode cX1_board 30 = .ok (.ishl, 1)) ∧ (decode cX1_board 31 = .ok (.ior, 1)) ∧ (decode cX1_board 32 = .ok (.istore_n 2, 1)) := by decide +kernel
theorem dX1_board_19 : decode cX1_board 19 = .ok (.if_icmp .ge 20, 3) := da_610.1
theorem dX1_board_22 : decode cX1_board 22 = .ok (.iload_n 2, 1) := da_610.2.1
theorem dX1_board_23 : decode cX1_board 23 = .ok (.iconst 1, 1) := da_610.2.2.1
theorem dX1_board_24 : decode cX1_board 24 = .ok (.aload_n 0, 1) := da_610.2.2.2.1
theorem dX1_board_25 : decode cX1_board 25 = .ok (.getfield 24, 3) := da_610.2.2.2.2.1
theorem dX1_board_28 : decode cX1_board 28 = .ok (.iload_n 3, 1) := da_610.2.2.2.2.2.1
theorem dX1_board_29 : decode cX1_board 29 = .ok (.iaload, 1) := da_610.2.2.2.2.2.2.1
theorem dX1_board_30 : decode cX1_board 30 = .ok (.ishl, 1) := da_610.2.2.2.2.2.2.2.1
theorem dX1_board_31 : decode cX1_board 31 = .ok (.ior, 1) := da_610.2.2.2.2.2.2.2.2.1
theorem dX1_board_32 : decode cX1_board 32 = .ok (.istore_n 2, 1) := da_610.2.2.2.2.2.2.2.2.2
theorem da_620 : (decode cX1_board 33 = .ok (.iinc 3 1, 3)) ∧ (decode cX1_board 36 = .ok (.goto (-27), 3)) ∧ (decode cX1_board 39 = .ok (.aload_n 0, 1)) ∧ (decode cX1_board 40 = .ok (.dup, 1)) ∧ (decode cX1_board 41 = .ok (.getfield 40, 3)) ∧ (decode cX1_board 44 = .ok (.iload_n 2, 1)) ∧ (decode cX1_board 45 = .ok (.ior, 1)) ∧ (decode cX1_board 46 = .ok (.putfield 40, 3)) ∧ (decode cX1_board 49 = .ok (.iload_n 2, 1)) ∧ (decode cX1_board 50 = .ok (.ireturn, 1)) := by decide +kernel
theorem dX1_board_33 : decode cX1_board 33 = .ok (.iinc 3 1, 3) := da_620.1
theorem dX1_board_36 : decode cX1_board 36 = .ok (.goto (-27), 3) := da_620.2.1
theorem dX1_board_39 : decode cX1_board 39 = .ok (.aload_n 0, 1) := da_620.2.2.1
theorem dX1_board_40 : decode cX1_board 40 = .ok (.dup, 1) := da_620.2.2.2.1
theorem dX1_board_41 : decode cX1_board 41 = .ok (.getfield 40, 3) := da_620.2.2.2.2.1
theorem dX1_board_44 : decode cX1_board 44 = .ok (.iload_n 2, 1) := da_620.2.2.2.2.2.1
theorem dX1_board_45 : decode cX1_board 45 = .ok (.ior, 1) := da_620.2.2.2.2.2.2.1
theorem dX1_board_46 : decode cX1_board 46 = .ok (.putfield 40, 3) := da_620.2.2.2.2.2.2.2.1
theorem dX1_board_49 : decode cX1_board 49 = .ok (.iload_n 2, 1) := da_620.2.2.2.2.2.2.2.2.1
theorem dX1_board_50 : decode cX1_board 50 = .ok (.ireturn, 1) := da_620.2.2.2.2.2.2.2.2.2
theorem da_630 : (decode cX1_inLine 0 = .ok (.aload_n 0, 1)) ∧ (decode cX1_inLine 1 = .ok (.invokevirtual 126, 3)) ∧ (decode cX1_inLine 4 = .ok (.istore_n 2, 1)) ∧ (decode cX1_inLine 5 = .ok (.iload_n 1, 1)) ∧ (decode cX1_inLine 6 = .ok (.ifCond .lt 17, 3)) ∧ (decode cX1_inLine 9 = .ok (.iload_n 1, 1)) ∧ (decode cX1_inLine 10 = .ok (.iload_n 2, 1)) ∧ (decode cX1_inLine 11 = .ok (.if_icmp .ge 12, 3)) ∧ (decode cX1_inLine 14 = .ok (.aload_n 0, 1)) ∧ (decode cX1_inLine 15 = .ok (.getfield 24, 3)) := by decide +kernel
theorem dX1_inLine_0 : decode cX1_inLine 0 = .ok (.aload_n 0, 1) := da_630.1
theorem dX1_inLine_1 : decode cX1_inLine 1 = .ok (.invokevirtual 126, 3) := da_630.2.1
theorem dX1_inLine_4 : decode cX1_inLine 4 = .ok (.istore_n 2, 1) := da_630.2.2.1
theorem dX1_inLine_5 : decode cX1_inLine 5 = .ok (.iload_n 1, 1) := da_630.2.2.2.1
theorem dX1_inLine_6 : decode cX1_inLine 6 = .ok (.ifCond .lt 17, 3) := da_630.2.2.2.2.1
theorem dX1_inLine_9 : decode cX1_inLine 9 = .ok (.iload_n 1, 1) := da_630.2.2.2.2.2.1
theorem dX1_inLine_10 : decode cX1_inLine 10 = .ok (.iload_n 2, 1) := da_630.2.2.2.2.2.2.1
theorem dX1_inLine_11 : decode cX1_inLine 11 = .ok (.if_icmp .ge 12, 3) := da_630.2.2.2.2.2.2.2.1
theorem dX1_inLine_14 : decode cX1_inLine 14 = .ok (.aload_n 0, 1) := da_630.2.2.2.2.2.2.2.2.1
theorem dX1_inLine_15 : decode cX1_inLine 15 = .ok (.getfield 24, 3) := da_630.2.2.2.2.2.2.2.2.2
theorem da_640 : (decode cX1_inLine 18 = .ok (.iload_n 1, 1)) ∧ (decode cX1_inLine 19 = .ok (.iaload, 1)) ∧ (decode cX1_inLine 20 = .ok (.goto 5, 3)) ∧ (decode cX1_inLine 23 = .ok (.bipush (-4), 2)) ∧ (decode cX1_inLine 25 = .ok (.ireturn, 1)) ∧ (decode cX1_lineUp 0 = .ok (.iconst 0, 1)) ∧ (decode cX1_lineUp 1 = .ok (.istore_n 1, 1)) ∧ (decode cX1_lineUp 2 = .ok (.iconst 0, 1)) ∧ (decode cX1_lineUp 3 = .ok (.istore_n 2, 1)) ∧ (decode cX1_lineUp 4 = .ok (.iload_n 2, 1)) := by decide +kernel
theorem dX1_inLine_18 : decode cX1_inLine 18 = .ok (.iload_n 1, 1) := da_640.1
theorem dX1_inLine_19 : decode cX1_inLine 19 = .ok (.iaload, 1) := da_640.2.1
theorem dX1_inLine_20 : decode cX1_inLine 20 = .ok (.goto 5, 3) := da_640.2.2.1
theorem dX1_inLine_23 : decode cX1_inLine 23 = .ok (.bipush (-4), 2) := da_640.2.2.2.1
theorem dX1_inLine_25 : decode cX1_inLine 25 = .ok (.ireturn, 1) := da_640.2.2.2.2.1
theorem dX1_lineUp_0 : decode cX1_lineUp 0 = .ok (.iconst 0, 1) := da_640.2.2.2.2.2.1
theorem dX1_lineUp_1 : decode cX1_lineUp 1 = .ok (.istore_n 1, 1) := da_640.2.2.2.2.2.2.1
theorem dX1_lineUp_2 : decode cX1_lineUp 2 = .ok (.iconst 0, 1) := da_640.2.2.2.2.2.2.2.1
theorem dX1_lineUp_3 : decode cX1_lineUp 3 = .ok (.istore_n 2, 1) := da_640.2.2.2.2.2.2.2.2.1
theorem dX1_lineUp_4 : decode cX1_lineUp 4 = .ok (.iload_n 2, 1) := da_640.2.2.2.2.2.2.2.2.2
theorem da_650 : (decode cX1_lineUp 5 = .ok (.aload_n 0, 1)) ∧ (decode cX1_lineUp 6 = .ok (.getfield 37, 3)) ∧ (decode cX1_lineUp 9 = .ok (.if_icmp .ge 73, 3)) ∧ (decode cX1_lineUp 12 = .ok (.aload_n 0, 1)) ∧ (decode cX1_lineUp 13 = .ok (.iload_n 2, 1)) ∧ (decode cX1_lineUp 14 = .ok (.invokevirtual 75, 3)) ∧ (decode cX1_lineUp 17 = .ok (.ifCond .eq 59, 3)) ∧ (decode cX1_lineUp 20 = .ok (.iload_n 1, 1)) ∧ (decode cX1_lineUp 21 = .ok (.istore_n 3, 1)) ∧ (decode cX1_lineUp 22 = .ok (.iload_n 3, 1)) := by decide +kernel
theorem dX1_lineUp_5 : decode cX1_lineUp 5 = .ok (.aload_n 0, 1) := da_650.1
theorem dX1_lineUp_6 : decode cX1_lineUp 6 = .ok (.getfield 37, 3) := da_650.2.1
theorem dX1_lineUp_9 : decode cX1_lineUp 9 = .ok (.if_icmp .ge 73, 3) := da_650.2.2.1
theorem dX1_lineUp_12 : decode cX1_lineUp 12 = .ok (.aload_n 0, 1) := da_650.2.2.2.1
theorem dX1_lineUp_13 : decode cX1_lineUp 13 = .ok (.iload_n 2, 1) := da_650.2.2.2.2.1
theorem dX1_lineUp_14 : decode cX1_lineUp 14 = .ok (.invokevirtual 75, 3) := da_650.2.2.2.2.2.1
theorem dX1_lineUp_17 : decode cX1_lineUp 17 = .ok (.ifCond .eq 59, 3) := da_650.2.2.2.2.2.2.1
theorem dX1_lineUp_20 : decode cX1_lineUp 20 = .ok (.iload_n 1, 1) := da_650.2.2.2.2.2.2.2.1
theorem dX1_lineUp_21 : decode cX1_lineUp 21 = .ok (.istore_n 3, 1) := da_650.2.2.2.2.2.2.2.2.1
theorem dX1_lineUp_22 : decode cX1_lineUp 22 = .ok (.iload_n 3, 1) := da_650.2.2.2.2.2.2.2.2.2
theorem da_660 : (decode cX1_lineUp 23 = .ok (.ifCond .le 43, 3)) ∧ (decode cX1_lineUp 26 = .ok (.aload_n 0, 1)) ∧ (decode cX1_lineUp 27 = .ok (.aload_n 0, 1)) ∧ (decode cX1_lineUp 28 = .ok (.getfield 24, 3)) ∧ (decode cX1_lineUp 31 = .ok (.iload_n 3, 1)) ∧ (decode cX1_lineUp 32 = .ok (.iconst 1, 1)) ∧ (decode cX1_lineUp 33 = .ok (.isub, 1)) ∧ (decode cX1_lineUp 34 = .ok (.iaload, 1)) ∧ (decode cX1_lineUp 35 = .ok (.invokevirtual 129, 3)) ∧ (decode cX1_lineUp 38 = .ok (.aload_n 0, 1)) := by decide +kernel
theorem dX1_lineUp_23 : decode cX1_lineUp 23 = .ok (.ifCond .le 43, 3) := da_660.1
theorem dX1_lineUp_26 : decode cX1_lineUp 26 = .ok (.aload_n 0, 1) := da_660.2.1
theorem dX1_lineUp_27 : decode cX1_lineUp 27 = .ok (.aload_n 0, 1) := da_660.2.2.1
theorem dX1_lineUp_28 : decode cX1_lineUp 28 = .ok (.getfield 24, 3) := da_660.2.2.2.1
theorem dX1_lineUp_31 : decode cX1_lineUp 31 = .ok (.iload_n 3, 1) := da_660.2.2.2.2.1
theorem dX1_lineUp_32 : decode cX1_lineUp 32 = .ok (.iconst 1, 1) := da_660.2.2.2.2.2.1
theorem dX1_lineUp_33 : decode cX1_lineUp 33 = .ok (.isub, 1) := da_660.2.2.2.2.2.2.1
theorem dX1_lineUp_34 : decode cX1_lineUp 34 = .ok (.iaload, 1) := da_660.2.2.2.2.2.2.2.1
theorem dX1_lineUp_35 : decode cX1_lineUp 35 = .ok (.invokevirtual 129, 3) := da_660.2.2.2.2.2.2.2.2.1
theorem dX1_lineUp_38 : decode cX1_lineUp 38 = .ok (.aload_n 0, 1) := da_660.2.2.2.2.2.2.2.2.2
theorem da_670 : (decode cX1_lineUp 39 = .ok (.iload_n 2, 1)) ∧ (decode cX1_lineUp 40 = .ok (.invokevirtual 129, 3)) ∧ (decode cX1_lineUp 43 = .ok (.if_icmp .ge 23, 3)) ∧ (decode cX1_lineUp 46 = .ok (.aload_n 0, 1)) ∧ (decode cX1_lineUp 47 = .ok (.getfield 24, 3)) ∧ (decode cX1_lineUp 50 = .ok (.iload_n 3, 1)) ∧ (decode cX1_lineUp 51 = .ok (.aload_n 0, 1)) ∧ (decode cX1_lineUp 52 = .ok (.getfield 24, 3)) ∧ (decode cX1_lineUp 55 = .ok (.iload_n 3, 1)) ∧ (decode cX1_lineUp 56 = .ok (.iconst 1, 1)) := by decide +kernel
theorem dX1_lineUp_39 : decode cX1_lineUp 39 = .ok (.iload_n 2, 1) := da_670.1
theorem dX1_lineUp_40 : decode cX1_lineUp 40 = .ok (.invokevirtual 129, 3) := da_670.2.1
theorem dX1_lineUp_43 : decode cX1_lineUp 43 = .ok (.if_icmp .ge 23, 3) := da_670.2.2.1
theorem dX1_lineUp_46 : decode cX1_lineUp 46 = .ok (.aload_n 0, 1) := da_670.2.2.2.1
theorem dX1_lineUp_47 : decode cX1_lineUp 47 = .ok (.getfield 24, 3) := da_670.2.2.2.2.1
theorem dX1_lineUp_50 : decode cX1_lineUp 50 = .ok (.iload_n 3, 1) := da_670.2.2.2.2.2.1
theorem dX1_lineUp_51 : decode cX1_lineUp 51 = .ok (.aload_n 0, 1) := da_670.2.2.2.2.2.2.1
theorem dX1_lineUp_52 : decode cX1_lineUp 52 = .ok (.getfield 24, 3) := da_670.2.2.2.2.2.2.2.1
theorem dX1_lineUp_55 : decode cX1_lineUp 55 = .ok (.iload_n 3, 1) := da_670.2.2.2.2.2.2.2.2.1
theorem dX1_lineUp_56 : decode cX1_lineUp 56 = .ok (.iconst 1, 1) := da_670.2.2.2.2.2.2.2.2.2
theorem da_680 : (decode cX1_lineUp 57 = .ok (.isub, 1)) ∧ (decode cX1_lineUp 58 = .ok (.iaload, 1)) ∧ (decode cX1_lineUp 59 = .ok (.iastore, 1)) ∧ (decode cX1_lineUp 60 = .ok (.iinc 3 (-1), 3)) ∧ (decode cX1_lineUp 63 = .ok (.goto (-41), 3)) ∧ (decode cX1_lineUp 66 = .ok (.aload_n 0, 1)) ∧ (decode cX1_lineUp 67 = .ok (.getfield 24, 3)) ∧ (decode cX1_lineUp 70 = .ok (.iload_n 3, 1)) ∧ (decode cX1_lineUp 71 = .ok (.iload_n 2, 1)) ∧ (decode cX1_lineUp 72 = .ok (.iastore, 1)) := by decide +kernel
theorem dX1_lineUp_57 : decode cX1_lineUp 57 = .ok (.isub, 1) := da_680.1
theorem dX1_lineUp_58 : decode cX1_lineUp 58 = .ok (.iaload, 1) := da_680.2.1
theorem dX1_lineUp_59 : decode cX1_lineUp 59 = .ok (.iastore, 1) := da_680.2.2.1
theorem dX1_lineUp_60 : decode cX1_lineUp 60 = .ok (.iinc 3 (-1), 3) := da_680.2.2.2.1
theorem dX1_lineUp_63 : decode cX1_lineUp 63 = .ok (.goto (-41), 3) := da_680.2.2.2.2.1
theorem dX1_lineUp_66 : decode cX1_lineUp 66 = .ok (.aload_n 0, 1) := da_680.2.2.2.2.2.1
theorem dX1_lineUp_67 : decode cX1_lineUp 67 = .ok (.getfield 24, 3) := da_680.2.2.2.2.2.2.1
theorem dX1_lineUp_70 : decode cX1_lineUp 70 = .ok (.iload_n 3, 1) := da_680.2.2.2.2.2.2.2.1
theorem dX1_lineUp_71 : decode cX1_lineUp 71 = .ok (.iload_n 2, 1) := da_680.2.2.2.2.2.2.2.2.1
theorem dX1_lineUp_72 : decode cX1_lineUp 72 = .ok (.iastore, 1) := da_680.2.2.2.2.2.2.2.2.2
theorem da_690 : (decode cX1_lineUp 73 = .ok (.iinc 1 1, 3)) ∧ (decode cX1_lineUp 76 = .ok (.iinc 2 1, 3)) ∧ (decode cX1_lineUp 79 = .ok (.goto (-75), 3)) ∧ (decode cX1_lineUp 82 = .ok (.iload_n 1, 1)) ∧ (decode cX1_lineUp 83 = .ok (.ireturn, 1)) ∧ (decode cX1_rank 0 = .ok (.aload_n 0, 1)) ∧ (decode cX1_rank 1 = .ok (.getfield 9, 3)) ∧ (decode cX1_rank 4 = .ok (.iload_n 1, 1)) ∧ (decode cX1_rank 5 = .ok (.iaload, 1)) ∧ (decode cX1_rank 6 = .ok (.iconst 2, 1)) := by decide +kernel
theorem dX1_lineUp_73 : decode cX1_lineUp 73 = .ok (.iinc 1 1, 3) := da_690.1
theorem dX1_lineUp_76 : decode cX1_lineUp 76 = .ok (.iinc 2 1, 3) := da_690.2.1
theorem dX1_lineUp_79 : decode cX1_lineUp 79 = .ok (.goto (-75), 3) := da_690.2.2.1
theorem dX1_lineUp_82 : decode cX1_lineUp 82 = .ok (.iload_n 1, 1) := da_690.2.2.2.1
theorem dX1_lineUp_83 : decode cX1_lineUp 83 = .ok (.ireturn, 1) := da_690.2.2.2.2.1
theorem dX1_rank_0 : decode cX1_rank 0 = .ok (.aload_n 0, 1) := da_690.2.2.2.2.2.1
theorem dX1_rank_1 : decode cX1_rank 1 = .ok (.getfield 9, 3) := da_690.2.2.2.2.2.2.1
theorem dX1_rank_4 : decode cX1_rank 4 = .ok (.iload_n 1, 1) := da_690.2.2.2.2.2.2.2.1
theorem dX1_rank_5 : decode cX1_rank 5 = .ok (.iaload, 1) := da_690.2.2.2.2.2.2.2.2.1
theorem dX1_rank_6 : decode cX1_rank 6 = .ok (.iconst 2, 1) := da_690.2.2.2.2.2.2.2.2.2
theorem da_700 : (decode cX1_rank 7 = .ok (.if_icmp .ne 16, 3)) ∧ (decode cX1_rank 10 = .ok (.aload_n 0, 1)) ∧ (decode cX1_rank 11 = .ok (.getfield 15, 3)) ∧ (decode cX1_rank 14 = .ok (.iload_n 1, 1)) ∧ (decode cX1_rank 15 = .ok (.iaload, 1)) ∧ (decode cX1_rank 16 = .ok (.ifCond .ne 7, 3)) ∧ (decode cX1_rank 19 = .ok (.iconst 1, 1)) ∧ (decode cX1_rank 20 = .ok (.goto 4, 3)) ∧ (decode cX1_rank 23 = .ok (.iconst 0, 1)) ∧ (decode cX1_rank 24 = .ok (.istore_n 2, 1)) := by decide +kernel
theorem dX1_rank_7 : decode cX1_rank 7 = .ok (.if_icmp .ne 16, 3) := da_700.1
theorem dX1_rank_10 : decode cX1_rank 10 = .ok (.aload_n 0, 1) := da_700.2.1
theorem dX1_rank_11 : decode cX1_rank 11 = .ok (.getfield 15, 3) := da_700.2.2.1
theorem dX1_rank_14 : decode cX1_rank 14 = .ok (.iload_n 1, 1) := da_700.2.2.2.1
theorem dX1_rank_15 : decode cX1_rank 15 = .ok (.iaload, 1) := da_700.2.2.2.2.1
theorem dX1_rank_16 : decode cX1_rank 16 = .ok (.ifCond .ne 7, 3) := da_700.2.2.2.2.2.1
theorem dX1_rank_19 : decode cX1_rank 19 = .ok (.iconst 1, 1) := da_700.2.2.2.2.2.2.1
theorem dX1_rank_20 : decode cX1_rank 20 = .ok (.goto 4, 3) := da_700.2.2.2.2.2.2.2.1
theorem dX1_rank_23 : decode cX1_rank 23 = .ok (.iconst 0, 1) := da_700.2.2.2.2.2.2.2.2.1
theorem dX1_rank_24 : decode cX1_rank 24 = .ok (.istore_n 2, 1) := da_700.2.2.2.2.2.2.2.2.2
theorem da_710 : (decode cX1_rank 25 = .ok (.iload_n 2, 1)) ∧ (decode cX1_rank 26 = .ok (.ifCond .eq 8, 3)) ∧ (decode cX1_rank 29 = .ok (.bipush (-2), 2)) ∧ (decode cX1_rank 31 = .ok (.goto 9, 3)) ∧ (decode cX1_rank 34 = .ok (.aload_n 0, 1)) ∧ (decode cX1_rank 35 = .ok (.getfield 18, 3)) ∧ (decode cX1_rank 38 = .ok (.iload_n 1, 1)) ∧ (decode cX1_rank 39 = .ok (.iaload, 1)) ∧ (decode cX1_rank 40 = .ok (.ireturn, 1)) ∧ (decode cX0_init 0 = .ok (.aload_n 0, 1)) := by decide +kernel
theorem dX1_rank_25 : decode cX1_rank 25 = .ok (.iload_n 2, 1) := da_710.1
theorem dX1_rank_26 : decode cX1_rank 26 = .ok (.ifCond .eq 8, 3) := da_710.2.1
theorem dX1_rank_29 : decode cX1_rank 29 = .ok (.bipush (-2), 2) := da_710.2.2.1
theorem dX1_rank_31 : decode cX1_rank 31 = .ok (.goto 9, 3) := da_710.2.2.2.1
theorem dX1_rank_34 : decode cX1_rank 34 = .ok (.aload_n 0, 1) := da_710.2.2.2.2.1
theorem dX1_rank_35 : decode cX1_rank 35 = .ok (.getfield 18, 3) := da_710.2.2.2.2.2.1
theorem dX1_rank_38 : decode cX1_rank 38 = .ok (.iload_n 1, 1) := da_710.2.2.2.2.2.2.1
theorem dX1_rank_39 : decode cX1_rank 39 = .ok (.iaload, 1) := da_710.2.2.2.2.2.2.2.1
theorem dX1_rank_40 : decode cX1_rank 40 = .ok (.ireturn, 1) := da_710.2.2.2.2.2.2.2.2.1
theorem dX0_init_0 : decode cX0_init 0 = .ok (.aload_n 0, 1) := da_710.2.2.2.2.2.2.2.2.2
theorem da_720 : (decode cX0_init 1 = .ok (.invokespecial 3, 3)) ∧ (decode cX0_init 4 = .ok (.aload_n 0, 1)) ∧ (decode cX0_init 5 = .ok (.bipush 9, 2)) ∧ (decode cX0_init 7 = .ok (.anewarray 9, 3)) ∧ (decode cX0_init 10 = .ok (.putfield 11, 3)) ∧ (decode cX0_init 13 = .ok (.aload_n 0, 1)) ∧ (decode cX0_init 14 = .ok (.iconst 5, 1)) ∧ (decode cX0_init 15 = .ok (.newarray .long, 2)) ∧ (decode cX0_init 17 = .ok (.putfield 17, 3)) ∧ (decode cX0_init 20 = .ok (.iconst 0, 1)) := by decide +kernel
theorem dX0_init_1 : decode cX0_init 1 = .ok (.invokespecial 3, 3) := da_720.1
theorem dX0_init_4 : decode cX0_init 4 = .ok (.aload_n 0, 1) := da_720.2.1
theorem dX0_init_5 : decode cX0_init 5 = .ok (.bipush 9, 2) := da_720.2.2.1
theorem dX0_init_7 : decode cX0_init 7 = .ok (.anewarray 9, 3) := da_720.2.2.2.1
theorem dX0_init_10 : decode cX0_init 10 = .ok (.putfield 11, 3) := da_720.2.2.2.2.1
theorem dX0_init_13 : decode cX0_init 13 = .ok (.aload_n 0, 1) := da_720.2.2.2.2.2.1
theorem dX0_init_14 : decode cX0_init 14 = .ok (.iconst 5, 1) := da_720.2.2.2.2.2.2.1
theorem dX0_init_15 : decode cX0_init 15 = .ok (.newarray .long, 2) := da_720.2.2.2.2.2.2.2.1
theorem dX0_init_17 : decode cX0_init 17 = .ok (.putfield 17, 3) := da_720.2.2.2.2.2.2.2.2.1
theorem dX0_init_20 : decode cX0_init 20 = .ok (.iconst 0, 1) := da_720.2.2.2.2.2.2.2.2.2
theorem da_730 : (decode cX0_init 21 = .ok (.istore_n 1, 1)) ∧ (decode cX0_init 22 = .ok (.iload_n 1, 1)) ∧ (decode cX0_init 23 = .ok (.bipush 8, 2)) ∧ (decode cX0_init 25 = .ok (.if_icmp .gt 22, 3)) ∧ (decode cX0_init 28 = .ok (.aload_n 0, 1)) ∧ (decode cX0_init 29 = .ok (.getfield 11, 3)) ∧ (decode cX0_init 32 = .ok (.iload_n 1, 1)) ∧ (decode cX0_init 33 = .ok (.new 9, 3)) ∧ (decode cX0_init 36 = .ok (.dup, 1)) ∧ (decode cX0_init 37 = .ok (.invokespecial 21, 3)) := by decide +kernel
theorem dX0_init_21 : decode cX0_init 21 = .ok (.istore_n 1, 1) := da_730.1
theorem dX0_init_22 : decode cX0_init 22 = .ok (.iload_n 1, 1) := da_730.2.1
theorem dX0_init_23 : decode cX0_init 23 = .ok (.bipush 8, 2) := da_730.2.2.1
theorem dX0_init_25 : decode cX0_init 25 = .ok (.if_icmp .gt 22, 3) := da_730.2.2.2.1
theorem dX0_init_28 : decode cX0_init 28 = .ok (.aload_n 0, 1) := da_730.2.2.2.2.1
theorem dX0_init_29 : decode cX0_init 29 = .ok (.getfield 11, 3) := da_730.2.2.2.2.2.1
theorem dX0_init_32 : decode cX0_init 32 = .ok (.iload_n 1, 1) := da_730.2.2.2.2.2.2.1
theorem dX0_init_33 : decode cX0_init 33 = .ok (.new 9, 3) := da_730.2.2.2.2.2.2.2.1
theorem dX0_init_36 : decode cX0_init 36 = .ok (.dup, 1) := da_730.2.2.2.2.2.2.2.2.1
theorem dX0_init_37 : decode cX0_init 37 = .ok (.invokespecial 21, 3) := da_730.2.2.2.2.2.2.2.2.2
theorem da_740 : (decode cX0_init 40 = .ok (.aastore, 1)) ∧ (decode cX0_init 41 = .ok (.iinc 1 1, 3)) ∧ (decode cX0_init 44 = .ok (.goto (-22), 3)) ∧ (decode cX0_init 47 = .ok (.return_, 1)) ∧ (decode cX0_weightOf 0 = .ok (.iload_n 1, 1)) ∧ (decode cX0_weightOf 1 = .ok (.ifCond .lt 17, 3)) ∧ (decode cX0_weightOf 4 = .ok (.iload_n 1, 1)) ∧ (decode cX0_weightOf 5 = .ok (.iconst 5, 1)) ∧ (decode cX0_weightOf 6 = .ok (.if_icmp .ge 12, 3)) ∧ (decode cX0_weightOf 9 = .ok (.aload_n 0, 1)) := by decide +kernel
theorem dX0_init_40 : decode cX0_init 40 = .ok (.aastore, 1) := da_740.1
theorem dX0_init_41 : decode cX0_init 41 = .ok (.iinc 1 1, 3) := da_740.2.1
theorem dX0_init_44 : decode cX0_init 44 = .ok (.goto (-22), 3) := da_740.2.2.1
theorem dX0_init_47 : decode cX0_init 47 = .ok (.return_, 1) := da_740.2.2.2.1
theorem dX0_weightOf_0 : decode cX0_weightOf 0 = .ok (.iload_n 1, 1) := da_740.2.2.2.2.1
theorem dX0_weightOf_1 : decode cX0_weightOf 1 = .ok (.ifCond .lt 17, 3) := da_740.2.2.2.2.2.1
theorem dX0_weightOf_4 : decode cX0_weightOf 4 = .ok (.iload_n 1, 1) := da_740.2.2.2.2.2.2.1
theorem dX0_weightOf_5 : decode cX0_weightOf 5 = .ok (.iconst 5, 1) := da_740.2.2.2.2.2.2.2.1
theorem dX0_weightOf_6 : decode cX0_weightOf 6 = .ok (.if_icmp .ge 12, 3) := da_740.2.2.2.2.2.2.2.2.1
theorem dX0_weightOf_9 : decode cX0_weightOf 9 = .ok (.aload_n 0, 1) := da_740.2.2.2.2.2.2.2.2.2
theorem da_750 : (decode cX0_weightOf 10 = .ok (.getfield 17, 3)) ∧ (decode cX0_weightOf 13 = .ok (.iload_n 1, 1)) ∧ (decode cX0_weightOf 14 = .ok (.laload, 1)) ∧ (decode cX0_weightOf 15 = .ok (.goto 4, 3)) ∧ (decode cX0_weightOf 18 = .ok (.lconst 0, 1)) ∧ (decode cX0_weightOf 19 = .ok (.lreturn, 1)) ∧ (decode cX0_weighPlan 0 = .ok (.aload_n 0, 1)) ∧ (decode cX0_weighPlan 1 = .ok (.getfield 11, 3)) ∧ (decode cX0_weighPlan 4 = .ok (.iconst 0, 1)) ∧ (decode cX0_weighPlan 5 = .ok (.aaload, 1)) := by decide +kernel
theorem dX0_weightOf_10 : decode cX0_weightOf 10 = .ok (.getfield 17, 3) := da_750.1
theorem dX0_weightOf_13 : decode cX0_weightOf 13 = .ok (.iload_n 1, 1) := da_750.2.1
theorem dX0_weightOf_14 : decode cX0_weightOf 14 = .ok (.laload, 1) := da_750.2.2.1
theorem dX0_weightOf_15 : decode cX0_weightOf 15 = .ok (.goto 4, 3) := da_750.2.2.2.1
theorem dX0_weightOf_18 : decode cX0_weightOf 18 = .ok (.lconst 0, 1) := da_750.2.2.2.2.1
theorem dX0_weightOf_19 : decode cX0_weightOf 19 = .ok (.lreturn, 1) := da_750.2.2.2.2.2.1
theorem dX0_weighPlan_0 : decode cX0_weighPlan 0 = .ok (.aload_n 0, 1) := da_750.2.2.2.2.2.2.1
theorem dX0_weighPlan_1 : decode cX0_weighPlan 1 = .ok (.getfield 11, 3) := da_750.2.2.2.2.2.2.2.1
theorem dX0_weighPlan_4 : decode cX0_weighPlan 4 = .ok (.iconst 0, 1) := da_750.2.2.2.2.2.2.2.2.1
theorem dX0_weighPlan_5 : decode cX0_weighPlan 5 = .ok (.aaload, 1) := da_750.2.2.2.2.2.2.2.2.2
theorem da_760 : (decode cX0_weighPlan 6 = .ok (.aload_n 1, 1)) ∧ (decode cX0_weighPlan 7 = .ok (.invokevirtual 22, 3)) ∧ (decode cX0_weighPlan 10 = .ok (.aload_n 0, 1)) ∧ (decode cX0_weighPlan 11 = .ok (.getfield 17, 3)) ∧ (decode cX0_weighPlan 14 = .ok (.lconst 0, 1)) ∧ (decode cX0_weighPlan 15 = .ok (.invokestatic 26, 3)) ∧ (decode cX0_weighPlan 18 = .ok (.aload_n 0, 1)) ∧ (decode cX0_weighPlan 19 = .ok (.lconst 0, 1)) ∧ (decode cX0_weighPlan 20 = .ok (.putfield 32, 3)) ∧ (decode cX0_weighPlan 23 = .ok (.aload_n 0, 1)) := by decide +kernel
theorem dX0_weighPlan_6 : decode cX0_weighPlan 6 = .ok (.aload_n 1, 1) := da_760.1
theorem dX0_weighPlan_7 : decode cX0_weighPlan 7 = .ok (.invokevirtual 22, 3) := da_760.2.1
theorem dX0_weighPlan_10 : decode cX0_weighPlan 10 = .ok (.aload_n 0, 1) := da_760.2.2.1
theorem dX0_weighPlan_11 : decode cX0_weighPlan 11 = .ok (.getfield 17, 3) := da_760.2.2.2.1
theorem dX0_weighPlan_14 : decode cX0_weighPlan 14 = .ok (.lconst 0, 1) := da_760.2.2.2.2.1
theorem dX0_weighPlan_15 : decode cX0_weighPlan 15 = .ok (.invokestatic 26, 3) := da_760.2.2.2.2.2.1
theorem dX0_weighPlan_18 : decode cX0_weighPlan 18 = .ok (.aload_n 0, 1) := da_760.2.2.2.2.2.2.1
theorem dX0_weighPlan_19 : decode cX0_weighPlan 19 = .ok (.lconst 0, 1) := da_760.2.2.2.2.2.2.2.1
theorem dX0_weighPlan_20 : decode cX0_weighPlan 20 = .ok (.putfield 32, 3) := da_760.2.2.2.2.2.2.2.2.1
theorem dX0_weighPlan_23 : decode cX0_weighPlan 23 = .ok (.aload_n 0, 1) := da_760.2.2.2.2.2.2.2.2.2
theorem da_770 : (decode cX0_weighPlan 24 = .ok (.iconst 0, 1)) ∧ (decode cX0_weighPlan 25 = .ok (.lconst 1, 1)) ∧ (decode cX0_weighPlan 26 = .ok (.iload_n 2, 1)) ∧ (decode cX0_weighPlan 27 = .ok (.invokevirtual 36, 3)) ∧ (decode cX0_weighPlan 30 = .ok (.return_, 1)) ∧ (decode cX0_weighFrom 0 = .ok (.aload_n 0, 1)) ∧ (decode cX0_weighFrom 1 = .ok (.getfield 11, 3)) ∧ (decode cX0_weighFrom 4 = .ok (.iload_n 1, 1)) ∧ (decode cX0_weighFrom 5 = .ok (.aaload, 1)) ∧ (decode cX0_weighFrom 6 = .ok (.astore 5, 2)) := by decide +kernel
theorem dX0_weighPlan_24 : decode cX0_weighPlan 24 = .ok (.iconst 0, 1) := da_770.1
theorem dX0_weighPlan_25 : decode cX0_weighPlan 25 = .ok (.lconst 1, 1) := da_770.2.1
theorem dX0_weighPlan_26 : decode cX0_weighPlan 26 = .ok (.iload_n 2, 1) := da_770.2.2.1
theorem dX0_weighPlan_27 : decode cX0_weighPlan 27 = .ok (.invokevirtual 36, 3) := da_770.2.2.2.1
theorem dX0_weighPlan_30 : decode cX0_weighPlan 30 = .ok (.return_, 1) := da_770.2.2.2.2.1
theorem dX0_weighFrom_0 : decode cX0_weighFrom 0 = .ok (.aload_n 0, 1) := da_770.2.2.2.2.2.1
theorem dX0_weighFrom_1 : decode cX0_weighFrom 1 = .ok (.getfield 11, 3) := da_770.2.2.2.2.2.2.1
theorem dX0_weighFrom_4 : decode cX0_weighFrom 4 = .ok (.iload_n 1, 1) := da_770.2.2.2.2.2.2.2.1
theorem dX0_weighFrom_5 : decode cX0_weighFrom 5 = .ok (.aaload, 1) := da_770.2.2.2.2.2.2.2.2.1
theorem dX0_weighFrom_6 : decode cX0_weighFrom 6 = .ok (.astore 5, 2) := da_770.2.2.2.2.2.2.2.2.2
theorem da_780 : (decode cX0_weighFrom 8 = .ok (.iload_n 1, 1)) ∧ (decode cX0_weighFrom 9 = .ok (.aload 5, 2)) ∧ (decode cX0_weighFrom 11 = .ok (.getfield 40, 3)) ∧ (decode cX0_weighFrom 14 = .ok (.if_icmp .ge 9, 3)) ∧ (decode cX0_weighFrom 17 = .ok (.iload_n 1, 1)) ∧ (decode cX0_weighFrom 18 = .ok (.bipush 8, 2)) ∧ (decode cX0_weighFrom 20 = .ok (.if_icmp .lt 11, 3)) ∧ (decode cX0_weighFrom 23 = .ok (.aload_n 0, 1)) ∧ (decode cX0_weighFrom 24 = .ok (.aload 5, 2)) ∧ (decode cX0_weighFrom 26 = .ok (.lload_n 2, 1)) := by decide +kernel
theorem dX0_weighFrom_8 : decode cX0_weighFrom 8 = .ok (.iload_n 1, 1) := da_780.1
theorem dX0_weighFrom_9 : decode cX0_weighFrom 9 = .ok (.aload 5, 2) := da_780.2.1
theorem dX0_weighFrom_11 : decode cX0_weighFrom 11 = .ok (.getfield 40, 3) := da_780.2.2.1
theorem dX0_weighFrom_14 : decode cX0_weighFrom 14 = .ok (.if_icmp .ge 9, 3) := da_780.2.2.2.1
theorem dX0_weighFrom_17 : decode cX0_weighFrom 17 = .ok (.iload_n 1, 1) := da_780.2.2.2.2.1
theorem dX0_weighFrom_18 : decode cX0_weighFrom 18 = .ok (.bipush 8, 2) := da_780.2.2.2.2.2.1
theorem dX0_weighFrom_20 : decode cX0_weighFrom 20 = .ok (.if_icmp .lt 11, 3) := da_780.2.2.2.2.2.2.1
theorem dX0_weighFrom_23 : decode cX0_weighFrom 23 = .ok (.aload_n 0, 1) := da_780.2.2.2.2.2.2.2.1
theorem dX0_weighFrom_24 : decode cX0_weighFrom 24 = .ok (.aload 5, 2) := da_780.2.2.2.2.2.2.2.2.1
theorem dX0_weighFrom_26 : decode cX0_weighFrom 26 = .ok (.lload_n 2, 1) := da_780.2.2.2.2.2.2.2.2.2
theorem da_790 : (decode cX0_weighFrom 27 = .ok (.invokevirtual 44, 3)) ∧ (decode cX0_weighFrom 30 = .ok (.return_, 1)) ∧ (decode cX0_weighFrom 31 = .ok (.aload_n 0, 1)) ∧ (decode cX0_weighFrom 32 = .ok (.getfield 11, 3)) ∧ (decode cX0_weighFrom 35 = .ok (.iload_n 1, 1)) ∧ (decode cX0_weighFrom 36 = .ok (.iconst 1, 1)) ∧ (decode cX0_weighFrom 37 = .ok (.iadd, 1)) ∧ (decode cX0_weighFrom 38 = .ok (.aaload, 1)) ∧ (decode cX0_weighFrom 39 = .ok (.astore 6, 2)) ∧ (decode cX0_weighFrom 41 = .ok (.aload 5, 2)) := by decide +kernel
theorem dX0_weighFrom_27 : decode cX0_weighFrom 27 = .ok (.invokevirtual 44, 3) := da_790.1
theorem dX0_weighFrom_30 : decode cX0_weighFrom 30 = .ok (.return_, 1) := da_790.2.1
theorem dX0_weighFrom_31 : decode cX0_weighFrom 31 = .ok (.aload_n 0, 1) := da_790.2.2.1
theorem dX0_weighFrom_32 : decode cX0_weighFrom 32 = .ok (.getfield 11, 3) := da_790.2.2.2.1
theorem dX0_weighFrom_35 : decode cX0_weighFrom 35 = .ok (.iload_n 1, 1) := da_790.2.2.2.2.1
theorem dX0_weighFrom_36 : decode cX0_weighFrom 36 = .ok (.iconst 1, 1) := da_790.2.2.2.2.2.1
theorem dX0_weighFrom_37 : decode cX0_weighFrom 37 = .ok (.iadd, 1) := da_790.2.2.2.2.2.2.1
theorem dX0_weighFrom_38 : decode cX0_weighFrom 38 = .ok (.aaload, 1) := da_790.2.2.2.2.2.2.2.1
theorem dX0_weighFrom_39 : decode cX0_weighFrom 39 = .ok (.astore 6, 2) := da_790.2.2.2.2.2.2.2.2.1
theorem dX0_weighFrom_41 : decode cX0_weighFrom 41 = .ok (.aload 5, 2) := da_790.2.2.2.2.2.2.2.2.2
theorem da_800 : (decode cX0_weighFrom 43 = .ok (.getfield 48, 3)) ∧ (decode cX0_weighFrom 46 = .ok (.iload_n 1, 1)) ∧ (decode cX0_weighFrom 47 = .ok (.iaload, 1)) ∧ (decode cX0_weighFrom 48 = .ok (.istore 7, 2)) ∧ (decode cX0_weighFrom 50 = .ok (.aload 5, 2)) ∧ (decode cX0_weighFrom 52 = .ok (.iload 7, 2)) ∧ (decode cX0_weighFrom 54 = .ok (.invokevirtual 52, 3)) ∧ (decode cX0_weighFrom 57 = .ok (.ifCond .ne 29, 3)) ∧ (decode cX0_weighFrom 60 = .ok (.aload 6, 2)) ∧ (decode cX0_weighFrom 62 = .ok (.aload 5, 2)) := by decide +kernel
theorem dX0_weighFrom_43 : decode cX0_weighFrom 43 = .ok (.getfield 48, 3) := da_800.1
theorem dX0_weighFrom_46 : decode cX0_weighFrom 46 = .ok (.iload_n 1, 1) := da_800.2.1
theorem dX0_weighFrom_47 : decode cX0_weighFrom 47 = .ok (.iaload, 1) := da_800.2.2.1
theorem dX0_weighFrom_48 : decode cX0_weighFrom 48 = .ok (.istore 7, 2) := da_800.2.2.2.1
theorem dX0_weighFrom_50 : decode cX0_weighFrom 50 = .ok (.aload 5, 2) := da_800.2.2.2.2.1
theorem dX0_weighFrom_52 : decode cX0_weighFrom 52 = .ok (.iload 7, 2) := da_800.2.2.2.2.2.1
theorem dX0_weighFrom_54 : decode cX0_weighFrom 54 = .ok (.invokevirtual 52, 3) := da_800.2.2.2.2.2.2.1
theorem dX0_weighFrom_57 : decode cX0_weighFrom 57 = .ok (.ifCond .ne 29, 3) := da_800.2.2.2.2.2.2.2.1
theorem dX0_weighFrom_60 : decode cX0_weighFrom 60 = .ok (.aload 6, 2) := da_800.2.2.2.2.2.2.2.2.1
theorem dX0_weighFrom_62 : decode cX0_weighFrom 62 = .ok (.aload 5, 2) := da_800.2.2.2.2.2.2.2.2.2
theorem da_810 : (decode cX0_weighFrom 64 = .ok (.invokevirtual 56, 3)) ∧ (decode cX0_weighFrom 67 = .ok (.aload 6, 2)) ∧ (decode cX0_weighFrom 69 = .ok (.iload 7, 2)) ∧ (decode cX0_weighFrom 71 = .ok (.invokevirtual 59, 3)) ∧ (decode cX0_weighFrom 74 = .ok (.pop, 1)) ∧ (decode cX0_weighFrom 75 = .ok (.aload_n 0, 1)) ∧ (decode cX0_weighFrom 76 = .ok (.iload_n 1, 1)) ∧ (decode cX0_weighFrom 77 = .ok (.iconst 1, 1)) ∧ (decode cX0_weighFrom 78 = .ok (.iadd, 1)) ∧ (decode cX0_weighFrom 79 = .ok (.lload_n 2, 1)) := by decide +kernel
theorem dX0_weighFrom_64 : decode cX0_weighFrom 64 = .ok (.invokevirtual 56, 3) := da_810.1
theorem dX0_weighFrom_67 : decode cX0_weighFrom 67 = .ok (.aload 6, 2) := da_810.2.1
theorem dX0_weighFrom_69 : decode cX0_weighFrom 69 = .ok (.iload 7, 2) := da_810.2.2.1
theorem dX0_weighFrom_71 : decode cX0_weighFrom 71 = .ok (.invokevirtual 59, 3) := da_810.2.2.2.1
theorem dX0_weighFrom_74 : decode cX0_weighFrom 74 = .ok (.pop, 1) := da_810.2.2.2.2.1
theorem dX0_weighFrom_75 : decode cX0_weighFrom 75 = .ok (.aload_n 0, 1) := da_810.2.2.2.2.2.1
theorem dX0_weighFrom_76 : decode cX0_weighFrom 76 = .ok (.iload_n 1, 1) := da_810.2.2.2.2.2.2.1
theorem dX0_weighFrom_77 : decode cX0_weighFrom 77 = .ok (.iconst 1, 1) := da_810.2.2.2.2.2.2.2.1
theorem dX0_weighFrom_78 : decode cX0_weighFrom 78 = .ok (.iadd, 1) := da_810.2.2.2.2.2.2.2.2.1
theorem dX0_weighFrom_79 : decode cX0_weighFrom 79 = .ok (.lload_n 2, 1) := da_810.2.2.2.2.2.2.2.2.2
theorem da_820 : (decode cX0_weighFrom 80 = .ok (.iload 4, 2)) ∧ (decode cX0_weighFrom 82 = .ok (.invokevirtual 36, 3)) ∧ (decode cX0_weighFrom 85 = .ok (.return_, 1)) ∧ (decode cX0_weighFrom 86 = .ok (.iload 4, 2)) ∧ (decode cX0_weighFrom 88 = .ok (.bipush 10, 2)) ∧ (decode cX0_weighFrom 90 = .ok (.if_icmp .ge 35, 3)) ∧ (decode cX0_weighFrom 93 = .ok (.aload 6, 2)) ∧ (decode cX0_weighFrom 95 = .ok (.aload 5, 2)) ∧ (decode cX0_weighFrom 97 = .ok (.invokevirtual 56, 3)) ∧ (decode cX0_weighFrom 100 = .ok (.aload 6, 2)) := by decide +kernel
theorem dX0_weighFrom_80 : decode cX0_weighFrom 80 = .ok (.iload 4, 2) := da_820.1
theorem dX0_weighFrom_82 : decode cX0_weighFrom 82 = .ok (.invokevirtual 36, 3) := da_820.2.1
theorem dX0_weighFrom_85 : decode cX0_weighFrom 85 = .ok (.return_, 1) := da_820.2.2.1
theorem dX0_weighFrom_86 : decode cX0_weighFrom 86 = .ok (.iload 4, 2) := da_820.2.2.2.1
theorem dX0_weighFrom_88 : decode cX0_weighFrom 88 = .ok (.bipush 10, 2) := da_820.2.2.2.2.1
theorem dX0_weighFrom_90 : decode cX0_weighFrom 90 = .ok (.if_icmp .ge 35, 3) := da_820.2.2.2.2.2.1
theorem dX0_weighFrom_93 : decode cX0_weighFrom 93 = .ok (.aload 6, 2) := da_820.2.2.2.2.2.2.1
theorem dX0_weighFrom_95 : decode cX0_weighFrom 95 = .ok (.aload 5, 2) := da_820.2.2.2.2.2.2.2.1
theorem dX0_weighFrom_97 : decode cX0_weighFrom 97 = .ok (.invokevirtual 56, 3) := da_820.2.2.2.2.2.2.2.2.1
theorem dX0_weighFrom_100 : decode cX0_weighFrom 100 = .ok (.aload 6, 2) := da_820.2.2.2.2.2.2.2.2.2
theorem da_830 : (decode cX0_weighFrom 102 = .ok (.iload 7, 2)) ∧ (decode cX0_weighFrom 104 = .ok (.invokevirtual 59, 3)) ∧ (decode cX0_weighFrom 107 = .ok (.pop, 1)) ∧ (decode cX0_weighFrom 108 = .ok (.aload_n 0, 1)) ∧ (decode cX0_weighFrom 109 = .ok (.iload_n 1, 1)) ∧ (decode cX0_weighFrom 110 = .ok (.iconst 1, 1)) ∧ (decode cX0_weighFrom 111 = .ok (.iadd, 1)) ∧ (decode cX0_weighFrom 112 = .ok (.lload_n 2, 1)) ∧ (decode cX0_weighFrom 113 = .ok (.bipush 10, 2)) ∧ (decode cX0_weighFrom 115 = .ok (.iload 4, 2)) := by decide +kernel
theorem dX0_weighFrom_102 : decode cX0_weighFrom 102 = .ok (.iload 7, 2) := da_830.1
theorem dX0_weighFrom_104 : decode cX0_weighFrom 104 = .ok (.invokevirtual 59, 3) := da_830.2.1
theorem dX0_weighFrom_107 : decode cX0_weighFrom 107 = .ok (.pop, 1) := da_830.2.2.1
theorem dX0_weighFrom_108 : decode cX0_weighFrom 108 = .ok (.aload_n 0, 1) := da_830.2.2.2.1
theorem dX0_weighFrom_109 : decode cX0_weighFrom 109 = .ok (.iload_n 1, 1) := da_830.2.2.2.2.1
theorem dX0_weighFrom_110 : decode cX0_weighFrom 110 = .ok (.iconst 1, 1) := da_830.2.2.2.2.2.1
theorem dX0_weighFrom_111 : decode cX0_weighFrom 111 = .ok (.iadd, 1) := da_830.2.2.2.2.2.2.1
theorem dX0_weighFrom_112 : decode cX0_weighFrom 112 = .ok (.lload_n 2, 1) := da_830.2.2.2.2.2.2.2.1
theorem dX0_weighFrom_113 : decode cX0_weighFrom 113 = .ok (.bipush 10, 2) := da_830.2.2.2.2.2.2.2.2.1
theorem dX0_weighFrom_115 : decode cX0_weighFrom 115 = .ok (.iload 4, 2) := da_830.2.2.2.2.2.2.2.2.2
theorem da_840 : (decode cX0_weighFrom 117 = .ok (.isub, 1)) ∧ (decode cX0_weighFrom 118 = .ok (.i2l, 1)) ∧ (decode cX0_weighFrom 119 = .ok (.lmul, 1)) ∧ (decode cX0_weighFrom 120 = .ok (.iload 4, 2)) ∧ (decode cX0_weighFrom 122 = .ok (.invokevirtual 36, 3)) ∧ (decode cX0_weighFrom 125 = .ok (.iload 4, 2)) ∧ (decode cX0_weighFrom 127 = .ok (.ifCond .le 24, 3)) ∧ (decode cX0_weighFrom 130 = .ok (.aload 6, 2)) ∧ (decode cX0_weighFrom 132 = .ok (.aload 5, 2)) ∧ (decode cX0_weighFrom 134 = .ok (.invokevirtual 56, 3)) := by decide +kernel
theorem dX0_weighFrom_117 : decode cX0_weighFrom 117 = .ok (.isub, 1) := da_840.1
theorem dX0_weighFrom_118 : decode cX0_weighFrom 118 = .ok (.i2l, 1) := da_840.2.1
theorem dX0_weighFrom_119 : decode cX0_weighFrom 119 = .ok (.lmul, 1) := da_840.2.2.1
theorem dX0_weighFrom_120 : decode cX0_weighFrom 120 = .ok (.iload 4, 2) := da_840.2.2.2.1
theorem dX0_weighFrom_122 : decode cX0_weighFrom 122 = .ok (.invokevirtual 36, 3) := da_840.2.2.2.2.1
theorem dX0_weighFrom_125 : decode cX0_weighFrom 125 = .ok (.iload 4, 2) := da_840.2.2.2.2.2.1
theorem dX0_weighFrom_127 : decode cX0_weighFrom 127 = .ok (.ifCond .le 24, 3) := da_840.2.2.2.2.2.2.1
theorem dX0_weighFrom_130 : decode cX0_weighFrom 130 = .ok (.aload 6, 2) := da_840.2.2.2.2.2.2.2.1
theorem dX0_weighFrom_132 : decode cX0_weighFrom 132 = .ok (.aload 5, 2) := da_840.2.2.2.2.2.2.2.2.1
theorem dX0_weighFrom_134 : decode cX0_weighFrom 134 = .ok (.invokevirtual 56, 3) := da_840.2.2.2.2.2.2.2.2.2
theorem da_850 : (decode cX0_weighFrom 137 = .ok (.aload_n 0, 1)) ∧ (decode cX0_weighFrom 138 = .ok (.iload_n 1, 1)) ∧ (decode cX0_weighFrom 139 = .ok (.iconst 1, 1)) ∧ (decode cX0_weighFrom 140 = .ok (.iadd, 1)) ∧ (decode cX0_weighFrom 141 = .ok (.lload_n 2, 1)) ∧ (decode cX0_weighFrom 142 = .ok (.iload 4, 2)) ∧ (decode cX0_weighFrom 144 = .ok (.i2l, 1)) ∧ (decode cX0_weighFrom 145 = .ok (.lmul, 1)) ∧ (decode cX0_weighFrom 146 = .ok (.iload 4, 2)) ∧ (decode cX0_weighFrom 148 = .ok (.invokevirtual 36, 3)) := by decide +kernel
theorem dX0_weighFrom_137 : decode cX0_weighFrom 137 = .ok (.aload_n 0, 1) := da_850.1
theorem dX0_weighFrom_138 : decode cX0_weighFrom 138 = .ok (.iload_n 1, 1) := da_850.2.1
theorem dX0_weighFrom_139 : decode cX0_weighFrom 139 = .ok (.iconst 1, 1) := da_850.2.2.1
theorem dX0_weighFrom_140 : decode cX0_weighFrom 140 = .ok (.iadd, 1) := da_850.2.2.2.1
theorem dX0_weighFrom_141 : decode cX0_weighFrom 141 = .ok (.lload_n 2, 1) := da_850.2.2.2.2.1
theorem dX0_weighFrom_142 : decode cX0_weighFrom 142 = .ok (.iload 4, 2) := da_850.2.2.2.2.2.1
theorem dX0_weighFrom_144 : decode cX0_weighFrom 144 = .ok (.i2l, 1) := da_850.2.2.2.2.2.2.1
theorem dX0_weighFrom_145 : decode cX0_weighFrom 145 = .ok (.lmul, 1) := da_850.2.2.2.2.2.2.2.1
theorem dX0_weighFrom_146 : decode cX0_weighFrom 146 = .ok (.iload 4, 2) := da_850.2.2.2.2.2.2.2.2.1
theorem dX0_weighFrom_148 : decode cX0_weighFrom 148 = .ok (.invokevirtual 36, 3) := da_850.2.2.2.2.2.2.2.2.2
theorem da_860 : (decode cX0_weighFrom 151 = .ok (.return_, 1)) ∧ (decode cX0_addWeight 0 = .ok (.aload_n 0, 1)) ∧ (decode cX0_addWeight 1 = .ok (.dup, 1)) ∧ (decode cX0_addWeight 2 = .ok (.getfield 32, 3)) ∧ (decode cX0_addWeight 5 = .ok (.lload_n 2, 1)) ∧ (decode cX0_addWeight 6 = .ok (.ladd, 1)) ∧ (decode cX0_addWeight 7 = .ok (.putfield 32, 3)) ∧ (decode cX0_addWeight 10 = .ok (.iconst 0, 1)) ∧ (decode cX0_addWeight 11 = .ok (.istore 4, 2)) ∧ (decode cX0_addWeight 13 = .ok (.iload 4, 2)) := by decide +kernel
theorem dX0_weighFrom_151 : decode cX0_weighFrom 151 = .ok (.return_, 1) := da_860.1
theorem dX0_addWeight_0 : decode cX0_addWeight 0 = .ok (.aload_n 0, 1) := da_860.2.1
theorem dX0_addWeight_1 : decode cX0_addWeight 1 = .ok (.dup, 1) := da_860.2.2.1
theorem dX0_addWeight_2 : decode cX0_addWeight 2 = .ok (.getfield 32, 3) := da_860.2.2.2.1
theorem dX0_addWeight_5 : decode cX0_addWeight 5 = .ok (.lload_n 2, 1) := da_860.2.2.2.2.1
theorem dX0_addWeight_6 : decode cX0_addWeight 6 = .ok (.ladd, 1) := da_860.2.2.2.2.2.1
theorem dX0_addWeight_7 : decode cX0_addWeight 7 = .ok (.putfield 32, 3) := da_860.2.2.2.2.2.2.1
theorem dX0_addWeight_10 : decode cX0_addWeight 10 = .ok (.iconst 0, 1) := da_860.2.2.2.2.2.2.2.1
theorem dX0_addWeight_11 : decode cX0_addWeight 11 = .ok (.istore 4, 2) := da_860.2.2.2.2.2.2.2.2.1
theorem dX0_addWeight_13 : decode cX0_addWeight 13 = .ok (.iload 4, 2) := da_860.2.2.2.2.2.2.2.2.2
theorem da_870 : (decode cX0_addWeight 15 = .ok (.aload_n 1, 1)) ∧ (decode cX0_addWeight 16 = .ok (.getfield 62, 3)) ∧ (decode cX0_addWeight 19 = .ok (.if_icmp .ge 29, 3)) ∧ (decode cX0_addWeight 22 = .ok (.aload_n 1, 1)) ∧ (decode cX0_addWeight 23 = .ok (.iload 4, 2)) ∧ (decode cX0_addWeight 25 = .ok (.invokevirtual 65, 3)) ∧ (decode cX0_addWeight 28 = .ok (.ifCond .ne 14, 3)) ∧ (decode cX0_addWeight 31 = .ok (.aload_n 0, 1)) ∧ (decode cX0_addWeight 32 = .ok (.getfield 17, 3)) ∧ (decode cX0_addWeight 35 = .ok (.iload 4, 2)) := by decide +kernel
theorem dX0_addWeight_15 : decode cX0_addWeight 15 = .ok (.aload_n 1, 1) := da_870.1
theorem dX0_addWeight_16 : decode cX0_addWeight 16 = .ok (.getfield 62, 3) := da_870.2.1
theorem dX0_addWeight_19 : decode cX0_addWeight 19 = .ok (.if_icmp .ge 29, 3) := da_870.2.2.1
theorem dX0_addWeight_22 : decode cX0_addWeight 22 = .ok (.aload_n 1, 1) := da_870.2.2.2.1
theorem dX0_addWeight_23 : decode cX0_addWeight 23 = .ok (.iload 4, 2) := da_870.2.2.2.2.1
theorem dX0_addWeight_25 : decode cX0_addWeight 25 = .ok (.invokevirtual 65, 3) := da_870.2.2.2.2.2.1
theorem dX0_addWeight_28 : decode cX0_addWeight 28 = .ok (.ifCond .ne 14, 3) := da_870.2.2.2.2.2.2.1
theorem dX0_addWeight_31 : decode cX0_addWeight 31 = .ok (.aload_n 0, 1) := da_870.2.2.2.2.2.2.2.1
theorem dX0_addWeight_32 : decode cX0_addWeight 32 = .ok (.getfield 17, 3) := da_870.2.2.2.2.2.2.2.2.1
theorem dX0_addWeight_35 : decode cX0_addWeight 35 = .ok (.iload 4, 2) := da_870.2.2.2.2.2.2.2.2.2
theorem da_880 : (decode cX0_addWeight 37 = .ok (.dup2, 1)) ∧ (decode cX0_addWeight 38 = .ok (.laload, 1)) ∧ (decode cX0_addWeight 39 = .ok (.lload_n 2, 1)) ∧ (decode cX0_addWeight 40 = .ok (.ladd, 1)) ∧ (decode cX0_addWeight 41 = .ok (.lastore, 1)) ∧ (decode cX0_addWeight 42 = .ok (.iinc 4 1, 3)) ∧ (decode cX0_addWeight 45 = .ok (.goto (-32), 3)) ∧ (decode cX0_addWeight 48 = .ok (.return_, 1)) ∧ (decode cX2_init 0 = .ok (.aload_n 0, 1)) ∧ (decode cX2_init 1 = .ok (.invokespecial 3, 3)) := by decide +kernel
theorem dX0_addWeight_37 : decode cX0_addWeight 37 = .ok (.dup2, 1) := da_880.1
theorem dX0_addWeight_38 : decode cX0_addWeight 38 = .ok (.laload, 1) := da_880.2.1
theorem dX0_addWeight_39 : decode cX0_addWeight 39 = .ok (.lload_n 2, 1) := da_880.2.2.1
theorem dX0_addWeight_40 : decode cX0_addWeight 40 = .ok (.ladd, 1) := da_880.2.2.2.1
theorem dX0_addWeight_41 : decode cX0_addWeight 41 = .ok (.lastore, 1) := da_880.2.2.2.2.1
theorem dX0_addWeight_42 : decode cX0_addWeight 42 = .ok (.iinc 4 1, 3) := da_880.2.2.2.2.2.1
theorem dX0_addWeight_45 : decode cX0_addWeight 45 = .ok (.goto (-32), 3) := da_880.2.2.2.2.2.2.1
theorem dX0_addWeight_48 : decode cX0_addWeight 48 = .ok (.return_, 1) := da_880.2.2.2.2.2.2.2.1
theorem dX2_init_0 : decode cX2_init 0 = .ok (.aload_n 0, 1) := da_880.2.2.2.2.2.2.2.2.1
theorem dX2_init_1 : decode cX2_init 1 = .ok (.invokespecial 3, 3) := da_880.2.2.2.2.2.2.2.2.2
theorem da_890 : (decode cX2_init 4 = .ok (.aload_n 0, 1)) ∧ (decode cX2_init 5 = .ok (.iconst 5, 1)) ∧ (decode cX2_init 6 = .ok (.anewarray 9, 3)) ∧ (decode cX2_init 9 = .ok (.putfield 11, 3)) ∧ (decode cX2_init 12 = .ok (.aload_n 0, 1)) ∧ (decode cX2_init 13 = .ok (.iconst 4, 1)) ∧ (decode cX2_init 14 = .ok (.newarray .int, 2)) ∧ (decode cX2_init 16 = .ok (.putfield 17, 3)) ∧ (decode cX2_init 19 = .ok (.aload_n 0, 1)) ∧ (decode cX2_init 20 = .ok (.iconst 4, 1)) := by decide +kernel
theorem dX2_init_4 : decode cX2_init 4 = .ok (.aload_n 0, 1) := da_890.1
theorem dX2_init_5 : decode cX2_init 5 = .ok (.iconst 5, 1) := da_890.2.1
theorem dX2_init_6 : decode cX2_init 6 = .ok (.anewarray 9, 3) := da_890.2.2.1
theorem dX2_init_9 : decode cX2_init 9 = .ok (.putfield 11, 3) := da_890.2.2.2.1
theorem dX2_init_12 : decode cX2_init 12 = .ok (.aload_n 0, 1) := da_890.2.2.2.2.1
theorem dX2_init_13 : decode cX2_init 13 = .ok (.iconst 4, 1) := da_890.2.2.2.2.2.1
theorem dX2_init_14 : decode cX2_init 14 = .ok (.newarray .int, 2) := da_890.2.2.2.2.2.2.1
theorem dX2_init_16 : decode cX2_init 16 = .ok (.putfield 17, 3) := da_890.2.2.2.2.2.2.2.1
theorem dX2_init_19 : decode cX2_init 19 = .ok (.aload_n 0, 1) := da_890.2.2.2.2.2.2.2.2.1
theorem dX2_init_20 : decode cX2_init 20 = .ok (.iconst 4, 1) := da_890.2.2.2.2.2.2.2.2.2
theorem da_900 : (decode cX2_init 21 = .ok (.newarray .int, 2)) ∧ (decode cX2_init 23 = .ok (.putfield 21, 3)) ∧ (decode cX2_init 26 = .ok (.iconst 0, 1)) ∧ (decode cX2_init 27 = .ok (.istore_n 1, 1)) ∧ (decode cX2_init 28 = .ok (.iload_n 1, 1)) ∧ (decode cX2_init 29 = .ok (.iconst 4, 1)) ∧ (decode cX2_init 30 = .ok (.if_icmp .gt 22, 3)) ∧ (decode cX2_init 33 = .ok (.aload_n 0, 1)) ∧ (decode cX2_init 34 = .ok (.getfield 11, 3)) ∧ (decode cX2_init 37 = .ok (.iload_n 1, 1)) := by decide +kernel
theorem dX2_init_21 : decode cX2_init 21 = .ok (.newarray .int, 2) := da_900.1
theorem dX2_init_23 : decode cX2_init 23 = .ok (.putfield 21, 3) := da_900.2.1
theorem dX2_init_26 : decode cX2_init 26 = .ok (.iconst 0, 1) := da_900.2.2.1
theorem dX2_init_27 : decode cX2_init 27 = .ok (.istore_n 1, 1) := da_900.2.2.2.1
theorem dX2_init_28 : decode cX2_init 28 = .ok (.iload_n 1, 1) := da_900.2.2.2.2.1
theorem dX2_init_29 : decode cX2_init 29 = .ok (.iconst 4, 1) := da_900.2.2.2.2.2.1
theorem dX2_init_30 : decode cX2_init 30 = .ok (.if_icmp .gt 22, 3) := da_900.2.2.2.2.2.2.1
theorem dX2_init_33 : decode cX2_init 33 = .ok (.aload_n 0, 1) := da_900.2.2.2.2.2.2.2.1
theorem dX2_init_34 : decode cX2_init 34 = .ok (.getfield 11, 3) := da_900.2.2.2.2.2.2.2.2.1
theorem dX2_init_37 : decode cX2_init 37 = .ok (.iload_n 1, 1) := da_900.2.2.2.2.2.2.2.2.2
theorem da_910 : (decode cX2_init 38 = .ok (.new 9, 3)) ∧ (decode cX2_init 41 = .ok (.dup, 1)) ∧ (decode cX2_init 42 = .ok (.invokespecial 24, 3)) ∧ (decode cX2_init 45 = .ok (.aastore, 1)) ∧ (decode cX2_init 46 = .ok (.iinc 1 1, 3)) ∧ (decode cX2_init 49 = .ok (.goto (-21), 3)) ∧ (decode cX2_init 52 = .ok (.return_, 1)) ∧ (decode cX2_foundAt 0 = .ok (.iload_n 1, 1)) ∧ (decode cX2_foundAt 1 = .ok (.ifCond .lt 20, 3)) ∧ (decode cX2_foundAt 4 = .ok (.iload_n 1, 1)) := by decide +kernel
theorem dX2_init_38 : decode cX2_init 38 = .ok (.new 9, 3) := da_910.1
theorem dX2_init_41 : decode cX2_init 41 = .ok (.dup, 1) := da_910.2.1
theorem dX2_init_42 : decode cX2_init 42 = .ok (.invokespecial 24, 3) := da_910.2.2.1
theorem dX2_init_45 : decode cX2_init 45 = .ok (.aastore, 1) := da_910.2.2.2.1
theorem dX2_init_46 : decode cX2_init 46 = .ok (.iinc 1 1, 3) := da_910.2.2.2.2.1
theorem dX2_init_49 : decode cX2_init 49 = .ok (.goto (-21), 3) := da_910.2.2.2.2.2.1
theorem dX2_init_52 : decode cX2_init 52 = .ok (.return_, 1) := da_910.2.2.2.2.2.2.1
theorem dX2_foundAt_0 : decode cX2_foundAt 0 = .ok (.iload_n 1, 1) := da_910.2.2.2.2.2.2.2.1
theorem dX2_foundAt_1 : decode cX2_foundAt 1 = .ok (.ifCond .lt 20, 3) := da_910.2.2.2.2.2.2.2.2.1
theorem dX2_foundAt_4 : decode cX2_foundAt 4 = .ok (.iload_n 1, 1) := da_910.2.2.2.2.2.2.2.2.2
theorem da_920 : (decode cX2_foundAt 5 = .ok (.aload_n 0, 1)) ∧ (decode cX2_foundAt 6 = .ok (.getfield 25, 3)) ∧ (decode cX2_foundAt 9 = .ok (.if_icmp .ge 12, 3)) ∧ (decode cX2_foundAt 12 = .ok (.aload_n 0, 1)) ∧ (decode cX2_foundAt 13 = .ok (.getfield 21, 3)) ∧ (decode cX2_foundAt 16 = .ok (.iload_n 1, 1)) ∧ (decode cX2_foundAt 17 = .ok (.iaload, 1)) ∧ (decode cX2_foundAt 18 = .ok (.goto 5, 3)) ∧ (decode cX2_foundAt 21 = .ok (.bipush (-4), 2)) ∧ (decode cX2_foundAt 23 = .ok (.ireturn, 1)) := by decide +kernel
theorem dX2_foundAt_5 : decode cX2_foundAt 5 = .ok (.aload_n 0, 1) := da_920.1
theorem dX2_foundAt_6 : decode cX2_foundAt 6 = .ok (.getfield 25, 3) := da_920.2.1
theorem dX2_foundAt_9 : decode cX2_foundAt 9 = .ok (.if_icmp .ge 12, 3) := da_920.2.2.1
theorem dX2_foundAt_12 : decode cX2_foundAt 12 = .ok (.aload_n 0, 1) := da_920.2.2.2.1
theorem dX2_foundAt_13 : decode cX2_foundAt 13 = .ok (.getfield 21, 3) := da_920.2.2.2.2.1
theorem dX2_foundAt_16 : decode cX2_foundAt 16 = .ok (.iload_n 1, 1) := da_920.2.2.2.2.2.1
theorem dX2_foundAt_17 : decode cX2_foundAt 17 = .ok (.iaload, 1) := da_920.2.2.2.2.2.2.1
theorem dX2_foundAt_18 : decode cX2_foundAt 18 = .ok (.goto 5, 3) := da_920.2.2.2.2.2.2.2.1
theorem dX2_foundAt_21 : decode cX2_foundAt 21 = .ok (.bipush (-4), 2) := da_920.2.2.2.2.2.2.2.2.1
theorem dX2_foundAt_23 : decode cX2_foundAt 23 = .ok (.ireturn, 1) := da_920.2.2.2.2.2.2.2.2.2
theorem da_930 : (decode cX2_findMostTears 0 = .ok (.aload_n 0, 1)) ∧ (decode cX2_findMostTears 1 = .ok (.getfield 11, 3)) ∧ (decode cX2_findMostTears 4 = .ok (.iconst 0, 1)) ∧ (decode cX2_findMostTears 5 = .ok (.aaload, 1)) ∧ (decode cX2_findMostTears 6 = .ok (.aload_n 1, 1)) ∧ (decode cX2_findMostTears 7 = .ok (.invokevirtual 29, 3)) ∧ (decode cX2_findMostTears 10 = .ok (.aload_n 0, 1)) ∧ (decode cX2_findMostTears 11 = .ok (.iconst (-1), 1)) ∧ (decode cX2_findMostTears 12 = .ok (.putfield 33, 3)) ∧ (decode cX2_findMostTears 15 = .ok (.aload_n 0, 1)) := by decide +kernel
theorem dX2_findMostTears_0 : decode cX2_findMostTears 0 = .ok (.aload_n 0, 1) := da_930.1
theorem dX2_findMostTears_1 : decode cX2_findMostTears 1 = .ok (.getfield 11, 3) := da_930.2.1
theorem dX2_findMostTears_4 : decode cX2_findMostTears 4 = .ok (.iconst 0, 1) := da_930.2.2.1
theorem dX2_findMostTears_5 : decode cX2_findMostTears 5 = .ok (.aaload, 1) := da_930.2.2.2.1
theorem dX2_findMostTears_6 : decode cX2_findMostTears 6 = .ok (.aload_n 1, 1) := da_930.2.2.2.2.1
theorem dX2_findMostTears_7 : decode cX2_findMostTears 7 = .ok (.invokevirtual 29, 3) := da_930.2.2.2.2.2.1
theorem dX2_findMostTears_10 : decode cX2_findMostTears 10 = .ok (.aload_n 0, 1) := da_930.2.2.2.2.2.2.1
theorem dX2_findMostTears_11 : decode cX2_findMostTears 11 = .ok (.iconst (-1), 1) := da_930.2.2.2.2.2.2.2.1
theorem dX2_findMostTears_12 : decode cX2_findMostTears 12 = .ok (.putfield 33, 3) := da_930.2.2.2.2.2.2.2.2.1
theorem dX2_findMostTears_15 : decode cX2_findMostTears 15 = .ok (.aload_n 0, 1) := da_930.2.2.2.2.2.2.2.2.2
theorem da_940 : (decode cX2_findMostTears 16 = .ok (.iconst (-1), 1)) ∧ (decode cX2_findMostTears 17 = .ok (.putfield 36, 3)) ∧ (decode cX2_findMostTears 20 = .ok (.aload_n 0, 1)) ∧ (decode cX2_findMostTears 21 = .ok (.iconst 0, 1)) ∧ (decode cX2_findMostTears 22 = .ok (.iload_n 2, 1)) ∧ (decode cX2_findMostTears 23 = .ok (.invokevirtual 39, 3)) ∧ (decode cX2_findMostTears 26 = .ok (.return_, 1)) ∧ (decode cX2_tryRows 0 = .ok (.iload_n 1, 1)) ∧ (decode cX2_tryRows 1 = .ok (.iload_n 2, 1)) ∧ (decode cX2_tryRows 2 = .ok (.if_icmp .ge 8, 3)) := by decide +kernel
theorem dX2_findMostTears_16 : decode cX2_findMostTears 16 = .ok (.iconst (-1), 1) := da_940.1
theorem dX2_findMostTears_17 : decode cX2_findMostTears 17 = .ok (.putfield 36, 3) := da_940.2.1
theorem dX2_findMostTears_20 : decode cX2_findMostTears 20 = .ok (.aload_n 0, 1) := da_940.2.2.1
theorem dX2_findMostTears_21 : decode cX2_findMostTears 21 = .ok (.iconst 0, 1) := da_940.2.2.2.1
theorem dX2_findMostTears_22 : decode cX2_findMostTears 22 = .ok (.iload_n 2, 1) := da_940.2.2.2.2.1
theorem dX2_findMostTears_23 : decode cX2_findMostTears 23 = .ok (.invokevirtual 39, 3) := da_940.2.2.2.2.2.1
theorem dX2_findMostTears_26 : decode cX2_findMostTears 26 = .ok (.return_, 1) := da_940.2.2.2.2.2.2.1
theorem dX2_tryRows_0 : decode cX2_tryRows 0 = .ok (.iload_n 1, 1) := da_940.2.2.2.2.2.2.2.1
theorem dX2_tryRows_1 : decode cX2_tryRows 1 = .ok (.iload_n 2, 1) := da_940.2.2.2.2.2.2.2.2.1
theorem dX2_tryRows_2 : decode cX2_tryRows 2 = .ok (.if_icmp .ge 8, 3) := da_940.2.2.2.2.2.2.2.2.2
theorem da_950 : (decode cX2_tryRows 5 = .ok (.iload_n 1, 1)) ∧ (decode cX2_tryRows 6 = .ok (.iconst 4, 1)) ∧ (decode cX2_tryRows 7 = .ok (.if_icmp .lt 69, 3)) ∧ (decode cX2_tryRows 10 = .ok (.aload_n 0, 1)) ∧ (decode cX2_tryRows 11 = .ok (.getfield 11, 3)) ∧ (decode cX2_tryRows 14 = .ok (.iload_n 1, 1)) ∧ (decode cX2_tryRows 15 = .ok (.aaload, 1)) ∧ (decode cX2_tryRows 16 = .ok (.getfield 43, 3)) ∧ (decode cX2_tryRows 19 = .ok (.invokestatic 46, 3)) ∧ (decode cX2_tryRows 22 = .ok (.istore_n 3, 1)) := by decide +kernel
theorem dX2_tryRows_5 : decode cX2_tryRows 5 = .ok (.iload_n 1, 1) := da_950.1
theorem dX2_tryRows_6 : decode cX2_tryRows 6 = .ok (.iconst 4, 1) := da_950.2.1
theorem dX2_tryRows_7 : decode cX2_tryRows 7 = .ok (.if_icmp .lt 69, 3) := da_950.2.2.1
theorem dX2_tryRows_10 : decode cX2_tryRows 10 = .ok (.aload_n 0, 1) := da_950.2.2.2.1
theorem dX2_tryRows_11 : decode cX2_tryRows 11 = .ok (.getfield 11, 3) := da_950.2.2.2.2.1
theorem dX2_tryRows_14 : decode cX2_tryRows 14 = .ok (.iload_n 1, 1) := da_950.2.2.2.2.2.1
theorem dX2_tryRows_15 : decode cX2_tryRows 15 = .ok (.aaload, 1) := da_950.2.2.2.2.2.2.1
theorem dX2_tryRows_16 : decode cX2_tryRows 16 = .ok (.getfield 43, 3) := da_950.2.2.2.2.2.2.2.1
theorem dX2_tryRows_19 : decode cX2_tryRows 19 = .ok (.invokestatic 46, 3) := da_950.2.2.2.2.2.2.2.2.1
theorem dX2_tryRows_22 : decode cX2_tryRows 22 = .ok (.istore_n 3, 1) := da_950.2.2.2.2.2.2.2.2.2
theorem da_960 : (decode cX2_tryRows 23 = .ok (.aload_n 0, 1)) ∧ (decode cX2_tryRows 24 = .ok (.getfield 11, 3)) ∧ (decode cX2_tryRows 27 = .ok (.iload_n 1, 1)) ∧ (decode cX2_tryRows 28 = .ok (.aaload, 1)) ∧ (decode cX2_tryRows 29 = .ok (.getfield 52, 3)) ∧ (decode cX2_tryRows 32 = .ok (.istore 4, 2)) ∧ (decode cX2_tryRows 34 = .ok (.iload_n 3, 1)) ∧ (decode cX2_tryRows 35 = .ok (.aload_n 0, 1)) ∧ (decode cX2_tryRows 36 = .ok (.getfield 33, 3)) ∧ (decode cX2_tryRows 39 = .ok (.if_icmp .gt 20, 3)) := by decide +kernel
theorem dX2_tryRows_23 : decode cX2_tryRows 23 = .ok (.aload_n 0, 1) := da_960.1
theorem dX2_tryRows_24 : decode cX2_tryRows 24 = .ok (.getfield 11, 3) := da_960.2.1
theorem dX2_tryRows_27 : decode cX2_tryRows 27 = .ok (.iload_n 1, 1) := da_960.2.2.1
theorem dX2_tryRows_28 : decode cX2_tryRows 28 = .ok (.aaload, 1) := da_960.2.2.2.1
theorem dX2_tryRows_29 : decode cX2_tryRows 29 = .ok (.getfield 52, 3) := da_960.2.2.2.2.1
theorem dX2_tryRows_32 : decode cX2_tryRows 32 = .ok (.istore 4, 2) := da_960.2.2.2.2.2.1
theorem dX2_tryRows_34 : decode cX2_tryRows 34 = .ok (.iload_n 3, 1) := da_960.2.2.2.2.2.2.1
theorem dX2_tryRows_35 : decode cX2_tryRows 35 = .ok (.aload_n 0, 1) := da_960.2.2.2.2.2.2.2.1
theorem dX2_tryRows_36 : decode cX2_tryRows 36 = .ok (.getfield 33, 3) := da_960.2.2.2.2.2.2.2.2.1
theorem dX2_tryRows_39 : decode cX2_tryRows 39 = .ok (.if_icmp .gt 20, 3) := da_960.2.2.2.2.2.2.2.2.2
theorem da_970 : (decode cX2_tryRows 42 = .ok (.iload_n 3, 1)) ∧ (decode cX2_tryRows 43 = .ok (.aload_n 0, 1)) ∧ (decode cX2_tryRows 44 = .ok (.getfield 33, 3)) ∧ (decode cX2_tryRows 47 = .ok (.if_icmp .ne 28, 3)) ∧ (decode cX2_tryRows 50 = .ok (.iload 4, 2)) ∧ (decode cX2_tryRows 52 = .ok (.aload_n 0, 1)) ∧ (decode cX2_tryRows 53 = .ok (.getfield 36, 3)) ∧ (decode cX2_tryRows 56 = .ok (.if_icmp .le 19, 3)) ∧ (decode cX2_tryRows 59 = .ok (.aload_n 0, 1)) ∧ (decode cX2_tryRows 60 = .ok (.iload_n 3, 1)) := by decide +kernel
theorem dX2_tryRows_42 : decode cX2_tryRows 42 = .ok (.iload_n 3, 1) := da_970.1
theorem dX2_tryRows_43 : decode cX2_tryRows 43 = .ok (.aload_n 0, 1) := da_970.2.1
theorem dX2_tryRows_44 : decode cX2_tryRows 44 = .ok (.getfield 33, 3) := da_970.2.2.1
theorem dX2_tryRows_47 : decode cX2_tryRows 47 = .ok (.if_icmp .ne 28, 3) := da_970.2.2.2.1
theorem dX2_tryRows_50 : decode cX2_tryRows 50 = .ok (.iload 4, 2) := da_970.2.2.2.2.1
theorem dX2_tryRows_52 : decode cX2_tryRows 52 = .ok (.aload_n 0, 1) := da_970.2.2.2.2.2.1
theorem dX2_tryRows_53 : decode cX2_tryRows 53 = .ok (.getfield 36, 3) := da_970.2.2.2.2.2.2.1
theorem dX2_tryRows_56 : decode cX2_tryRows 56 = .ok (.if_icmp .le 19, 3) := da_970.2.2.2.2.2.2.2.1
theorem dX2_tryRows_59 : decode cX2_tryRows 59 = .ok (.aload_n 0, 1) := da_970.2.2.2.2.2.2.2.2.1
theorem dX2_tryRows_60 : decode cX2_tryRows 60 = .ok (.iload_n 3, 1) := da_970.2.2.2.2.2.2.2.2.2
theorem da_980 : (decode cX2_tryRows 61 = .ok (.putfield 33, 3)) ∧ (decode cX2_tryRows 64 = .ok (.aload_n 0, 1)) ∧ (decode cX2_tryRows 65 = .ok (.iload 4, 2)) ∧ (decode cX2_tryRows 67 = .ok (.putfield 36, 3)) ∧ (decode cX2_tryRows 70 = .ok (.aload_n 0, 1)) ∧ (decode cX2_tryRows 71 = .ok (.iload_n 1, 1)) ∧ (decode cX2_tryRows 72 = .ok (.invokevirtual 55, 3)) ∧ (decode cX2_tryRows 75 = .ok (.return_, 1)) ∧ (decode cX2_tryRows 76 = .ok (.aload_n 0, 1)) ∧ (decode cX2_tryRows 77 = .ok (.getfield 11, 3)) := by decide +kernel
theorem dX2_tryRows_61 : decode cX2_tryRows 61 = .ok (.putfield 33, 3) := da_980.1
theorem dX2_tryRows_64 : decode cX2_tryRows 64 = .ok (.aload_n 0, 1) := da_980.2.1
theorem dX2_tryRows_65 : decode cX2_tryRows 65 = .ok (.iload 4, 2) := da_980.2.2.1
theorem dX2_tryRows_67 : decode cX2_tryRows 67 = .ok (.putfield 36, 3) := da_980.2.2.2.1
theorem dX2_tryRows_70 : decode cX2_tryRows 70 = .ok (.aload_n 0, 1) := da_980.2.2.2.2.1
theorem dX2_tryRows_71 : decode cX2_tryRows 71 = .ok (.iload_n 1, 1) := da_980.2.2.2.2.2.1
theorem dX2_tryRows_72 : decode cX2_tryRows 72 = .ok (.invokevirtual 55, 3) := da_980.2.2.2.2.2.2.1
theorem dX2_tryRows_75 : decode cX2_tryRows 75 = .ok (.return_, 1) := da_980.2.2.2.2.2.2.2.1
theorem dX2_tryRows_76 : decode cX2_tryRows 76 = .ok (.aload_n 0, 1) := da_980.2.2.2.2.2.2.2.2.1
theorem dX2_tryRows_77 : decode cX2_tryRows 77 = .ok (.getfield 11, 3) := da_980.2.2.2.2.2.2.2.2.2
theorem da_990 : (decode cX2_tryRows 80 = .ok (.iconst 0, 1)) ∧ (decode cX2_tryRows 81 = .ok (.aaload, 1)) ∧ (decode cX2_tryRows 82 = .ok (.getfield 59, 3)) ∧ (decode cX2_tryRows 85 = .ok (.istore_n 3, 1)) ∧ (decode cX2_tryRows 86 = .ok (.iconst 0, 1)) ∧ (decode cX2_tryRows 87 = .ok (.istore 4, 2)) ∧ (decode cX2_tryRows 89 = .ok (.iload 4, 2)) ∧ (decode cX2_tryRows 91 = .ok (.iload_n 3, 1)) ∧ (decode cX2_tryRows 92 = .ok (.if_icmp .gt 70, 3)) ∧ (decode cX2_tryRows 95 = .ok (.aload_n 0, 1)) := by decide +kernel
theorem dX2_tryRows_80 : decode cX2_tryRows 80 = .ok (.iconst 0, 1) := da_990.1
theorem dX2_tryRows_81 : decode cX2_tryRows 81 = .ok (.aaload, 1) := da_990.2.1
theorem dX2_tryRows_82 : decode cX2_tryRows 82 = .ok (.getfield 59, 3) := da_990.2.2.1
theorem dX2_tryRows_85 : decode cX2_tryRows 85 = .ok (.istore_n 3, 1) := da_990.2.2.2.1
theorem dX2_tryRows_86 : decode cX2_tryRows 86 = .ok (.iconst 0, 1) := da_990.2.2.2.2.1
theorem dX2_tryRows_87 : decode cX2_tryRows 87 = .ok (.istore 4, 2) := da_990.2.2.2.2.2.1
theorem dX2_tryRows_89 : decode cX2_tryRows 89 = .ok (.iload 4, 2) := da_990.2.2.2.2.2.2.1
theorem dX2_tryRows_91 : decode cX2_tryRows 91 = .ok (.iload_n 3, 1) := da_990.2.2.2.2.2.2.2.1
theorem dX2_tryRows_92 : decode cX2_tryRows 92 = .ok (.if_icmp .gt 70, 3) := da_990.2.2.2.2.2.2.2.2.1
theorem dX2_tryRows_95 : decode cX2_tryRows 95 = .ok (.aload_n 0, 1) := da_990.2.2.2.2.2.2.2.2.2
theorem da_1000 : (decode cX2_tryRows 96 = .ok (.getfield 17, 3)) ∧ (decode cX2_tryRows 99 = .ok (.iload_n 1, 1)) ∧ (decode cX2_tryRows 100 = .ok (.iload 4, 2)) ∧ (decode cX2_tryRows 102 = .ok (.iload_n 3, 1)) ∧ (decode cX2_tryRows 103 = .ok (.if_icmp .ge 8, 3)) ∧ (decode cX2_tryRows 106 = .ok (.iload 4, 2)) ∧ (decode cX2_tryRows 108 = .ok (.goto 4, 3)) ∧ (decode cX2_tryRows 111 = .ok (.iconst 5, 1)) ∧ (decode cX2_tryRows 112 = .ok (.iastore, 1)) ∧ (decode cX2_tryRows 113 = .ok (.aload_n 0, 1)) := by decide +kernel
theorem dX2_tryRows_96 : decode cX2_tryRows 96 = .ok (.getfield 17, 3) := da_1000.1
theorem dX2_tryRows_99 : decode cX2_tryRows 99 = .ok (.iload_n 1, 1) := da_1000.2.1
theorem dX2_tryRows_100 : decode cX2_tryRows 100 = .ok (.iload 4, 2) := da_1000.2.2.1
theorem dX2_tryRows_102 : decode cX2_tryRows 102 = .ok (.iload_n 3, 1) := da_1000.2.2.2.1
theorem dX2_tryRows_103 : decode cX2_tryRows 103 = .ok (.if_icmp .ge 8, 3) := da_1000.2.2.2.2.1
theorem dX2_tryRows_106 : decode cX2_tryRows 106 = .ok (.iload 4, 2) := da_1000.2.2.2.2.2.1
theorem dX2_tryRows_108 : decode cX2_tryRows 108 = .ok (.goto 4, 3) := da_1000.2.2.2.2.2.2.1
theorem dX2_tryRows_111 : decode cX2_tryRows 111 = .ok (.iconst 5, 1) := da_1000.2.2.2.2.2.2.2.1
theorem dX2_tryRows_112 : decode cX2_tryRows 112 = .ok (.iastore, 1) := da_1000.2.2.2.2.2.2.2.2.1
theorem dX2_tryRows_113 : decode cX2_tryRows 113 = .ok (.aload_n 0, 1) := da_1000.2.2.2.2.2.2.2.2.2
theorem da_1010 : (decode cX2_tryRows 114 = .ok (.getfield 11, 3)) ∧ (decode cX2_tryRows 117 = .ok (.iload_n 1, 1)) ∧ (decode cX2_tryRows 118 = .ok (.iconst 1, 1)) ∧ (decode cX2_tryRows 119 = .ok (.iadd, 1)) ∧ (decode cX2_tryRows 120 = .ok (.aaload, 1)) ∧ (decode cX2_tryRows 121 = .ok (.aload_n 0, 1)) ∧ (decode cX2_tryRows 122 = .ok (.getfield 11, 3)) ∧ (decode cX2_tryRows 125 = .ok (.iload_n 1, 1)) ∧ (decode cX2_tryRows 126 = .ok (.aaload, 1)) ∧ (decode cX2_tryRows 127 = .ok (.invokevirtual 62, 3)) := by decide +kernel
theorem dX2_tryRows_114 : decode cX2_tryRows 114 = .ok (.getfield 11, 3) := da_1010.1
theorem dX2_tryRows_117 : decode cX2_tryRows 117 = .ok (.iload_n 1, 1) := da_1010.2.1
theorem dX2_tryRows_118 : decode cX2_tryRows 118 = .ok (.iconst 1, 1) := da_1010.2.2.1
theorem dX2_tryRows_119 : decode cX2_tryRows 119 = .ok (.iadd, 1) := da_1010.2.2.2.1
theorem dX2_tryRows_120 : decode cX2_tryRows 120 = .ok (.aaload, 1) := da_1010.2.2.2.2.1
theorem dX2_tryRows_121 : decode cX2_tryRows 121 = .ok (.aload_n 0, 1) := da_1010.2.2.2.2.2.1
theorem dX2_tryRows_122 : decode cX2_tryRows 122 = .ok (.getfield 11, 3) := da_1010.2.2.2.2.2.2.1
theorem dX2_tryRows_125 : decode cX2_tryRows 125 = .ok (.iload_n 1, 1) := da_1010.2.2.2.2.2.2.2.1
theorem dX2_tryRows_126 : decode cX2_tryRows 126 = .ok (.aaload, 1) := da_1010.2.2.2.2.2.2.2.2.1
theorem dX2_tryRows_127 : decode cX2_tryRows 127 = .ok (.invokevirtual 62, 3) := da_1010.2.2.2.2.2.2.2.2.2
theorem da_1020 : (decode cX2_tryRows 130 = .ok (.aload_n 0, 1)) ∧ (decode cX2_tryRows 131 = .ok (.getfield 11, 3)) ∧ (decode cX2_tryRows 134 = .ok (.iload_n 1, 1)) ∧ (decode cX2_tryRows 135 = .ok (.iconst 1, 1)) ∧ (decode cX2_tryRows 136 = .ok (.iadd, 1)) ∧ (decode cX2_tryRows 137 = .ok (.aaload, 1)) ∧ (decode cX2_tryRows 138 = .ok (.aload_n 0, 1)) ∧ (decode cX2_tryRows 139 = .ok (.getfield 17, 3)) ∧ (decode cX2_tryRows 142 = .ok (.iload_n 1, 1)) ∧ (decode cX2_tryRows 143 = .ok (.iaload, 1)) := by decide +kernel
theorem dX2_tryRows_130 : decode cX2_tryRows 130 = .ok (.aload_n 0, 1) := da_1020.1
theorem dX2_tryRows_131 : decode cX2_tryRows 131 = .ok (.getfield 11, 3) := da_1020.2.1
theorem dX2_tryRows_134 : decode cX2_tryRows 134 = .ok (.iload_n 1, 1) := da_1020.2.2.1
theorem dX2_tryRows_135 : decode cX2_tryRows 135 = .ok (.iconst 1, 1) := da_1020.2.2.2.1
theorem dX2_tryRows_136 : decode cX2_tryRows 136 = .ok (.iadd, 1) := da_1020.2.2.2.2.1
theorem dX2_tryRows_137 : decode cX2_tryRows 137 = .ok (.aaload, 1) := da_1020.2.2.2.2.2.1
theorem dX2_tryRows_138 : decode cX2_tryRows 138 = .ok (.aload_n 0, 1) := da_1020.2.2.2.2.2.2.1
theorem dX2_tryRows_139 : decode cX2_tryRows 139 = .ok (.getfield 17, 3) := da_1020.2.2.2.2.2.2.2.1
theorem dX2_tryRows_142 : decode cX2_tryRows 142 = .ok (.iload_n 1, 1) := da_1020.2.2.2.2.2.2.2.2.1
theorem dX2_tryRows_143 : decode cX2_tryRows 143 = .ok (.iaload, 1) := da_1020.2.2.2.2.2.2.2.2.2
theorem da_1030 : (decode cX2_tryRows 144 = .ok (.invokevirtual 65, 3)) ∧ (decode cX2_tryRows 147 = .ok (.pop, 1)) ∧ (decode cX2_tryRows 148 = .ok (.aload_n 0, 1)) ∧ (decode cX2_tryRows 149 = .ok (.iload_n 1, 1)) ∧ (decode cX2_tryRows 150 = .ok (.iconst 1, 1)) ∧ (decode cX2_tryRows 151 = .ok (.iadd, 1)) ∧ (decode cX2_tryRows 152 = .ok (.iload_n 2, 1)) ∧ (decode cX2_tryRows 153 = .ok (.invokevirtual 39, 3)) ∧ (decode cX2_tryRows 156 = .ok (.iinc 4 1, 3)) ∧ (decode cX2_tryRows 159 = .ok (.goto (-70), 3)) := by decide +kernel
theorem dX2_tryRows_144 : decode cX2_tryRows 144 = .ok (.invokevirtual 65, 3) := da_1030.1
theorem dX2_tryRows_147 : decode cX2_tryRows 147 = .ok (.pop, 1) := da_1030.2.1
theorem dX2_tryRows_148 : decode cX2_tryRows 148 = .ok (.aload_n 0, 1) := da_1030.2.2.1
theorem dX2_tryRows_149 : decode cX2_tryRows 149 = .ok (.iload_n 1, 1) := da_1030.2.2.2.1
theorem dX2_tryRows_150 : decode cX2_tryRows 150 = .ok (.iconst 1, 1) := da_1030.2.2.2.2.1
theorem dX2_tryRows_151 : decode cX2_tryRows 151 = .ok (.iadd, 1) := da_1030.2.2.2.2.2.1
theorem dX2_tryRows_152 : decode cX2_tryRows 152 = .ok (.iload_n 2, 1) := da_1030.2.2.2.2.2.2.1
theorem dX2_tryRows_153 : decode cX2_tryRows 153 = .ok (.invokevirtual 39, 3) := da_1030.2.2.2.2.2.2.2.1
theorem dX2_tryRows_156 : decode cX2_tryRows 156 = .ok (.iinc 4 1, 3) := da_1030.2.2.2.2.2.2.2.2.1
theorem dX2_tryRows_159 : decode cX2_tryRows 159 = .ok (.goto (-70), 3) := da_1030.2.2.2.2.2.2.2.2.2
theorem da_1040 : (decode cX2_tryRows 162 = .ok (.return_, 1)) ∧ (decode cX2_findWayHome 0 = .ok (.aload_n 0, 1)) ∧ (decode cX2_findWayHome 1 = .ok (.getfield 11, 3)) ∧ (decode cX2_findWayHome 4 = .ok (.iconst 0, 1)) ∧ (decode cX2_findWayHome 5 = .ok (.aaload, 1)) ∧ (decode cX2_findWayHome 6 = .ok (.aload_n 1, 1)) ∧ (decode cX2_findWayHome 7 = .ok (.invokevirtual 29, 3)) ∧ (decode cX2_findWayHome 10 = .ok (.iconst 0, 1)) ∧ (decode cX2_findWayHome 11 = .ok (.istore_n 3, 1)) ∧ (decode cX2_findWayHome 12 = .ok (.iload_n 3, 1)) := by decide +kernel
theorem dX2_tryRows_162 : decode cX2_tryRows 162 = .ok (.return_, 1) := da_1040.1
theorem dX2_findWayHome_0 : decode cX2_findWayHome 0 = .ok (.aload_n 0, 1) := da_1040.2.1
theorem dX2_findWayHome_1 : decode cX2_findWayHome 1 = .ok (.getfield 11, 3) := da_1040.2.2.1
theorem dX2_findWayHome_4 : decode cX2_findWayHome 4 = .ok (.iconst 0, 1) := da_1040.2.2.2.1
theorem dX2_findWayHome_5 : decode cX2_findWayHome 5 = .ok (.aaload, 1) := da_1040.2.2.2.2.1
theorem dX2_findWayHome_6 : decode cX2_findWayHome 6 = .ok (.aload_n 1, 1) := da_1040.2.2.2.2.2.1
theorem dX2_findWayHome_7 : decode cX2_findWayHome 7 = .ok (.invokevirtual 29, 3) := da_1040.2.2.2.2.2.2.1
theorem dX2_findWayHome_10 : decode cX2_findWayHome 10 = .ok (.iconst 0, 1) := da_1040.2.2.2.2.2.2.2.1
theorem dX2_findWayHome_11 : decode cX2_findWayHome 11 = .ok (.istore_n 3, 1) := da_1040.2.2.2.2.2.2.2.2.1
theorem dX2_findWayHome_12 : decode cX2_findWayHome 12 = .ok (.iload_n 3, 1) := da_1040.2.2.2.2.2.2.2.2.2
theorem da_1050 : (decode cX2_findWayHome 13 = .ok (.iconst 3, 1)) ∧ (decode cX2_findWayHome 14 = .ok (.if_icmp .gt 21, 3)) ∧ (decode cX2_findWayHome 17 = .ok (.aload_n 0, 1)) ∧ (decode cX2_findWayHome 18 = .ok (.iconst 0, 1)) ∧ (decode cX2_findWayHome 19 = .ok (.iload_n 3, 1)) ∧ (decode cX2_findWayHome 20 = .ok (.iload_n 2, 1)) ∧ (decode cX2_findWayHome 21 = .ok (.invokevirtual 69, 3)) ∧ (decode cX2_findWayHome 24 = .ok (.ifCond .eq 5, 3)) ∧ (decode cX2_findWayHome 27 = .ok (.iconst 1, 1)) ∧ (decode cX2_findWayHome 28 = .ok (.ireturn, 1)) := by decide +kernel
theorem dX2_findWayHome_13 : decode cX2_findWayHome 13 = .ok (.iconst 3, 1) := da_1050.1
theorem dX2_findWayHome_14 : decode cX2_findWayHome 14 = .ok (.if_icmp .gt 21, 3) := da_1050.2.1
theorem dX2_findWayHome_17 : decode cX2_findWayHome 17 = .ok (.aload_n 0, 1) := da_1050.2.2.1
theorem dX2_findWayHome_18 : decode cX2_findWayHome 18 = .ok (.iconst 0, 1) := da_1050.2.2.2.1
theorem dX2_findWayHome_19 : decode cX2_findWayHome 19 = .ok (.iload_n 3, 1) := da_1050.2.2.2.2.1
theorem dX2_findWayHome_20 : decode cX2_findWayHome 20 = .ok (.iload_n 2, 1) := da_1050.2.2.2.2.2.1
theorem dX2_findWayHome_21 : decode cX2_findWayHome 21 = .ok (.invokevirtual 69, 3) := da_1050.2.2.2.2.2.2.1
theorem dX2_findWayHome_24 : decode cX2_findWayHome 24 = .ok (.ifCond .eq 5, 3) := da_1050.2.2.2.2.2.2.2.1
theorem dX2_findWayHome_27 : decode cX2_findWayHome 27 = .ok (.iconst 1, 1) := da_1050.2.2.2.2.2.2.2.2.1
theorem dX2_findWayHome_28 : decode cX2_findWayHome 28 = .ok (.ireturn, 1) := da_1050.2.2.2.2.2.2.2.2.2
theorem da_1060 : (decode cX2_findWayHome 29 = .ok (.iinc 3 1, 3)) ∧ (decode cX2_findWayHome 32 = .ok (.goto (-20), 3)) ∧ (decode cX2_findWayHome 35 = .ok (.iconst 0, 1)) ∧ (decode cX2_findWayHome 36 = .ok (.ireturn, 1)) ∧ (decode cX2_isHome 0 = .ok (.iload_n 1, 1)) ∧ (decode cX2_isHome 1 = .ok (.iload_n 2, 1)) ∧ (decode cX2_isHome 2 = .ok (.if_icmp .ge 8, 3)) ∧ (decode cX2_isHome 5 = .ok (.iload_n 1, 1)) ∧ (decode cX2_isHome 6 = .ok (.iconst 3, 1)) ∧ (decode cX2_isHome 7 = .ok (.if_icmp .lt 58, 3)) := by decide +kernel
theorem dX2_findWayHome_29 : decode cX2_findWayHome 29 = .ok (.iinc 3 1, 3) := da_1060.1
theorem dX2_findWayHome_32 : decode cX2_findWayHome 32 = .ok (.goto (-20), 3) := da_1060.2.1
theorem dX2_findWayHome_35 : decode cX2_findWayHome 35 = .ok (.iconst 0, 1) := da_1060.2.2.1
theorem dX2_findWayHome_36 : decode cX2_findWayHome 36 = .ok (.ireturn, 1) := da_1060.2.2.2.1
theorem dX2_isHome_0 : decode cX2_isHome 0 = .ok (.iload_n 1, 1) := da_1060.2.2.2.2.1
theorem dX2_isHome_1 : decode cX2_isHome 1 = .ok (.iload_n 2, 1) := da_1060.2.2.2.2.2.1
theorem dX2_isHome_2 : decode cX2_isHome 2 = .ok (.if_icmp .ge 8, 3) := da_1060.2.2.2.2.2.2.1
theorem dX2_isHome_5 : decode cX2_isHome 5 = .ok (.iload_n 1, 1) := da_1060.2.2.2.2.2.2.2.1
theorem dX2_isHome_6 : decode cX2_isHome 6 = .ok (.iconst 3, 1) := da_1060.2.2.2.2.2.2.2.2.1
theorem dX2_isHome_7 : decode cX2_isHome 7 = .ok (.if_icmp .lt 58, 3) := da_1060.2.2.2.2.2.2.2.2.2
theorem da_1070 : (decode cX2_isHome 10 = .ok (.aload_n 0, 1)) ∧ (decode cX2_isHome 11 = .ok (.getfield 11, 3)) ∧ (decode cX2_isHome 14 = .ok (.iload_n 1, 1)) ∧ (decode cX2_isHome 15 = .ok (.iconst 1, 1)) ∧ (decode cX2_isHome 16 = .ok (.iadd, 1)) ∧ (decode cX2_isHome 17 = .ok (.aaload, 1)) ∧ (decode cX2_isHome 18 = .ok (.aload_n 0, 1)) ∧ (decode cX2_isHome 19 = .ok (.getfield 11, 3)) ∧ (decode cX2_isHome 22 = .ok (.iload_n 1, 1)) ∧ (decode cX2_isHome 23 = .ok (.aaload, 1)) := by decide +kernel
theorem dX2_isHome_10 : decode cX2_isHome 10 = .ok (.aload_n 0, 1) := da_1070.1
theorem dX2_isHome_11 : decode cX2_isHome 11 = .ok (.getfield 11, 3) := da_1070.2.1
theorem dX2_isHome_14 : decode cX2_isHome 14 = .ok (.iload_n 1, 1) := da_1070.2.2.1
theorem dX2_isHome_15 : decode cX2_isHome 15 = .ok (.iconst 1, 1) := da_1070.2.2.2.1
theorem dX2_isHome_16 : decode cX2_isHome 16 = .ok (.iadd, 1) := da_1070.2.2.2.2.1
theorem dX2_isHome_17 : decode cX2_isHome 17 = .ok (.aaload, 1) := da_1070.2.2.2.2.2.1
theorem dX2_isHome_18 : decode cX2_isHome 18 = .ok (.aload_n 0, 1) := da_1070.2.2.2.2.2.2.1
theorem dX2_isHome_19 : decode cX2_isHome 19 = .ok (.getfield 11, 3) := da_1070.2.2.2.2.2.2.2.1
theorem dX2_isHome_22 : decode cX2_isHome 22 = .ok (.iload_n 1, 1) := da_1070.2.2.2.2.2.2.2.2.1
theorem dX2_isHome_23 : decode cX2_isHome 23 = .ok (.aaload, 1) := da_1070.2.2.2.2.2.2.2.2.2
theorem da_1080 : (decode cX2_isHome 24 = .ok (.invokevirtual 62, 3)) ∧ (decode cX2_isHome 27 = .ok (.aload_n 0, 1)) ∧ (decode cX2_isHome 28 = .ok (.getfield 11, 3)) ∧ (decode cX2_isHome 31 = .ok (.iload_n 1, 1)) ∧ (decode cX2_isHome 32 = .ok (.iconst 1, 1)) ∧ (decode cX2_isHome 33 = .ok (.iadd, 1)) ∧ (decode cX2_isHome 34 = .ok (.aaload, 1)) ∧ (decode cX2_isHome 35 = .ok (.invokevirtual 73, 3)) ∧ (decode cX2_isHome 38 = .ok (.pop, 1)) ∧ (decode cX2_isHome 39 = .ok (.aload_n 0, 1)) := by decide +kernel
theorem dX2_isHome_24 : decode cX2_isHome 24 = .ok (.invokevirtual 62, 3) := da_1080.1
theorem dX2_isHome_27 : decode cX2_isHome 27 = .ok (.aload_n 0, 1) := da_1080.2.1
theorem dX2_isHome_28 : decode cX2_isHome 28 = .ok (.getfield 11, 3) := da_1080.2.2.1
theorem dX2_isHome_31 : decode cX2_isHome 31 = .ok (.iload_n 1, 1) := da_1080.2.2.2.1
theorem dX2_isHome_32 : decode cX2_isHome 32 = .ok (.iconst 1, 1) := da_1080.2.2.2.2.1
theorem dX2_isHome_33 : decode cX2_isHome 33 = .ok (.iadd, 1) := da_1080.2.2.2.2.2.1
theorem dX2_isHome_34 : decode cX2_isHome 34 = .ok (.aaload, 1) := da_1080.2.2.2.2.2.2.1
theorem dX2_isHome_35 : decode cX2_isHome 35 = .ok (.invokevirtual 73, 3) := da_1080.2.2.2.2.2.2.2.1
theorem dX2_isHome_38 : decode cX2_isHome 38 = .ok (.pop, 1) := da_1080.2.2.2.2.2.2.2.2.1
theorem dX2_isHome_39 : decode cX2_isHome 39 = .ok (.aload_n 0, 1) := da_1080.2.2.2.2.2.2.2.2.2
theorem da_1090 : (decode cX2_isHome 40 = .ok (.iload_n 1, 1)) ∧ (decode cX2_isHome 41 = .ok (.invokevirtual 55, 3)) ∧ (decode cX2_isHome 44 = .ok (.aload_n 0, 1)) ∧ (decode cX2_isHome 45 = .ok (.getfield 11, 3)) ∧ (decode cX2_isHome 48 = .ok (.iload_n 1, 1)) ∧ (decode cX2_isHome 49 = .ok (.iconst 1, 1)) ∧ (decode cX2_isHome 50 = .ok (.iadd, 1)) ∧ (decode cX2_isHome 51 = .ok (.aaload, 1)) ∧ (decode cX2_isHome 52 = .ok (.iload_n 3, 1)) ∧ (decode cX2_isHome 53 = .ok (.invokevirtual 77, 3)) := by decide +kernel
theorem dX2_isHome_40 : decode cX2_isHome 40 = .ok (.iload_n 1, 1) := da_1090.1
theorem dX2_isHome_41 : decode cX2_isHome 41 = .ok (.invokevirtual 55, 3) := da_1090.2.1
theorem dX2_isHome_44 : decode cX2_isHome 44 = .ok (.aload_n 0, 1) := da_1090.2.2.1
theorem dX2_isHome_45 : decode cX2_isHome 45 = .ok (.getfield 11, 3) := da_1090.2.2.2.1
theorem dX2_isHome_48 : decode cX2_isHome 48 = .ok (.iload_n 1, 1) := da_1090.2.2.2.2.1
theorem dX2_isHome_49 : decode cX2_isHome 49 = .ok (.iconst 1, 1) := da_1090.2.2.2.2.2.1
theorem dX2_isHome_50 : decode cX2_isHome 50 = .ok (.iadd, 1) := da_1090.2.2.2.2.2.2.1
theorem dX2_isHome_51 : decode cX2_isHome 51 = .ok (.aaload, 1) := da_1090.2.2.2.2.2.2.2.1
theorem dX2_isHome_52 : decode cX2_isHome 52 = .ok (.iload_n 3, 1) := da_1090.2.2.2.2.2.2.2.2.1
theorem dX2_isHome_53 : decode cX2_isHome 53 = .ok (.invokevirtual 77, 3) := da_1090.2.2.2.2.2.2.2.2.2
theorem da_1100 : (decode cX2_isHome 56 = .ok (.ifCond .ne 7, 3)) ∧ (decode cX2_isHome 59 = .ok (.iconst 1, 1)) ∧ (decode cX2_isHome 60 = .ok (.goto 4, 3)) ∧ (decode cX2_isHome 63 = .ok (.iconst 0, 1)) ∧ (decode cX2_isHome 64 = .ok (.ireturn, 1)) ∧ (decode cX2_isHome 65 = .ok (.aload_n 0, 1)) ∧ (decode cX2_isHome 66 = .ok (.getfield 11, 3)) ∧ (decode cX2_isHome 69 = .ok (.iconst 0, 1)) ∧ (decode cX2_isHome 70 = .ok (.aaload, 1)) ∧ (decode cX2_isHome 71 = .ok (.getfield 59, 3)) := by decide +kernel
theorem dX2_isHome_56 : decode cX2_isHome 56 = .ok (.ifCond .ne 7, 3) := da_1100.1
theorem dX2_isHome_59 : decode cX2_isHome 59 = .ok (.iconst 1, 1) := da_1100.2.1
theorem dX2_isHome_60 : decode cX2_isHome 60 = .ok (.goto 4, 3) := da_1100.2.2.1
theorem dX2_isHome_63 : decode cX2_isHome 63 = .ok (.iconst 0, 1) := da_1100.2.2.2.1
theorem dX2_isHome_64 : decode cX2_isHome 64 = .ok (.ireturn, 1) := da_1100.2.2.2.2.1
theorem dX2_isHome_65 : decode cX2_isHome 65 = .ok (.aload_n 0, 1) := da_1100.2.2.2.2.2.1
theorem dX2_isHome_66 : decode cX2_isHome 66 = .ok (.getfield 11, 3) := da_1100.2.2.2.2.2.2.1
theorem dX2_isHome_69 : decode cX2_isHome 69 = .ok (.iconst 0, 1) := da_1100.2.2.2.2.2.2.2.1
theorem dX2_isHome_70 : decode cX2_isHome 70 = .ok (.aaload, 1) := da_1100.2.2.2.2.2.2.2.2.1
theorem dX2_isHome_71 : decode cX2_isHome 71 = .ok (.getfield 59, 3) := da_1100.2.2.2.2.2.2.2.2.2
theorem da_1110 : (decode cX2_isHome 74 = .ok (.istore 4, 2)) ∧ (decode cX2_isHome 76 = .ok (.iconst 0, 1)) ∧ (decode cX2_isHome 77 = .ok (.istore 5, 2)) ∧ (decode cX2_isHome 79 = .ok (.iload 5, 2)) ∧ (decode cX2_isHome 81 = .ok (.iload 4, 2)) ∧ (decode cX2_isHome 83 = .ok (.if_icmp .ge 62, 3)) ∧ (decode cX2_isHome 86 = .ok (.aload_n 0, 1)) ∧ (decode cX2_isHome 87 = .ok (.getfield 17, 3)) ∧ (decode cX2_isHome 90 = .ok (.iload_n 1, 1)) ∧ (decode cX2_isHome 91 = .ok (.iload 5, 2)) := by decide +kernel
theorem dX2_isHome_74 : decode cX2_isHome 74 = .ok (.istore 4, 2) := da_1110.1
theorem dX2_isHome_76 : decode cX2_isHome 76 = .ok (.iconst 0, 1) := da_1110.2.1
theorem dX2_isHome_77 : decode cX2_isHome 77 = .ok (.istore 5, 2) := da_1110.2.2.1
theorem dX2_isHome_79 : decode cX2_isHome 79 = .ok (.iload 5, 2) := da_1110.2.2.2.1
theorem dX2_isHome_81 : decode cX2_isHome 81 = .ok (.iload 4, 2) := da_1110.2.2.2.2.1
theorem dX2_isHome_83 : decode cX2_isHome 83 = .ok (.if_icmp .ge 62, 3) := da_1110.2.2.2.2.2.1
theorem dX2_isHome_86 : decode cX2_isHome 86 = .ok (.aload_n 0, 1) := da_1110.2.2.2.2.2.2.1
theorem dX2_isHome_87 : decode cX2_isHome 87 = .ok (.getfield 17, 3) := da_1110.2.2.2.2.2.2.2.1
theorem dX2_isHome_90 : decode cX2_isHome 90 = .ok (.iload_n 1, 1) := da_1110.2.2.2.2.2.2.2.2.1
theorem dX2_isHome_91 : decode cX2_isHome 91 = .ok (.iload 5, 2) := da_1110.2.2.2.2.2.2.2.2.2
theorem da_1120 : (decode cX2_isHome 93 = .ok (.iastore, 1)) ∧ (decode cX2_isHome 94 = .ok (.aload_n 0, 1)) ∧ (decode cX2_isHome 95 = .ok (.getfield 11, 3)) ∧ (decode cX2_isHome 98 = .ok (.iload_n 1, 1)) ∧ (decode cX2_isHome 99 = .ok (.iconst 1, 1)) ∧ (decode cX2_isHome 100 = .ok (.iadd, 1)) ∧ (decode cX2_isHome 101 = .ok (.aaload, 1)) ∧ (decode cX2_isHome 102 = .ok (.aload_n 0, 1)) ∧ (decode cX2_isHome 103 = .ok (.getfield 11, 3)) ∧ (decode cX2_isHome 106 = .ok (.iload_n 1, 1)) := by decide +kernel
theorem dX2_isHome_93 : decode cX2_isHome 93 = .ok (.iastore, 1) := da_1120.1
theorem dX2_isHome_94 : decode cX2_isHome 94 = .ok (.aload_n 0, 1) := da_1120.2.1
theorem dX2_isHome_95 : decode cX2_isHome 95 = .ok (.getfield 11, 3) := da_1120.2.2.1
theorem dX2_isHome_98 : decode cX2_isHome 98 = .ok (.iload_n 1, 1) := da_1120.2.2.2.1
theorem dX2_isHome_99 : decode cX2_isHome 99 = .ok (.iconst 1, 1) := da_1120.2.2.2.2.1
theorem dX2_isHome_100 : decode cX2_isHome 100 = .ok (.iadd, 1) := da_1120.2.2.2.2.2.1
theorem dX2_isHome_101 : decode cX2_isHome 101 = .ok (.aaload, 1) := da_1120.2.2.2.2.2.2.1
theorem dX2_isHome_102 : decode cX2_isHome 102 = .ok (.aload_n 0, 1) := da_1120.2.2.2.2.2.2.2.1
theorem dX2_isHome_103 : decode cX2_isHome 103 = .ok (.getfield 11, 3) := da_1120.2.2.2.2.2.2.2.2.1
theorem dX2_isHome_106 : decode cX2_isHome 106 = .ok (.iload_n 1, 1) := da_1120.2.2.2.2.2.2.2.2.2
theorem da_1130 : (decode cX2_isHome 107 = .ok (.aaload, 1)) ∧ (decode cX2_isHome 108 = .ok (.invokevirtual 62, 3)) ∧ (decode cX2_isHome 111 = .ok (.aload_n 0, 1)) ∧ (decode cX2_isHome 112 = .ok (.getfield 11, 3)) ∧ (decode cX2_isHome 115 = .ok (.iload_n 1, 1)) ∧ (decode cX2_isHome 116 = .ok (.iconst 1, 1)) ∧ (decode cX2_isHome 117 = .ok (.iadd, 1)) ∧ (decode cX2_isHome 118 = .ok (.aaload, 1)) ∧ (decode cX2_isHome 119 = .ok (.iload 5, 2)) ∧ (decode cX2_isHome 121 = .ok (.invokevirtual 65, 3)) := by decide +kernel
theorem dX2_isHome_107 : decode cX2_isHome 107 = .ok (.aaload, 1) := da_1130.1
theorem dX2_isHome_108 : decode cX2_isHome 108 = .ok (.invokevirtual 62, 3) := da_1130.2.1
theorem dX2_isHome_111 : decode cX2_isHome 111 = .ok (.aload_n 0, 1) := da_1130.2.2.1
theorem dX2_isHome_112 : decode cX2_isHome 112 = .ok (.getfield 11, 3) := da_1130.2.2.2.1
theorem dX2_isHome_115 : decode cX2_isHome 115 = .ok (.iload_n 1, 1) := da_1130.2.2.2.2.1
theorem dX2_isHome_116 : decode cX2_isHome 116 = .ok (.iconst 1, 1) := da_1130.2.2.2.2.2.1
theorem dX2_isHome_117 : decode cX2_isHome 117 = .ok (.iadd, 1) := da_1130.2.2.2.2.2.2.1
theorem dX2_isHome_118 : decode cX2_isHome 118 = .ok (.aaload, 1) := da_1130.2.2.2.2.2.2.2.1
theorem dX2_isHome_119 : decode cX2_isHome 119 = .ok (.iload 5, 2) := da_1130.2.2.2.2.2.2.2.2.1
theorem dX2_isHome_121 : decode cX2_isHome 121 = .ok (.invokevirtual 65, 3) := da_1130.2.2.2.2.2.2.2.2.2
theorem da_1140 : (decode cX2_isHome 124 = .ok (.pop, 1)) ∧ (decode cX2_isHome 125 = .ok (.aload_n 0, 1)) ∧ (decode cX2_isHome 126 = .ok (.iload_n 1, 1)) ∧ (decode cX2_isHome 127 = .ok (.iconst 1, 1)) ∧ (decode cX2_isHome 128 = .ok (.iadd, 1)) ∧ (decode cX2_isHome 129 = .ok (.iload_n 2, 1)) ∧ (decode cX2_isHome 130 = .ok (.iload_n 3, 1)) ∧ (decode cX2_isHome 131 = .ok (.invokevirtual 69, 3)) ∧ (decode cX2_isHome 134 = .ok (.ifCond .eq 5, 3)) ∧ (decode cX2_isHome 137 = .ok (.iconst 1, 1)) := by decide +kernel
theorem dX2_isHome_124 : decode cX2_isHome 124 = .ok (.pop, 1) := da_1140.1
theorem dX2_isHome_125 : decode cX2_isHome 125 = .ok (.aload_n 0, 1) := da_1140.2.1
theorem dX2_isHome_126 : decode cX2_isHome 126 = .ok (.iload_n 1, 1) := da_1140.2.2.1
theorem dX2_isHome_127 : decode cX2_isHome 127 = .ok (.iconst 1, 1) := da_1140.2.2.2.1
theorem dX2_isHome_128 : decode cX2_isHome 128 = .ok (.iadd, 1) := da_1140.2.2.2.2.1
theorem dX2_isHome_129 : decode cX2_isHome 129 = .ok (.iload_n 2, 1) := da_1140.2.2.2.2.2.1
theorem dX2_isHome_130 : decode cX2_isHome 130 = .ok (.iload_n 3, 1) := da_1140.2.2.2.2.2.2.1
theorem dX2_isHome_131 : decode cX2_isHome 131 = .ok (.invokevirtual 69, 3) := da_1140.2.2.2.2.2.2.2.1
theorem dX2_isHome_134 : decode cX2_isHome 134 = .ok (.ifCond .eq 5, 3) := da_1140.2.2.2.2.2.2.2.2.1
theorem dX2_isHome_137 : decode cX2_isHome 137 = .ok (.iconst 1, 1) := da_1140.2.2.2.2.2.2.2.2.2
theorem da_1150 : (decode cX2_isHome 138 = .ok (.ireturn, 1)) ∧ (decode cX2_isHome 139 = .ok (.iinc 5 1, 3)) ∧ (decode cX2_isHome 142 = .ok (.goto (-63), 3)) ∧ (decode cX2_isHome 145 = .ok (.iconst 0, 1)) ∧ (decode cX2_isHome 146 = .ok (.ireturn, 1)) ∧ (decode cX2_keepRow 0 = .ok (.aload_n 0, 1)) ∧ (decode cX2_keepRow 1 = .ok (.getfield 17, 3)) ∧ (decode cX2_keepRow 4 = .ok (.iconst 0, 1)) ∧ (decode cX2_keepRow 5 = .ok (.aload_n 0, 1)) ∧ (decode cX2_keepRow 6 = .ok (.getfield 21, 3)) := by decide +kernel
theorem dX2_isHome_138 : decode cX2_isHome 138 = .ok (.ireturn, 1) := da_1150.1
theorem dX2_isHome_139 : decode cX2_isHome 139 = .ok (.iinc 5 1, 3) := da_1150.2.1
theorem dX2_isHome_142 : decode cX2_isHome 142 = .ok (.goto (-63), 3) := da_1150.2.2.1
theorem dX2_isHome_145 : decode cX2_isHome 145 = .ok (.iconst 0, 1) := da_1150.2.2.2.1
theorem dX2_isHome_146 : decode cX2_isHome 146 = .ok (.ireturn, 1) := da_1150.2.2.2.2.1
theorem dX2_keepRow_0 : decode cX2_keepRow 0 = .ok (.aload_n 0, 1) := da_1150.2.2.2.2.2.1
theorem dX2_keepRow_1 : decode cX2_keepRow 1 = .ok (.getfield 17, 3) := da_1150.2.2.2.2.2.2.1
theorem dX2_keepRow_4 : decode cX2_keepRow 4 = .ok (.iconst 0, 1) := da_1150.2.2.2.2.2.2.2.1
theorem dX2_keepRow_5 : decode cX2_keepRow 5 = .ok (.aload_n 0, 1) := da_1150.2.2.2.2.2.2.2.2.1
theorem dX2_keepRow_6 : decode cX2_keepRow 6 = .ok (.getfield 21, 3) := da_1150.2.2.2.2.2.2.2.2.2
theorem da_1160 : (decode cX2_keepRow 9 = .ok (.iconst 0, 1)) ∧ (decode cX2_keepRow 10 = .ok (.iload_n 1, 1)) ∧ (decode cX2_keepRow 11 = .ok (.invokestatic 80, 3)) ∧ (decode cX2_keepRow 14 = .ok (.aload_n 0, 1)) ∧ (decode cX2_keepRow 15 = .ok (.iload_n 1, 1)) ∧ (decode cX2_keepRow 16 = .ok (.putfield 25, 3)) ∧ (decode cX2_keepRow 19 = .ok (.return_, 1)) ∧ (decode cX3_init 0 = .ok (.aload_n 0, 1)) ∧ (decode cX3_init 1 = .ok (.invokespecial 3, 3)) ∧ (decode cX3_init 4 = .ok (.aload_n 0, 1)) := by decide +kernel
theorem dX2_keepRow_9 : decode cX2_keepRow 9 = .ok (.iconst 0, 1) := da_1160.1
theorem dX2_keepRow_10 : decode cX2_keepRow 10 = .ok (.iload_n 1, 1) := da_1160.2.1
theorem dX2_keepRow_11 : decode cX2_keepRow 11 = .ok (.invokestatic 80, 3) := da_1160.2.2.1
theorem dX2_keepRow_14 : decode cX2_keepRow 14 = .ok (.aload_n 0, 1) := da_1160.2.2.2.1
theorem dX2_keepRow_15 : decode cX2_keepRow 15 = .ok (.iload_n 1, 1) := da_1160.2.2.2.2.1
theorem dX2_keepRow_16 : decode cX2_keepRow 16 = .ok (.putfield 25, 3) := da_1160.2.2.2.2.2.1
theorem dX2_keepRow_19 : decode cX2_keepRow 19 = .ok (.return_, 1) := da_1160.2.2.2.2.2.2.1
theorem dX3_init_0 : decode cX3_init 0 = .ok (.aload_n 0, 1) := da_1160.2.2.2.2.2.2.2.1
theorem dX3_init_1 : decode cX3_init 1 = .ok (.invokespecial 3, 3) := da_1160.2.2.2.2.2.2.2.2.1
theorem dX3_init_4 : decode cX3_init 4 = .ok (.aload_n 0, 1) := da_1160.2.2.2.2.2.2.2.2.2
theorem da_1170 : (decode cX3_init 5 = .ok (.bipush 40, 2)) ∧ (decode cX3_init 7 = .ok (.newarray .int, 2)) ∧ (decode cX3_init 9 = .ok (.putfield 9, 3)) ∧ (decode cX3_init 12 = .ok (.return_, 1)) ∧ (decode cX3_renew 0 = .ok (.aload_n 0, 1)) ∧ (decode cX3_renew 1 = .ok (.getfield 9, 3)) ∧ (decode cX3_renew 4 = .ok (.iconst 0, 1)) ∧ (decode cX3_renew 5 = .ok (.invokestatic 15, 3)) ∧ (decode cX3_renew 8 = .ok (.aload_n 0, 1)) ∧ (decode cX3_renew 9 = .ok (.iconst 1, 1)) := by decide +kernel
theorem dX3_init_5 : decode cX3_init 5 = .ok (.bipush 40, 2) := da_1170.1
theorem dX3_init_7 : decode cX3_init 7 = .ok (.newarray .int, 2) := da_1170.2.1
theorem dX3_init_9 : decode cX3_init 9 = .ok (.putfield 9, 3) := da_1170.2.2.1
theorem dX3_init_12 : decode cX3_init 12 = .ok (.return_, 1) := da_1170.2.2.2.1
theorem dX3_renew_0 : decode cX3_renew 0 = .ok (.aload_n 0, 1) := da_1170.2.2.2.2.1
theorem dX3_renew_1 : decode cX3_renew 1 = .ok (.getfield 9, 3) := da_1170.2.2.2.2.2.1
theorem dX3_renew_4 : decode cX3_renew 4 = .ok (.iconst 0, 1) := da_1170.2.2.2.2.2.2.1
theorem dX3_renew_5 : decode cX3_renew 5 = .ok (.invokestatic 15, 3) := da_1170.2.2.2.2.2.2.2.1
theorem dX3_renew_8 : decode cX3_renew 8 = .ok (.aload_n 0, 1) := da_1170.2.2.2.2.2.2.2.2.1
theorem dX3_renew_9 : decode cX3_renew 9 = .ok (.iconst 1, 1) := da_1170.2.2.2.2.2.2.2.2.2
theorem da_1180 : (decode cX3_renew 10 = .ok (.putfield 21, 3)) ∧ (decode cX3_renew 13 = .ok (.aload_n 0, 1)) ∧ (decode cX3_renew 14 = .ok (.iload_n 1, 1)) ∧ (decode cX3_renew 15 = .ok (.putfield 25, 3)) ∧ (decode cX3_renew 18 = .ok (.aload_n 0, 1)) ∧ (decode cX3_renew 19 = .ok (.iload_n 2, 1)) ∧ (decode cX3_renew 20 = .ok (.putfield 29, 3)) ∧ (decode cX3_renew 23 = .ok (.return_, 1)) ∧ (decode cX3_faultAt 0 = .ok (.aload_n 0, 1)) ∧ (decode cX3_faultAt 1 = .ok (.getfield 21, 3)) := by decide +kernel
theorem dX3_renew_10 : decode cX3_renew 10 = .ok (.putfield 21, 3) := da_1180.1
theorem dX3_renew_13 : decode cX3_renew 13 = .ok (.aload_n 0, 1) := da_1180.2.1
theorem dX3_renew_14 : decode cX3_renew 14 = .ok (.iload_n 1, 1) := da_1180.2.2.1
theorem dX3_renew_15 : decode cX3_renew 15 = .ok (.putfield 25, 3) := da_1180.2.2.2.1
theorem dX3_renew_18 : decode cX3_renew 18 = .ok (.aload_n 0, 1) := da_1180.2.2.2.2.1
theorem dX3_renew_19 : decode cX3_renew 19 = .ok (.iload_n 2, 1) := da_1180.2.2.2.2.2.1
theorem dX3_renew_20 : decode cX3_renew 20 = .ok (.putfield 29, 3) := da_1180.2.2.2.2.2.2.1
theorem dX3_renew_23 : decode cX3_renew 23 = .ok (.return_, 1) := da_1180.2.2.2.2.2.2.2.1
theorem dX3_faultAt_0 : decode cX3_faultAt 0 = .ok (.aload_n 0, 1) := da_1180.2.2.2.2.2.2.2.2.1
theorem dX3_faultAt_1 : decode cX3_faultAt 1 = .ok (.getfield 21, 3) := da_1180.2.2.2.2.2.2.2.2.2
theorem da_1190 : (decode cX3_faultAt 4 = .ok (.ifCond .ne 5, 3)) ∧ (decode cX3_faultAt 7 = .ok (.iconst 1, 1)) ∧ (decode cX3_faultAt 8 = .ok (.ireturn, 1)) ∧ (decode cX3_faultAt 9 = .ok (.aload_n 0, 1)) ∧ (decode cX3_faultAt 10 = .ok (.getfield 25, 3)) ∧ (decode cX3_faultAt 13 = .ok (.iload_n 1, 1)) ∧ (decode cX3_faultAt 14 = .ok (.if_icmp .eq 5, 3)) ∧ (decode cX3_faultAt 17 = .ok (.iconst 3, 1)) ∧ (decode cX3_faultAt 18 = .ok (.ireturn, 1)) ∧ (decode cX3_faultAt 19 = .ok (.iload_n 2, 1)) := by decide +kernel
theorem dX3_faultAt_4 : decode cX3_faultAt 4 = .ok (.ifCond .ne 5, 3) := da_1190.1
theorem dX3_faultAt_7 : decode cX3_faultAt 7 = .ok (.iconst 1, 1) := da_1190.2.1
theorem dX3_faultAt_8 : decode cX3_faultAt 8 = .ok (.ireturn, 1) := da_1190.2.2.1
theorem dX3_faultAt_9 : decode cX3_faultAt 9 = .ok (.aload_n 0, 1) := da_1190.2.2.2.1
theorem dX3_faultAt_10 : decode cX3_faultAt 10 = .ok (.getfield 25, 3) := da_1190.2.2.2.2.1
theorem dX3_faultAt_13 : decode cX3_faultAt 13 = .ok (.iload_n 1, 1) := da_1190.2.2.2.2.2.1
theorem dX3_faultAt_14 : decode cX3_faultAt 14 = .ok (.if_icmp .eq 5, 3) := da_1190.2.2.2.2.2.2.1
theorem dX3_faultAt_17 : decode cX3_faultAt 17 = .ok (.iconst 3, 1) := da_1190.2.2.2.2.2.2.2.1
theorem dX3_faultAt_18 : decode cX3_faultAt 18 = .ok (.ireturn, 1) := da_1190.2.2.2.2.2.2.2.2.1
theorem dX3_faultAt_19 : decode cX3_faultAt 19 = .ok (.iload_n 2, 1) := da_1190.2.2.2.2.2.2.2.2.2
theorem da_1200 : (decode cX3_faultAt 20 = .ok (.ifCond .lt 11, 3)) ∧ (decode cX3_faultAt 23 = .ok (.iload_n 2, 1)) ∧ (decode cX3_faultAt 24 = .ok (.aload_n 0, 1)) ∧ (decode cX3_faultAt 25 = .ok (.getfield 29, 3)) ∧ (decode cX3_faultAt 28 = .ok (.if_icmp .lt 7, 3)) ∧ (decode cX3_faultAt 31 = .ok (.iconst 2, 1)) ∧ (decode cX3_faultAt 32 = .ok (.goto 4, 3)) ∧ (decode cX3_faultAt 35 = .ok (.iconst 0, 1)) ∧ (decode cX3_faultAt 36 = .ok (.ireturn, 1)) ∧ (decode cX3_put 0 = .ok (.aload_n 0, 1)) := by decide +kernel
theorem dX3_faultAt_20 : decode cX3_faultAt 20 = .ok (.ifCond .lt 11, 3) := da_1200.1
theorem dX3_faultAt_23 : decode cX3_faultAt 23 = .ok (.iload_n 2, 1) := da_1200.2.1
theorem dX3_faultAt_24 : decode cX3_faultAt 24 = .ok (.aload_n 0, 1) := da_1200.2.2.1
theorem dX3_faultAt_25 : decode cX3_faultAt 25 = .ok (.getfield 29, 3) := da_1200.2.2.2.1
theorem dX3_faultAt_28 : decode cX3_faultAt 28 = .ok (.if_icmp .lt 7, 3) := da_1200.2.2.2.2.1
theorem dX3_faultAt_31 : decode cX3_faultAt 31 = .ok (.iconst 2, 1) := da_1200.2.2.2.2.2.1
theorem dX3_faultAt_32 : decode cX3_faultAt 32 = .ok (.goto 4, 3) := da_1200.2.2.2.2.2.2.1
theorem dX3_faultAt_35 : decode cX3_faultAt 35 = .ok (.iconst 0, 1) := da_1200.2.2.2.2.2.2.2.1
theorem dX3_faultAt_36 : decode cX3_faultAt 36 = .ok (.ireturn, 1) := da_1200.2.2.2.2.2.2.2.2.1
theorem dX3_put_0 : decode cX3_put 0 = .ok (.aload_n 0, 1) := da_1200.2.2.2.2.2.2.2.2.2
theorem da_1210 : (decode cX3_put 1 = .ok (.getfield 25, 3)) ∧ (decode cX3_put 4 = .ok (.ifCond .ne 14, 3)) ∧ (decode cX3_put 7 = .ok (.aload_n 0, 1)) ∧ (decode cX3_put 8 = .ok (.getfield 9, 3)) ∧ (decode cX3_put 11 = .ok (.iload_n 1, 1)) ∧ (decode cX3_put 12 = .ok (.iload_n 2, 1)) ∧ (decode cX3_put 13 = .ok (.i2b, 1)) ∧ (decode cX3_put 14 = .ok (.iastore, 1)) ∧ (decode cX3_put 15 = .ok (.goto 29, 3)) ∧ (decode cX3_put 18 = .ok (.aload_n 0, 1)) := by decide +kernel
theorem dX3_put_1 : decode cX3_put 1 = .ok (.getfield 25, 3) := da_1210.1
theorem dX3_put_4 : decode cX3_put 4 = .ok (.ifCond .ne 14, 3) := da_1210.2.1
theorem dX3_put_7 : decode cX3_put 7 = .ok (.aload_n 0, 1) := da_1210.2.2.1
theorem dX3_put_8 : decode cX3_put 8 = .ok (.getfield 9, 3) := da_1210.2.2.2.1
theorem dX3_put_11 : decode cX3_put 11 = .ok (.iload_n 1, 1) := da_1210.2.2.2.2.1
theorem dX3_put_12 : decode cX3_put 12 = .ok (.iload_n 2, 1) := da_1210.2.2.2.2.2.1
theorem dX3_put_13 : decode cX3_put 13 = .ok (.i2b, 1) := da_1210.2.2.2.2.2.2.1
theorem dX3_put_14 : decode cX3_put 14 = .ok (.iastore, 1) := da_1210.2.2.2.2.2.2.2.1
theorem dX3_put_15 : decode cX3_put 15 = .ok (.goto 29, 3) := da_1210.2.2.2.2.2.2.2.2.1
theorem dX3_put_18 : decode cX3_put 18 = .ok (.aload_n 0, 1) := da_1210.2.2.2.2.2.2.2.2.2
theorem da_1220 : (decode cX3_put 19 = .ok (.getfield 25, 3)) ∧ (decode cX3_put 22 = .ok (.iconst 1, 1)) ∧ (decode cX3_put 23 = .ok (.if_icmp .ne 14, 3)) ∧ (decode cX3_put 26 = .ok (.aload_n 0, 1)) ∧ (decode cX3_put 27 = .ok (.getfield 9, 3)) ∧ (decode cX3_put 30 = .ok (.iload_n 1, 1)) ∧ (decode cX3_put 31 = .ok (.iload_n 2, 1)) ∧ (decode cX3_put 32 = .ok (.i2s, 1)) ∧ (decode cX3_put 33 = .ok (.iastore, 1)) ∧ (decode cX3_put 34 = .ok (.goto 10, 3)) := by decide +kernel
theorem dX3_put_19 : decode cX3_put 19 = .ok (.getfield 25, 3) := da_1220.1
theorem dX3_put_22 : decode cX3_put 22 = .ok (.iconst 1, 1) := da_1220.2.1
theorem dX3_put_23 : decode cX3_put 23 = .ok (.if_icmp .ne 14, 3) := da_1220.2.2.1
theorem dX3_put_26 : decode cX3_put 26 = .ok (.aload_n 0, 1) := da_1220.2.2.2.1
theorem dX3_put_27 : decode cX3_put 27 = .ok (.getfield 9, 3) := da_1220.2.2.2.2.1
theorem dX3_put_30 : decode cX3_put 30 = .ok (.iload_n 1, 1) := da_1220.2.2.2.2.2.1
theorem dX3_put_31 : decode cX3_put 31 = .ok (.iload_n 2, 1) := da_1220.2.2.2.2.2.2.1
theorem dX3_put_32 : decode cX3_put 32 = .ok (.i2s, 1) := da_1220.2.2.2.2.2.2.2.1
theorem dX3_put_33 : decode cX3_put 33 = .ok (.iastore, 1) := da_1220.2.2.2.2.2.2.2.2.1
theorem dX3_put_34 : decode cX3_put 34 = .ok (.goto 10, 3) := da_1220.2.2.2.2.2.2.2.2.2
theorem da_1230 : (decode cX3_put 37 = .ok (.aload_n 0, 1)) ∧ (decode cX3_put 38 = .ok (.getfield 9, 3)) ∧ (decode cX3_put 41 = .ok (.iload_n 1, 1)) ∧ (decode cX3_put 42 = .ok (.iload_n 2, 1)) ∧ (decode cX3_put 43 = .ok (.iastore, 1)) ∧ (decode cX3_put 44 = .ok (.return_, 1)) ∧ (decode cX4_init 0 = .ok (.aload_n 0, 1)) ∧ (decode cX4_init 1 = .ok (.invokespecial 3, 3)) ∧ (decode cX4_init 4 = .ok (.aload_n 0, 1)) ∧ (decode cX4_init 5 = .ok (.bipush 6, 2)) := by decide +kernel
theorem dX3_put_37 : decode cX3_put 37 = .ok (.aload_n 0, 1) := da_1230.1
theorem dX3_put_38 : decode cX3_put 38 = .ok (.getfield 9, 3) := da_1230.2.1
theorem dX3_put_41 : decode cX3_put 41 = .ok (.iload_n 1, 1) := da_1230.2.2.1
theorem dX3_put_42 : decode cX3_put 42 = .ok (.iload_n 2, 1) := da_1230.2.2.2.1
theorem dX3_put_43 : decode cX3_put 43 = .ok (.iastore, 1) := da_1230.2.2.2.2.1
theorem dX3_put_44 : decode cX3_put 44 = .ok (.return_, 1) := da_1230.2.2.2.2.2.1
theorem dX4_init_0 : decode cX4_init 0 = .ok (.aload_n 0, 1) := da_1230.2.2.2.2.2.2.1
theorem dX4_init_1 : decode cX4_init 1 = .ok (.invokespecial 3, 3) := da_1230.2.2.2.2.2.2.2.1
theorem dX4_init_4 : decode cX4_init 4 = .ok (.aload_n 0, 1) := da_1230.2.2.2.2.2.2.2.2.1
theorem dX4_init_5 : decode cX4_init 5 = .ok (.bipush 6, 2) := da_1230.2.2.2.2.2.2.2.2.2
theorem da_1240 : (decode cX4_init 7 = .ok (.newarray .int, 2)) ∧ (decode cX4_init 9 = .ok (.putfield 9, 3)) ∧ (decode cX4_init 12 = .ok (.aload_n 0, 1)) ∧ (decode cX4_init 13 = .ok (.bipush 6, 2)) ∧ (decode cX4_init 15 = .ok (.newarray .boolean, 2)) ∧ (decode cX4_init 17 = .ok (.putfield 15, 3)) ∧ (decode cX4_init 20 = .ok (.return_, 1)) ∧ (decode cX4_add 0 = .ok (.aload_n 0, 1)) ∧ (decode cX4_add 1 = .ok (.getfield 19, 3)) ∧ (decode cX4_add 4 = .ok (.bipush 6, 2)) := by decide +kernel
theorem dX4_init_7 : decode cX4_init 7 = .ok (.newarray .int, 2) := da_1240.1
theorem dX4_init_9 : decode cX4_init 9 = .ok (.putfield 9, 3) := da_1240.2.1
theorem dX4_init_12 : decode cX4_init 12 = .ok (.aload_n 0, 1) := da_1240.2.2.1
theorem dX4_init_13 : decode cX4_init 13 = .ok (.bipush 6, 2) := da_1240.2.2.2.1
theorem dX4_init_15 : decode cX4_init 15 = .ok (.newarray .boolean, 2) := da_1240.2.2.2.2.1
theorem dX4_init_17 : decode cX4_init 17 = .ok (.putfield 15, 3) := da_1240.2.2.2.2.2.1
theorem dX4_init_20 : decode cX4_init 20 = .ok (.return_, 1) := da_1240.2.2.2.2.2.2.1
theorem dX4_add_0 : decode cX4_add 0 = .ok (.aload_n 0, 1) := da_1240.2.2.2.2.2.2.2.1
theorem dX4_add_1 : decode cX4_add 1 = .ok (.getfield 19, 3) := da_1240.2.2.2.2.2.2.2.2.1
theorem dX4_add_4 : decode cX4_add 4 = .ok (.bipush 6, 2) := da_1240.2.2.2.2.2.2.2.2.2
theorem da_1250 : (decode cX4_add 6 = .ok (.if_icmp .lt 5, 3)) ∧ (decode cX4_add 9 = .ok (.iconst 0, 1)) ∧ (decode cX4_add 10 = .ok (.ireturn, 1)) ∧ (decode cX4_add 11 = .ok (.aload_n 0, 1)) ∧ (decode cX4_add 12 = .ok (.getfield 9, 3)) ∧ (decode cX4_add 15 = .ok (.aload_n 0, 1)) ∧ (decode cX4_add 16 = .ok (.getfield 19, 3)) ∧ (decode cX4_add 19 = .ok (.iload_n 1, 1)) ∧ (decode cX4_add 20 = .ok (.iastore, 1)) ∧ (decode cX4_add 21 = .ok (.aload_n 0, 1)) := by decide +kernel
theorem dX4_add_6 : decode cX4_add 6 = .ok (.if_icmp .lt 5, 3) := da_1250.1
theorem dX4_add_9 : decode cX4_add 9 = .ok (.iconst 0, 1) := da_1250.2.1
theorem dX4_add_10 : decode cX4_add 10 = .ok (.ireturn, 1) := da_1250.2.2.1
theorem dX4_add_11 : decode cX4_add 11 = .ok (.aload_n 0, 1) := da_1250.2.2.2.1
theorem dX4_add_12 : decode cX4_add 12 = .ok (.getfield 9, 3) := da_1250.2.2.2.2.1
theorem dX4_add_15 : decode cX4_add 15 = .ok (.aload_n 0, 1) := da_1250.2.2.2.2.2.1
theorem dX4_add_16 : decode cX4_add 16 = .ok (.getfield 19, 3) := da_1250.2.2.2.2.2.2.1
theorem dX4_add_19 : decode cX4_add 19 = .ok (.iload_n 1, 1) := da_1250.2.2.2.2.2.2.2.1
theorem dX4_add_20 : decode cX4_add 20 = .ok (.iastore, 1) := da_1250.2.2.2.2.2.2.2.2.1
theorem dX4_add_21 : decode cX4_add 21 = .ok (.aload_n 0, 1) := da_1250.2.2.2.2.2.2.2.2.2
theorem da_1260 : (decode cX4_add 22 = .ok (.getfield 15, 3)) ∧ (decode cX4_add 25 = .ok (.aload_n 0, 1)) ∧ (decode cX4_add 26 = .ok (.getfield 19, 3)) ∧ (decode cX4_add 29 = .ok (.iload_n 2, 1)) ∧ (decode cX4_add 30 = .ok (.bastore, 1)) ∧ (decode cX4_add 31 = .ok (.aload_n 0, 1)) ∧ (decode cX4_add 32 = .ok (.dup, 1)) ∧ (decode cX4_add 33 = .ok (.getfield 19, 3)) ∧ (decode cX4_add 36 = .ok (.iconst 1, 1)) ∧ (decode cX4_add 37 = .ok (.iadd, 1)) := by decide +kernel
theorem dX4_add_22 : decode cX4_add 22 = .ok (.getfield 15, 3) := da_1260.1
theorem dX4_add_25 : decode cX4_add 25 = .ok (.aload_n 0, 1) := da_1260.2.1
theorem dX4_add_26 : decode cX4_add 26 = .ok (.getfield 19, 3) := da_1260.2.2.1
theorem dX4_add_29 : decode cX4_add 29 = .ok (.iload_n 2, 1) := da_1260.2.2.2.1
theorem dX4_add_30 : decode cX4_add 30 = .ok (.bastore, 1) := da_1260.2.2.2.2.1
theorem dX4_add_31 : decode cX4_add 31 = .ok (.aload_n 0, 1) := da_1260.2.2.2.2.2.1
theorem dX4_add_32 : decode cX4_add 32 = .ok (.dup, 1) := da_1260.2.2.2.2.2.2.1
theorem dX4_add_33 : decode cX4_add 33 = .ok (.getfield 19, 3) := da_1260.2.2.2.2.2.2.2.1
theorem dX4_add_36 : decode cX4_add 36 = .ok (.iconst 1, 1) := da_1260.2.2.2.2.2.2.2.2.1
theorem dX4_add_37 : decode cX4_add 37 = .ok (.iadd, 1) := da_1260.2.2.2.2.2.2.2.2.2
theorem da_1270 : (decode cX4_add 38 = .ok (.putfield 19, 3)) ∧ (decode cX4_add 41 = .ok (.iconst 1, 1)) ∧ (decode cX4_add 42 = .ok (.ireturn, 1)) ∧ (decode cX4_agreeWith 0 = .ok (.iconst 0, 1)) ∧ (decode cX4_agreeWith 1 = .ok (.istore_n 2, 1)) ∧ (decode cX4_agreeWith 2 = .ok (.iload_n 2, 1)) ∧ (decode cX4_agreeWith 3 = .ok (.aload_n 0, 1)) ∧ (decode cX4_agreeWith 4 = .ok (.getfield 19, 3)) ∧ (decode cX4_agreeWith 7 = .ok (.if_icmp .ge 41, 3)) ∧ (decode cX4_agreeWith 10 = .ok (.iload_n 1, 1)) := by decide +kernel
theorem dX4_add_38 : decode cX4_add 38 = .ok (.putfield 19, 3) := da_1270.1
theorem dX4_add_41 : decode cX4_add 41 = .ok (.iconst 1, 1) := da_1270.2.1
theorem dX4_add_42 : decode cX4_add 42 = .ok (.ireturn, 1) := da_1270.2.2.1
theorem dX4_agreeWith_0 : decode cX4_agreeWith 0 = .ok (.iconst 0, 1) := da_1270.2.2.2.1
theorem dX4_agreeWith_1 : decode cX4_agreeWith 1 = .ok (.istore_n 2, 1) := da_1270.2.2.2.2.1
theorem dX4_agreeWith_2 : decode cX4_agreeWith 2 = .ok (.iload_n 2, 1) := da_1270.2.2.2.2.2.1
theorem dX4_agreeWith_3 : decode cX4_agreeWith 3 = .ok (.aload_n 0, 1) := da_1270.2.2.2.2.2.2.1
theorem dX4_agreeWith_4 : decode cX4_agreeWith 4 = .ok (.getfield 19, 3) := da_1270.2.2.2.2.2.2.2.1
theorem dX4_agreeWith_7 : decode cX4_agreeWith 7 = .ok (.if_icmp .ge 41, 3) := da_1270.2.2.2.2.2.2.2.2.1
theorem dX4_agreeWith_10 : decode cX4_agreeWith 10 = .ok (.iload_n 1, 1) := da_1270.2.2.2.2.2.2.2.2.2
theorem da_1280 : (decode cX4_agreeWith 11 = .ok (.aload_n 0, 1)) ∧ (decode cX4_agreeWith 12 = .ok (.getfield 9, 3)) ∧ (decode cX4_agreeWith 15 = .ok (.iload_n 2, 1)) ∧ (decode cX4_agreeWith 16 = .ok (.iaload, 1)) ∧ (decode cX4_agreeWith 17 = .ok (.ishr, 1)) ∧ (decode cX4_agreeWith 18 = .ok (.iconst 1, 1)) ∧ (decode cX4_agreeWith 19 = .ok (.iand, 1)) ∧ (decode cX4_agreeWith 20 = .ok (.iconst 1, 1)) ∧ (decode cX4_agreeWith 21 = .ok (.if_icmp .ne 7, 3)) ∧ (decode cX4_agreeWith 24 = .ok (.iconst 1, 1)) := by decide +kernel
theorem dX4_agreeWith_11 : decode cX4_agreeWith 11 = .ok (.aload_n 0, 1) := da_1280.1
theorem dX4_agreeWith_12 : decode cX4_agreeWith 12 = .ok (.getfield 9, 3) := da_1280.2.1
theorem dX4_agreeWith_15 : decode cX4_agreeWith 15 = .ok (.iload_n 2, 1) := da_1280.2.2.1
theorem dX4_agreeWith_16 : decode cX4_agreeWith 16 = .ok (.iaload, 1) := da_1280.2.2.2.1
theorem dX4_agreeWith_17 : decode cX4_agreeWith 17 = .ok (.ishr, 1) := da_1280.2.2.2.2.1
theorem dX4_agreeWith_18 : decode cX4_agreeWith 18 = .ok (.iconst 1, 1) := da_1280.2.2.2.2.2.1
theorem dX4_agreeWith_19 : decode cX4_agreeWith 19 = .ok (.iand, 1) := da_1280.2.2.2.2.2.2.1
theorem dX4_agreeWith_20 : decode cX4_agreeWith 20 = .ok (.iconst 1, 1) := da_1280.2.2.2.2.2.2.2.1
theorem dX4_agreeWith_21 : decode cX4_agreeWith 21 = .ok (.if_icmp .ne 7, 3) := da_1280.2.2.2.2.2.2.2.2.1
theorem dX4_agreeWith_24 : decode cX4_agreeWith 24 = .ok (.iconst 1, 1) := da_1280.2.2.2.2.2.2.2.2.2
theorem da_1290 : (decode cX4_agreeWith 25 = .ok (.goto 4, 3)) ∧ (decode cX4_agreeWith 28 = .ok (.iconst 0, 1)) ∧ (decode cX4_agreeWith 29 = .ok (.istore_n 3, 1)) ∧ (decode cX4_agreeWith 30 = .ok (.iload_n 3, 1)) ∧ (decode cX4_agreeWith 31 = .ok (.aload_n 0, 1)) ∧ (decode cX4_agreeWith 32 = .ok (.getfield 15, 3)) ∧ (decode cX4_agreeWith 35 = .ok (.iload_n 2, 1)) ∧ (decode cX4_agreeWith 36 = .ok (.baload, 1)) ∧ (decode cX4_agreeWith 37 = .ok (.if_icmp .eq 5, 3)) ∧ (decode cX4_agreeWith 40 = .ok (.iconst 0, 1)) := by decide +kernel
theorem dX4_agreeWith_25 : decode cX4_agreeWith 25 = .ok (.goto 4, 3) := da_1290.1
theorem dX4_agreeWith_28 : decode cX4_agreeWith 28 = .ok (.iconst 0, 1) := da_1290.2.1
theorem dX4_agreeWith_29 : decode cX4_agreeWith 29 = .ok (.istore_n 3, 1) := da_1290.2.2.1
theorem dX4_agreeWith_30 : decode cX4_agreeWith 30 = .ok (.iload_n 3, 1) := da_1290.2.2.2.1
theorem dX4_agreeWith_31 : decode cX4_agreeWith 31 = .ok (.aload_n 0, 1) := da_1290.2.2.2.2.1
theorem dX4_agreeWith_32 : decode cX4_agreeWith 32 = .ok (.getfield 15, 3) := da_1290.2.2.2.2.2.1
theorem dX4_agreeWith_35 : decode cX4_agreeWith 35 = .ok (.iload_n 2, 1) := da_1290.2.2.2.2.2.2.1
theorem dX4_agreeWith_36 : decode cX4_agreeWith 36 = .ok (.baload, 1) := da_1290.2.2.2.2.2.2.2.1
theorem dX4_agreeWith_37 : decode cX4_agreeWith 37 = .ok (.if_icmp .eq 5, 3) := da_1290.2.2.2.2.2.2.2.2.1
theorem dX4_agreeWith_40 : decode cX4_agreeWith 40 = .ok (.iconst 0, 1) := da_1290.2.2.2.2.2.2.2.2.2
theorem da_1300 : (decode cX4_agreeWith 41 = .ok (.ireturn, 1)) ∧ (decode cX4_agreeWith 42 = .ok (.iinc 2 1, 3)) ∧ (decode cX4_agreeWith 45 = .ok (.goto (-43), 3)) ∧ (decode cX4_agreeWith 48 = .ok (.iconst 1, 1)) ∧ (decode cX4_agreeWith 49 = .ok (.ireturn, 1)) ∧ (decode cX5_init 0 = .ok (.aload_n 0, 1)) ∧ (decode cX5_init 1 = .ok (.invokespecial 3, 3)) ∧ (decode cX5_init 4 = .ok (.aload_n 0, 1)) ∧ (decode cX5_init 5 = .ok (.sipush 160, 3)) ∧ (decode cX5_init 8 = .ok (.newarray .byte, 2)) := by decide +kernel
theorem dX4_agreeWith_41 : decode cX4_agreeWith 41 = .ok (.ireturn, 1) := da_1300.1
theorem dX4_agreeWith_42 : decode cX4_agreeWith 42 = .ok (.iinc 2 1, 3) := da_1300.2.1
theorem dX4_agreeWith_45 : decode cX4_agreeWith 45 = .ok (.goto (-43), 3) := da_1300.2.2.1
theorem dX4_agreeWith_48 : decode cX4_agreeWith 48 = .ok (.iconst 1, 1) := da_1300.2.2.2.1
theorem dX4_agreeWith_49 : decode cX4_agreeWith 49 = .ok (.ireturn, 1) := da_1300.2.2.2.2.1
theorem dX5_init_0 : decode cX5_init 0 = .ok (.aload_n 0, 1) := da_1300.2.2.2.2.2.1
theorem dX5_init_1 : decode cX5_init 1 = .ok (.invokespecial 3, 3) := da_1300.2.2.2.2.2.2.1
theorem dX5_init_4 : decode cX5_init 4 = .ok (.aload_n 0, 1) := da_1300.2.2.2.2.2.2.2.1
theorem dX5_init_5 : decode cX5_init 5 = .ok (.sipush 160, 3) := da_1300.2.2.2.2.2.2.2.2.1
theorem dX5_init_8 : decode cX5_init 8 = .ok (.newarray .byte, 2) := da_1300.2.2.2.2.2.2.2.2.2
theorem da_1310 : (decode cX5_init 10 = .ok (.putfield 9, 3)) ∧ (decode cX5_init 13 = .ok (.aload_n 0, 1)) ∧ (decode cX5_init 14 = .ok (.new 15, 3)) ∧ (decode cX5_init 17 = .ok (.dup, 1)) ∧ (decode cX5_init 18 = .ok (.invokespecial 17, 3)) ∧ (decode cX5_init 21 = .ok (.putfield 18, 3)) ∧ (decode cX5_init 24 = .ok (.return_, 1)) ∧ (decode cX5_append 0 = .ok (.aload_n 0, 1)) ∧ (decode cX5_append 1 = .ok (.getfield 22, 3)) ∧ (decode cX5_append 4 = .ok (.sipush 160, 3)) := by decide +kernel
theorem dX5_init_10 : decode cX5_init 10 = .ok (.putfield 9, 3) := da_1310.1
theorem dX5_init_13 : decode cX5_init 13 = .ok (.aload_n 0, 1) := da_1310.2.1
theorem dX5_init_14 : decode cX5_init 14 = .ok (.new 15, 3) := da_1310.2.2.1
theorem dX5_init_17 : decode cX5_init 17 = .ok (.dup, 1) := da_1310.2.2.2.1
theorem dX5_init_18 : decode cX5_init 18 = .ok (.invokespecial 17, 3) := da_1310.2.2.2.2.1
theorem dX5_init_21 : decode cX5_init 21 = .ok (.putfield 18, 3) := da_1310.2.2.2.2.2.1
theorem dX5_init_24 : decode cX5_init 24 = .ok (.return_, 1) := da_1310.2.2.2.2.2.2.1
theorem dX5_append_0 : decode cX5_append 0 = .ok (.aload_n 0, 1) := da_1310.2.2.2.2.2.2.2.1
theorem dX5_append_1 : decode cX5_append 1 = .ok (.getfield 22, 3) := da_1310.2.2.2.2.2.2.2.2.1
theorem dX5_append_4 : decode cX5_append 4 = .ok (.sipush 160, 3) := da_1310.2.2.2.2.2.2.2.2.2
theorem da_1320 : (decode cX5_append 7 = .ok (.if_icmp .lt 5, 3)) ∧ (decode cX5_append 10 = .ok (.iconst 0, 1)) ∧ (decode cX5_append 11 = .ok (.ireturn, 1)) ∧ (decode cX5_append 12 = .ok (.aload_n 0, 1)) ∧ (decode cX5_append 13 = .ok (.getfield 9, 3)) ∧ (decode cX5_append 16 = .ok (.aload_n 0, 1)) ∧ (decode cX5_append 17 = .ok (.getfield 22, 3)) ∧ (decode cX5_append 20 = .ok (.iload_n 1, 1)) ∧ (decode cX5_append 21 = .ok (.i2b, 1)) ∧ (decode cX5_append 22 = .ok (.bastore, 1)) := by decide +kernel
theorem dX5_append_7 : decode cX5_append 7 = .ok (.if_icmp .lt 5, 3) := da_1320.1
theorem dX5_append_10 : decode cX5_append 10 = .ok (.iconst 0, 1) := da_1320.2.1
theorem dX5_append_11 : decode cX5_append 11 = .ok (.ireturn, 1) := da_1320.2.2.1
theorem dX5_append_12 : decode cX5_append 12 = .ok (.aload_n 0, 1) := da_1320.2.2.2.1
theorem dX5_append_13 : decode cX5_append 13 = .ok (.getfield 9, 3) := da_1320.2.2.2.2.1
theorem dX5_append_16 : decode cX5_append 16 = .ok (.aload_n 0, 1) := da_1320.2.2.2.2.2.1
theorem dX5_append_17 : decode cX5_append 17 = .ok (.getfield 22, 3) := da_1320.2.2.2.2.2.2.1
theorem dX5_append_20 : decode cX5_append 20 = .ok (.iload_n 1, 1) := da_1320.2.2.2.2.2.2.2.1
theorem dX5_append_21 : decode cX5_append 21 = .ok (.i2b, 1) := da_1320.2.2.2.2.2.2.2.2.1
theorem dX5_append_22 : decode cX5_append 22 = .ok (.bastore, 1) := da_1320.2.2.2.2.2.2.2.2.2
theorem da_1330 : (decode cX5_append 23 = .ok (.aload_n 0, 1)) ∧ (decode cX5_append 24 = .ok (.dup, 1)) ∧ (decode cX5_append 25 = .ok (.getfield 22, 3)) ∧ (decode cX5_append 28 = .ok (.iconst 1, 1)) ∧ (decode cX5_append 29 = .ok (.iadd, 1)) ∧ (decode cX5_append 30 = .ok (.putfield 22, 3)) ∧ (decode cX5_append 33 = .ok (.iconst 1, 1)) ∧ (decode cX5_append 34 = .ok (.ireturn, 1)) ∧ (decode cX5_tellAll 0 = .ok (.aload_n 0, 1)) ∧ (decode cX5_tellAll 1 = .ok (.getfield 18, 3)) := by decide +kernel
theorem dX5_append_23 : decode cX5_append 23 = .ok (.aload_n 0, 1) := da_1330.1
theorem dX5_append_24 : decode cX5_append 24 = .ok (.dup, 1) := da_1330.2.1
theorem dX5_append_25 : decode cX5_append 25 = .ok (.getfield 22, 3) := da_1330.2.2.1
theorem dX5_append_28 : decode cX5_append 28 = .ok (.iconst 1, 1) := da_1330.2.2.2.1
theorem dX5_append_29 : decode cX5_append 29 = .ok (.iadd, 1) := da_1330.2.2.2.2.1
theorem dX5_append_30 : decode cX5_append 30 = .ok (.putfield 22, 3) := da_1330.2.2.2.2.2.1
theorem dX5_append_33 : decode cX5_append 33 = .ok (.iconst 1, 1) := da_1330.2.2.2.2.2.2.1
theorem dX5_append_34 : decode cX5_append 34 = .ok (.ireturn, 1) := da_1330.2.2.2.2.2.2.2.1
theorem dX5_tellAll_0 : decode cX5_tellAll 0 = .ok (.aload_n 0, 1) := da_1330.2.2.2.2.2.2.2.2.1
theorem dX5_tellAll_1 : decode cX5_tellAll 1 = .ok (.getfield 18, 3) := da_1330.2.2.2.2.2.2.2.2.2
theorem da_1340 : (decode cX5_tellAll 4 = .ok (.invokevirtual 26, 3)) ∧ (decode cX5_tellAll 7 = .ok (.aload_n 0, 1)) ∧ (decode cX5_tellAll 8 = .ok (.iconst 0, 1)) ∧ (decode cX5_tellAll 9 = .ok (.putfield 29, 3)) ∧ (decode cX5_tellAll 12 = .ok (.aload_n 0, 1)) ∧ (decode cX5_tellAll 13 = .ok (.iconst 0, 1)) ∧ (decode cX5_tellAll 14 = .ok (.putfield 32, 3)) ∧ (decode cX5_tellAll 17 = .ok (.aload_n 0, 1)) ∧ (decode cX5_tellAll 18 = .ok (.iconst 0, 1)) ∧ (decode cX5_tellAll 19 = .ok (.putfield 35, 3)) := by decide +kernel
theorem dX5_tellAll_4 : decode cX5_tellAll 4 = .ok (.invokevirtual 26, 3) := da_1340.1
theorem dX5_tellAll_7 : decode cX5_tellAll 7 = .ok (.aload_n 0, 1) := da_1340.2.1
theorem dX5_tellAll_8 : decode cX5_tellAll 8 = .ok (.iconst 0, 1) := da_1340.2.2.1
theorem dX5_tellAll_9 : decode cX5_tellAll 9 = .ok (.putfield 29, 3) := da_1340.2.2.2.1
theorem dX5_tellAll_12 : decode cX5_tellAll 12 = .ok (.aload_n 0, 1) := da_1340.2.2.2.2.1
theorem dX5_tellAll_13 : decode cX5_tellAll 13 = .ok (.iconst 0, 1) := da_1340.2.2.2.2.2.1
theorem dX5_tellAll_14 : decode cX5_tellAll 14 = .ok (.putfield 32, 3) := da_1340.2.2.2.2.2.2.1
theorem dX5_tellAll_17 : decode cX5_tellAll 17 = .ok (.aload_n 0, 1) := da_1340.2.2.2.2.2.2.2.1
theorem dX5_tellAll_18 : decode cX5_tellAll 18 = .ok (.iconst 0, 1) := da_1340.2.2.2.2.2.2.2.2.1
theorem dX5_tellAll_19 : decode cX5_tellAll 19 = .ok (.putfield 35, 3) := da_1340.2.2.2.2.2.2.2.2.2
theorem da_1350 : (decode cX5_tellAll 22 = .ok (.aload_n 0, 1)) ∧ (decode cX5_tellAll 23 = .ok (.iconst 0, 1)) ∧ (decode cX5_tellAll 24 = .ok (.putfield 38, 3)) ∧ (decode cX5_tellAll 27 = .ok (.aload_n 0, 1)) ∧ (decode cX5_tellAll 28 = .ok (.invokevirtual 41, 3)) ∧ (decode cX5_tellAll 31 = .ok (.iconst 0, 1)) ∧ (decode cX5_tellAll 32 = .ok (.istore_n 1, 1)) ∧ (decode cX5_tellAll 33 = .ok (.aload_n 0, 1)) ∧ (decode cX5_tellAll 34 = .ok (.getfield 29, 3)) ∧ (decode cX5_tellAll 37 = .ok (.ifCond .ne 27, 3)) := by decide +kernel
theorem dX5_tellAll_22 : decode cX5_tellAll 22 = .ok (.aload_n 0, 1) := da_1350.1
theorem dX5_tellAll_23 : decode cX5_tellAll 23 = .ok (.iconst 0, 1) := da_1350.2.1
theorem dX5_tellAll_24 : decode cX5_tellAll 24 = .ok (.putfield 38, 3) := da_1350.2.2.1
theorem dX5_tellAll_27 : decode cX5_tellAll 27 = .ok (.aload_n 0, 1) := da_1350.2.2.2.1
theorem dX5_tellAll_28 : decode cX5_tellAll 28 = .ok (.invokevirtual 41, 3) := da_1350.2.2.2.2.1
theorem dX5_tellAll_31 : decode cX5_tellAll 31 = .ok (.iconst 0, 1) := da_1350.2.2.2.2.2.1
theorem dX5_tellAll_32 : decode cX5_tellAll 32 = .ok (.istore_n 1, 1) := da_1350.2.2.2.2.2.2.1
theorem dX5_tellAll_33 : decode cX5_tellAll 33 = .ok (.aload_n 0, 1) := da_1350.2.2.2.2.2.2.2.1
theorem dX5_tellAll_34 : decode cX5_tellAll 34 = .ok (.getfield 29, 3) := da_1350.2.2.2.2.2.2.2.2.1
theorem dX5_tellAll_37 : decode cX5_tellAll 37 = .ok (.ifCond .ne 27, 3) := da_1350.2.2.2.2.2.2.2.2.2
theorem da_1360 : (decode cX5_tellAll 40 = .ok (.aload_n 0, 1)) ∧ (decode cX5_tellAll 41 = .ok (.getfield 44, 3)) ∧ (decode cX5_tellAll 44 = .ok (.ifCond .eq 20, 3)) ∧ (decode cX5_tellAll 47 = .ok (.iload_n 1, 1)) ∧ (decode cX5_tellAll 48 = .ok (.sipush 160, 3)) ∧ (decode cX5_tellAll 51 = .ok (.if_icmp .ge 13, 3)) ∧ (decode cX5_tellAll 54 = .ok (.aload_n 0, 1)) ∧ (decode cX5_tellAll 55 = .ok (.invokevirtual 47, 3)) ∧ (decode cX5_tellAll 58 = .ok (.iinc 1 1, 3)) ∧ (decode cX5_tellAll 61 = .ok (.goto (-28), 3)) := by decide +kernel
theorem dX5_tellAll_40 : decode cX5_tellAll 40 = .ok (.aload_n 0, 1) := da_1360.1
theorem dX5_tellAll_41 : decode cX5_tellAll 41 = .ok (.getfield 44, 3) := da_1360.2.1
theorem dX5_tellAll_44 : decode cX5_tellAll 44 = .ok (.ifCond .eq 20, 3) := da_1360.2.2.1
theorem dX5_tellAll_47 : decode cX5_tellAll 47 = .ok (.iload_n 1, 1) := da_1360.2.2.2.1
theorem dX5_tellAll_48 : decode cX5_tellAll 48 = .ok (.sipush 160, 3) := da_1360.2.2.2.2.1
theorem dX5_tellAll_51 : decode cX5_tellAll 51 = .ok (.if_icmp .ge 13, 3) := da_1360.2.2.2.2.2.1
theorem dX5_tellAll_54 : decode cX5_tellAll 54 = .ok (.aload_n 0, 1) := da_1360.2.2.2.2.2.2.1
theorem dX5_tellAll_55 : decode cX5_tellAll 55 = .ok (.invokevirtual 47, 3) := da_1360.2.2.2.2.2.2.2.1
theorem dX5_tellAll_58 : decode cX5_tellAll 58 = .ok (.iinc 1 1, 3) := da_1360.2.2.2.2.2.2.2.2.1
theorem dX5_tellAll_61 : decode cX5_tellAll 61 = .ok (.goto (-28), 3) := da_1360.2.2.2.2.2.2.2.2.2
theorem da_1370 : (decode cX5_tellAll 64 = .ok (.aload_n 0, 1)) ∧ (decode cX5_tellAll 65 = .ok (.getfield 29, 3)) ∧ (decode cX5_tellAll 68 = .ok (.ifCond .ne 23, 3)) ∧ (decode cX5_tellAll 71 = .ok (.aload_n 0, 1)) ∧ (decode cX5_tellAll 72 = .ok (.getfield 18, 3)) ∧ (decode cX5_tellAll 75 = .ok (.invokevirtual 50, 3)) ∧ (decode cX5_tellAll 78 = .ok (.ifCond .ne 13, 3)) ∧ (decode cX5_tellAll 81 = .ok (.aload_n 0, 1)) ∧ (decode cX5_tellAll 82 = .ok (.bipush 6, 2)) ∧ (decode cX5_tellAll 84 = .ok (.aload_n 0, 1)) := by decide +kernel
theorem dX5_tellAll_64 : decode cX5_tellAll 64 = .ok (.aload_n 0, 1) := da_1370.1
theorem dX5_tellAll_65 : decode cX5_tellAll 65 = .ok (.getfield 29, 3) := da_1370.2.1
theorem dX5_tellAll_68 : decode cX5_tellAll 68 = .ok (.ifCond .ne 23, 3) := da_1370.2.2.1
theorem dX5_tellAll_71 : decode cX5_tellAll 71 = .ok (.aload_n 0, 1) := da_1370.2.2.2.1
theorem dX5_tellAll_72 : decode cX5_tellAll 72 = .ok (.getfield 18, 3) := da_1370.2.2.2.2.1
theorem dX5_tellAll_75 : decode cX5_tellAll 75 = .ok (.invokevirtual 50, 3) := da_1370.2.2.2.2.2.1
theorem dX5_tellAll_78 : decode cX5_tellAll 78 = .ok (.ifCond .ne 13, 3) := da_1370.2.2.2.2.2.2.1
theorem dX5_tellAll_81 : decode cX5_tellAll 81 = .ok (.aload_n 0, 1) := da_1370.2.2.2.2.2.2.2.1
theorem dX5_tellAll_82 : decode cX5_tellAll 82 = .ok (.bipush 6, 2) := da_1370.2.2.2.2.2.2.2.2.1
theorem dX5_tellAll_84 : decode cX5_tellAll 84 = .ok (.aload_n 0, 1) := da_1370.2.2.2.2.2.2.2.2.2
theorem da_1380 : (decode cX5_tellAll 85 = .ok (.getfield 22, 3)) ∧ (decode cX5_tellAll 88 = .ok (.invokevirtual 54, 3)) ∧ (decode cX5_tellAll 91 = .ok (.aload_n 0, 1)) ∧ (decode cX5_tellAll 92 = .ok (.iconst 0, 1)) ∧ (decode cX5_tellAll 93 = .ok (.putfield 22, 3)) ∧ (decode cX5_tellAll 96 = .ok (.aload_n 0, 1)) ∧ (decode cX5_tellAll 97 = .ok (.getfield 29, 3)) ∧ (decode cX5_tellAll 100 = .ok (.ifCond .ne 7, 3)) ∧ (decode cX5_tellAll 103 = .ok (.iload_n 1, 1)) ∧ (decode cX5_tellAll 104 = .ok (.goto 10, 3)) := by decide +kernel
theorem dX5_tellAll_85 : decode cX5_tellAll 85 = .ok (.getfield 22, 3) := da_1380.1
theorem dX5_tellAll_88 : decode cX5_tellAll 88 = .ok (.invokevirtual 54, 3) := da_1380.2.1
theorem dX5_tellAll_91 : decode cX5_tellAll 91 = .ok (.aload_n 0, 1) := da_1380.2.2.1
theorem dX5_tellAll_92 : decode cX5_tellAll 92 = .ok (.iconst 0, 1) := da_1380.2.2.2.1
theorem dX5_tellAll_93 : decode cX5_tellAll 93 = .ok (.putfield 22, 3) := da_1380.2.2.2.2.1
theorem dX5_tellAll_96 : decode cX5_tellAll 96 = .ok (.aload_n 0, 1) := da_1380.2.2.2.2.2.1
theorem dX5_tellAll_97 : decode cX5_tellAll 97 = .ok (.getfield 29, 3) := da_1380.2.2.2.2.2.2.1
theorem dX5_tellAll_100 : decode cX5_tellAll 100 = .ok (.ifCond .ne 7, 3) := da_1380.2.2.2.2.2.2.2.1
theorem dX5_tellAll_103 : decode cX5_tellAll 103 = .ok (.iload_n 1, 1) := da_1380.2.2.2.2.2.2.2.2.1
theorem dX5_tellAll_104 : decode cX5_tellAll 104 = .ok (.goto 10, 3) := da_1380.2.2.2.2.2.2.2.2.2
theorem da_1390 : (decode cX5_tellAll 107 = .ok (.bipush (-10), 2)) ∧ (decode cX5_tellAll 109 = .ok (.aload_n 0, 1)) ∧ (decode cX5_tellAll 110 = .ok (.getfield 32, 3)) ∧ (decode cX5_tellAll 113 = .ok (.isub, 1)) ∧ (decode cX5_tellAll 114 = .ok (.ireturn, 1)) ∧ (decode cX5_tellLine 0 = .ok (.aload_n 0, 1)) ∧ (decode cX5_tellLine 1 = .ok (.invokevirtual 58, 3)) ∧ (decode cX5_tellLine 4 = .ok (.istore_n 1, 1)) ∧ (decode cX5_tellLine 5 = .ok (.iload_n 1, 1)) ∧ (decode cX5_tellLine 6 = .ok (.bipush 7, 2)) := by decide +kernel
theorem dX5_tellAll_107 : decode cX5_tellAll 107 = .ok (.bipush (-10), 2) := da_1390.1
theorem dX5_tellAll_109 : decode cX5_tellAll 109 = .ok (.aload_n 0, 1) := da_1390.2.1
theorem dX5_tellAll_110 : decode cX5_tellAll 110 = .ok (.getfield 32, 3) := da_1390.2.2.1
theorem dX5_tellAll_113 : decode cX5_tellAll 113 = .ok (.isub, 1) := da_1390.2.2.2.1
theorem dX5_tellAll_114 : decode cX5_tellAll 114 = .ok (.ireturn, 1) := da_1390.2.2.2.2.1
theorem dX5_tellLine_0 : decode cX5_tellLine 0 = .ok (.aload_n 0, 1) := da_1390.2.2.2.2.2.1
theorem dX5_tellLine_1 : decode cX5_tellLine 1 = .ok (.invokevirtual 58, 3) := da_1390.2.2.2.2.2.2.1
theorem dX5_tellLine_4 : decode cX5_tellLine 4 = .ok (.istore_n 1, 1) := da_1390.2.2.2.2.2.2.2.1
theorem dX5_tellLine_5 : decode cX5_tellLine 5 = .ok (.iload_n 1, 1) := da_1390.2.2.2.2.2.2.2.2.1
theorem dX5_tellLine_6 : decode cX5_tellLine 6 = .ok (.bipush 7, 2) := da_1390.2.2.2.2.2.2.2.2.2
theorem da_1400 : (decode cX5_tellLine 8 = .ok (.if_icmp .ne 15, 3)) ∧ (decode cX5_tellLine 11 = .ok (.aload_n 0, 1)) ∧ (decode cX5_tellLine 12 = .ok (.iconst 2, 1)) ∧ (decode cX5_tellLine 13 = .ok (.aload_n 0, 1)) ∧ (decode cX5_tellLine 14 = .ok (.getfield 62, 3)) ∧ (decode cX5_tellLine 17 = .ok (.invokevirtual 54, 3)) ∧ (decode cX5_tellLine 20 = .ok (.goto 103, 3)) ∧ (decode cX5_tellLine 23 = .ok (.iload_n 1, 1)) ∧ (decode cX5_tellLine 24 = .ok (.iconst 4, 1)) ∧ (decode cX5_tellLine 25 = .ok (.if_icmp .ge 11, 3)) := by decide +kernel
theorem dX5_tellLine_8 : decode cX5_tellLine 8 = .ok (.if_icmp .ne 15, 3) := da_1400.1
theorem dX5_tellLine_11 : decode cX5_tellLine 11 = .ok (.aload_n 0, 1) := da_1400.2.1
theorem dX5_tellLine_12 : decode cX5_tellLine 12 = .ok (.iconst 2, 1) := da_1400.2.2.1
theorem dX5_tellLine_13 : decode cX5_tellLine 13 = .ok (.aload_n 0, 1) := da_1400.2.2.2.1
theorem dX5_tellLine_14 : decode cX5_tellLine 14 = .ok (.getfield 62, 3) := da_1400.2.2.2.2.1
theorem dX5_tellLine_17 : decode cX5_tellLine 17 = .ok (.invokevirtual 54, 3) := da_1400.2.2.2.2.2.1
theorem dX5_tellLine_20 : decode cX5_tellLine 20 = .ok (.goto 103, 3) := da_1400.2.2.2.2.2.2.1
theorem dX5_tellLine_23 : decode cX5_tellLine 23 = .ok (.iload_n 1, 1) := da_1400.2.2.2.2.2.2.2.1
theorem dX5_tellLine_24 : decode cX5_tellLine 24 = .ok (.iconst 4, 1) := da_1400.2.2.2.2.2.2.2.2.1
theorem dX5_tellLine_25 : decode cX5_tellLine 25 = .ok (.if_icmp .ge 11, 3) := da_1400.2.2.2.2.2.2.2.2.2
theorem da_1410 : (decode cX5_tellLine 28 = .ok (.aload_n 0, 1)) ∧ (decode cX5_tellLine 29 = .ok (.iload_n 1, 1)) ∧ (decode cX5_tellLine 30 = .ok (.invokevirtual 65, 3)) ∧ (decode cX5_tellLine 33 = .ok (.goto 90, 3)) ∧ (decode cX5_tellLine 36 = .ok (.aload_n 0, 1)) ∧ (decode cX5_tellLine 37 = .ok (.getfield 35, 3)) ∧ (decode cX5_tellLine 40 = .ok (.iload_n 1, 1)) ∧ (decode cX5_tellLine 41 = .ok (.ishr, 1)) ∧ (decode cX5_tellLine 42 = .ok (.iconst 1, 1)) ∧ (decode cX5_tellLine 43 = .ok (.iand, 1)) := by decide +kernel
theorem dX5_tellLine_28 : decode cX5_tellLine 28 = .ok (.aload_n 0, 1) := da_1410.1
theorem dX5_tellLine_29 : decode cX5_tellLine 29 = .ok (.iload_n 1, 1) := da_1410.2.1
theorem dX5_tellLine_30 : decode cX5_tellLine 30 = .ok (.invokevirtual 65, 3) := da_1410.2.2.1
theorem dX5_tellLine_33 : decode cX5_tellLine 33 = .ok (.goto 90, 3) := da_1410.2.2.2.1
theorem dX5_tellLine_36 : decode cX5_tellLine 36 = .ok (.aload_n 0, 1) := da_1410.2.2.2.2.1
theorem dX5_tellLine_37 : decode cX5_tellLine 37 = .ok (.getfield 35, 3) := da_1410.2.2.2.2.2.1
theorem dX5_tellLine_40 : decode cX5_tellLine 40 = .ok (.iload_n 1, 1) := da_1410.2.2.2.2.2.2.1
theorem dX5_tellLine_41 : decode cX5_tellLine 41 = .ok (.ishr, 1) := da_1410.2.2.2.2.2.2.2.1
theorem dX5_tellLine_42 : decode cX5_tellLine 42 = .ok (.iconst 1, 1) := da_1410.2.2.2.2.2.2.2.2.1
theorem dX5_tellLine_43 : decode cX5_tellLine 43 = .ok (.iand, 1) := da_1410.2.2.2.2.2.2.2.2.2
theorem da_1420 : (decode cX5_tellLine 44 = .ok (.iconst 1, 1)) ∧ (decode cX5_tellLine 45 = .ok (.if_icmp .ne 15, 3)) ∧ (decode cX5_tellLine 48 = .ok (.aload_n 0, 1)) ∧ (decode cX5_tellLine 49 = .ok (.iconst 4, 1)) ∧ (decode cX5_tellLine 50 = .ok (.aload_n 0, 1)) ∧ (decode cX5_tellLine 51 = .ok (.getfield 62, 3)) ∧ (decode cX5_tellLine 54 = .ok (.invokevirtual 54, 3)) ∧ (decode cX5_tellLine 57 = .ok (.goto 66, 3)) ∧ (decode cX5_tellLine 60 = .ok (.aload_n 0, 1)) ∧ (decode cX5_tellLine 61 = .ok (.dup, 1)) := by decide +kernel
theorem dX5_tellLine_44 : decode cX5_tellLine 44 = .ok (.iconst 1, 1) := da_1420.1
theorem dX5_tellLine_45 : decode cX5_tellLine 45 = .ok (.if_icmp .ne 15, 3) := da_1420.2.1
theorem dX5_tellLine_48 : decode cX5_tellLine 48 = .ok (.aload_n 0, 1) := da_1420.2.2.1
theorem dX5_tellLine_49 : decode cX5_tellLine 49 = .ok (.iconst 4, 1) := da_1420.2.2.2.1
theorem dX5_tellLine_50 : decode cX5_tellLine 50 = .ok (.aload_n 0, 1) := da_1420.2.2.2.2.1
theorem dX5_tellLine_51 : decode cX5_tellLine 51 = .ok (.getfield 62, 3) := da_1420.2.2.2.2.2.1
theorem dX5_tellLine_54 : decode cX5_tellLine 54 = .ok (.invokevirtual 54, 3) := da_1420.2.2.2.2.2.2.1
theorem dX5_tellLine_57 : decode cX5_tellLine 57 = .ok (.goto 66, 3) := da_1420.2.2.2.2.2.2.2.1
theorem dX5_tellLine_60 : decode cX5_tellLine 60 = .ok (.aload_n 0, 1) := da_1420.2.2.2.2.2.2.2.2.1
theorem dX5_tellLine_61 : decode cX5_tellLine 61 = .ok (.dup, 1) := da_1420.2.2.2.2.2.2.2.2.2
theorem da_1430 : (decode cX5_tellLine 62 = .ok (.getfield 35, 3)) ∧ (decode cX5_tellLine 65 = .ok (.iconst 1, 1)) ∧ (decode cX5_tellLine 66 = .ok (.iload_n 1, 1)) ∧ (decode cX5_tellLine 67 = .ok (.ishl, 1)) ∧ (decode cX5_tellLine 68 = .ok (.ior, 1)) ∧ (decode cX5_tellLine 69 = .ok (.putfield 35, 3)) ∧ (decode cX5_tellLine 72 = .ok (.aload_n 0, 1)) ∧ (decode cX5_tellLine 73 = .ok (.invokevirtual 41, 3)) ∧ (decode cX5_tellLine 76 = .ok (.iload_n 1, 1)) ∧ (decode cX5_tellLine 77 = .ok (.iconst 4, 1)) := by decide +kernel
theorem dX5_tellLine_62 : decode cX5_tellLine 62 = .ok (.getfield 35, 3) := da_1430.1
theorem dX5_tellLine_65 : decode cX5_tellLine 65 = .ok (.iconst 1, 1) := da_1430.2.1
theorem dX5_tellLine_66 : decode cX5_tellLine 66 = .ok (.iload_n 1, 1) := da_1430.2.2.1
theorem dX5_tellLine_67 : decode cX5_tellLine 67 = .ok (.ishl, 1) := da_1430.2.2.2.1
theorem dX5_tellLine_68 : decode cX5_tellLine 68 = .ok (.ior, 1) := da_1430.2.2.2.2.1
theorem dX5_tellLine_69 : decode cX5_tellLine 69 = .ok (.putfield 35, 3) := da_1430.2.2.2.2.2.1
theorem dX5_tellLine_72 : decode cX5_tellLine 72 = .ok (.aload_n 0, 1) := da_1430.2.2.2.2.2.2.1
theorem dX5_tellLine_73 : decode cX5_tellLine 73 = .ok (.invokevirtual 41, 3) := da_1430.2.2.2.2.2.2.2.1
theorem dX5_tellLine_76 : decode cX5_tellLine 76 = .ok (.iload_n 1, 1) := da_1430.2.2.2.2.2.2.2.2.1
theorem dX5_tellLine_77 : decode cX5_tellLine 77 = .ok (.iconst 4, 1) := da_1430.2.2.2.2.2.2.2.2.2
theorem da_1440 : (decode cX5_tellLine 78 = .ok (.if_icmp .ne 19, 3)) ∧ (decode cX5_tellLine 81 = .ok (.aload_n 0, 1)) ∧ (decode cX5_tellLine 82 = .ok (.getfield 18, 3)) ∧ (decode cX5_tellLine 85 = .ok (.aload_n 0, 1)) ∧ (decode cX5_tellLine 86 = .ok (.iconst 1, 1)) ∧ (decode cX5_tellLine 87 = .ok (.iconst 5, 1)) ∧ (decode cX5_tellLine 88 = .ok (.invokevirtual 69, 3)) ∧ (decode cX5_tellLine 91 = .ok (.putfield 73, 3)) ∧ (decode cX5_tellLine 94 = .ok (.goto 29, 3)) ∧ (decode cX5_tellLine 97 = .ok (.iload_n 1, 1)) := by decide +kernel
theorem dX5_tellLine_78 : decode cX5_tellLine 78 = .ok (.if_icmp .ne 19, 3) := da_1440.1
theorem dX5_tellLine_81 : decode cX5_tellLine 81 = .ok (.aload_n 0, 1) := da_1440.2.1
theorem dX5_tellLine_82 : decode cX5_tellLine 82 = .ok (.getfield 18, 3) := da_1440.2.2.1
theorem dX5_tellLine_85 : decode cX5_tellLine 85 = .ok (.aload_n 0, 1) := da_1440.2.2.2.1
theorem dX5_tellLine_86 : decode cX5_tellLine 86 = .ok (.iconst 1, 1) := da_1440.2.2.2.2.1
theorem dX5_tellLine_87 : decode cX5_tellLine 87 = .ok (.iconst 5, 1) := da_1440.2.2.2.2.2.1
theorem dX5_tellLine_88 : decode cX5_tellLine 88 = .ok (.invokevirtual 69, 3) := da_1440.2.2.2.2.2.2.1
theorem dX5_tellLine_91 : decode cX5_tellLine 91 = .ok (.putfield 73, 3) := da_1440.2.2.2.2.2.2.2.1
theorem dX5_tellLine_94 : decode cX5_tellLine 94 = .ok (.goto 29, 3) := da_1440.2.2.2.2.2.2.2.2.1
theorem dX5_tellLine_97 : decode cX5_tellLine 97 = .ok (.iload_n 1, 1) := da_1440.2.2.2.2.2.2.2.2.2
theorem da_1450 : (decode cX5_tellLine 98 = .ok (.iconst 5, 1)) ∧ (decode cX5_tellLine 99 = .ok (.if_icmp .ne 20, 3)) ∧ (decode cX5_tellLine 102 = .ok (.aload_n 0, 1)) ∧ (decode cX5_tellLine 103 = .ok (.getfield 18, 3)) ∧ (decode cX5_tellLine 106 = .ok (.aload_n 0, 1)) ∧ (decode cX5_tellLine 107 = .ok (.iconst 1, 1)) ∧ (decode cX5_tellLine 108 = .ok (.bipush 9, 2)) ∧ (decode cX5_tellLine 110 = .ok (.invokevirtual 69, 3)) ∧ (decode cX5_tellLine 113 = .ok (.putfield 76, 3)) ∧ (decode cX5_tellLine 116 = .ok (.goto 7, 3)) := by decide +kernel
theorem dX5_tellLine_98 : decode cX5_tellLine 98 = .ok (.iconst 5, 1) := da_1450.1
theorem dX5_tellLine_99 : decode cX5_tellLine 99 = .ok (.if_icmp .ne 20, 3) := da_1450.2.1
theorem dX5_tellLine_102 : decode cX5_tellLine 102 = .ok (.aload_n 0, 1) := da_1450.2.2.1
theorem dX5_tellLine_103 : decode cX5_tellLine 103 = .ok (.getfield 18, 3) := da_1450.2.2.2.1
theorem dX5_tellLine_106 : decode cX5_tellLine 106 = .ok (.aload_n 0, 1) := da_1450.2.2.2.2.1
theorem dX5_tellLine_107 : decode cX5_tellLine 107 = .ok (.iconst 1, 1) := da_1450.2.2.2.2.2.1
theorem dX5_tellLine_108 : decode cX5_tellLine 108 = .ok (.bipush 9, 2) := da_1450.2.2.2.2.2.2.1
theorem dX5_tellLine_110 : decode cX5_tellLine 110 = .ok (.invokevirtual 69, 3) := da_1450.2.2.2.2.2.2.2.1
theorem dX5_tellLine_113 : decode cX5_tellLine 113 = .ok (.putfield 76, 3) := da_1450.2.2.2.2.2.2.2.2.1
theorem dX5_tellLine_116 : decode cX5_tellLine 116 = .ok (.goto 7, 3) := da_1450.2.2.2.2.2.2.2.2.2
theorem da_1460 : (decode cX5_tellLine 119 = .ok (.aload_n 0, 1)) ∧ (decode cX5_tellLine 120 = .ok (.invokevirtual 79, 3)) ∧ (decode cX5_tellLine 123 = .ok (.aload_n 0, 1)) ∧ (decode cX5_tellLine 124 = .ok (.invokevirtual 82, 3)) ∧ (decode cX5_tellLine 127 = .ok (.return_, 1)) ∧ (decode cX5_tellOne 0 = .ok (.aload_n 0, 1)) ∧ (decode cX5_tellOne 1 = .ok (.getfield 18, 3)) ∧ (decode cX5_tellOne 4 = .ok (.getfield 85, 3)) ∧ (decode cX5_tellOne 7 = .ok (.iconst 5, 1)) ∧ (decode cX5_tellOne 8 = .ok (.if_icmp .lt 13, 3)) := by decide +kernel
theorem dX5_tellLine_119 : decode cX5_tellLine 119 = .ok (.aload_n 0, 1) := da_1460.1
theorem dX5_tellLine_120 : decode cX5_tellLine 120 = .ok (.invokevirtual 79, 3) := da_1460.2.1
theorem dX5_tellLine_123 : decode cX5_tellLine 123 = .ok (.aload_n 0, 1) := da_1460.2.2.1
theorem dX5_tellLine_124 : decode cX5_tellLine 124 = .ok (.invokevirtual 82, 3) := da_1460.2.2.2.1
theorem dX5_tellLine_127 : decode cX5_tellLine 127 = .ok (.return_, 1) := da_1460.2.2.2.2.1
theorem dX5_tellOne_0 : decode cX5_tellOne 0 = .ok (.aload_n 0, 1) := da_1460.2.2.2.2.2.1
theorem dX5_tellOne_1 : decode cX5_tellOne 1 = .ok (.getfield 18, 3) := da_1460.2.2.2.2.2.2.1
theorem dX5_tellOne_4 : decode cX5_tellOne 4 = .ok (.getfield 85, 3) := da_1460.2.2.2.2.2.2.2.1
theorem dX5_tellOne_7 : decode cX5_tellOne 7 = .ok (.iconst 5, 1) := da_1460.2.2.2.2.2.2.2.2.1
theorem dX5_tellOne_8 : decode cX5_tellOne 8 = .ok (.if_icmp .lt 13, 3) := da_1460.2.2.2.2.2.2.2.2.2
theorem da_1470 : (decode cX5_tellOne 11 = .ok (.aload_n 0, 1)) ∧ (decode cX5_tellOne 12 = .ok (.iconst 5, 1)) ∧ (decode cX5_tellOne 13 = .ok (.aload_n 0, 1)) ∧ (decode cX5_tellOne 14 = .ok (.getfield 62, 3)) ∧ (decode cX5_tellOne 17 = .ok (.invokevirtual 54, 3)) ∧ (decode cX5_tellOne 20 = .ok (.return_, 1)) ∧ (decode cX5_tellOne 21 = .ok (.aload_n 0, 1)) ∧ (decode cX5_tellOne 22 = .ok (.invokevirtual 41, 3)) ∧ (decode cX5_tellOne 25 = .ok (.aload_n 0, 1)) ∧ (decode cX5_tellOne 26 = .ok (.getfield 18, 3)) := by decide +kernel
theorem dX5_tellOne_11 : decode cX5_tellOne 11 = .ok (.aload_n 0, 1) := da_1470.1
theorem dX5_tellOne_12 : decode cX5_tellOne 12 = .ok (.iconst 5, 1) := da_1470.2.1
theorem dX5_tellOne_13 : decode cX5_tellOne 13 = .ok (.aload_n 0, 1) := da_1470.2.2.1
theorem dX5_tellOne_14 : decode cX5_tellOne 14 = .ok (.getfield 62, 3) := da_1470.2.2.2.1
theorem dX5_tellOne_17 : decode cX5_tellOne 17 = .ok (.invokevirtual 54, 3) := da_1470.2.2.2.2.1
theorem dX5_tellOne_20 : decode cX5_tellOne 20 = .ok (.return_, 1) := da_1470.2.2.2.2.2.1
theorem dX5_tellOne_21 : decode cX5_tellOne 21 = .ok (.aload_n 0, 1) := da_1470.2.2.2.2.2.2.1
theorem dX5_tellOne_22 : decode cX5_tellOne 22 = .ok (.invokevirtual 41, 3) := da_1470.2.2.2.2.2.2.2.1
theorem dX5_tellOne_25 : decode cX5_tellOne 25 = .ok (.aload_n 0, 1) := da_1470.2.2.2.2.2.2.2.2.1
theorem dX5_tellOne_26 : decode cX5_tellOne 26 = .ok (.getfield 18, 3) := da_1470.2.2.2.2.2.2.2.2.2
theorem da_1480 : (decode cX5_tellOne 29 = .ok (.iload_n 1, 1)) ∧ (decode cX5_tellOne 30 = .ok (.aload_n 0, 1)) ∧ (decode cX5_tellOne 31 = .ok (.getfield 44, 3)) ∧ (decode cX5_tellOne 34 = .ok (.iconst 2, 1)) ∧ (decode cX5_tellOne 35 = .ok (.if_icmp .ne 13, 3)) ∧ (decode cX5_tellOne 38 = .ok (.aload_n 0, 1)) ∧ (decode cX5_tellOne 39 = .ok (.iconst 0, 1)) ∧ (decode cX5_tellOne 40 = .ok (.bipush 40, 2)) ∧ (decode cX5_tellOne 42 = .ok (.invokevirtual 69, 3)) ∧ (decode cX5_tellOne 45 = .ok (.goto 4, 3)) := by decide +kernel
theorem dX5_tellOne_29 : decode cX5_tellOne 29 = .ok (.iload_n 1, 1) := da_1480.1
theorem dX5_tellOne_30 : decode cX5_tellOne 30 = .ok (.aload_n 0, 1) := da_1480.2.1
theorem dX5_tellOne_31 : decode cX5_tellOne 31 = .ok (.getfield 44, 3) := da_1480.2.2.1
theorem dX5_tellOne_34 : decode cX5_tellOne 34 = .ok (.iconst 2, 1) := da_1480.2.2.2.1
theorem dX5_tellOne_35 : decode cX5_tellOne 35 = .ok (.if_icmp .ne 13, 3) := da_1480.2.2.2.2.1
theorem dX5_tellOne_38 : decode cX5_tellOne 38 = .ok (.aload_n 0, 1) := da_1480.2.2.2.2.2.1
theorem dX5_tellOne_39 : decode cX5_tellOne 39 = .ok (.iconst 0, 1) := da_1480.2.2.2.2.2.2.1
theorem dX5_tellOne_40 : decode cX5_tellOne 40 = .ok (.bipush 40, 2) := da_1480.2.2.2.2.2.2.2.1
theorem dX5_tellOne_42 : decode cX5_tellOne 42 = .ok (.invokevirtual 69, 3) := da_1480.2.2.2.2.2.2.2.2.1
theorem dX5_tellOne_45 : decode cX5_tellOne 45 = .ok (.goto 4, 3) := da_1480.2.2.2.2.2.2.2.2.2
theorem da_1490 : (decode cX5_tellOne 48 = .ok (.iconst 0, 1)) ∧ (decode cX5_tellOne 49 = .ok (.invokevirtual 88, 3)) ∧ (decode cX5_tellOne 52 = .ok (.return_, 1)) ∧ (decode cX5_tellPlan 0 = .ok (.iconst 0, 1)) ∧ (decode cX5_tellPlan 1 = .ok (.istore_n 1, 1)) ∧ (decode cX5_tellPlan 2 = .ok (.iload_n 1, 1)) ∧ (decode cX5_tellPlan 3 = .ok (.bipush 8, 2)) ∧ (decode cX5_tellPlan 5 = .ok (.if_icmp .gt 57, 3)) ∧ (decode cX5_tellPlan 8 = .ok (.aload_n 0, 1)) ∧ (decode cX5_tellPlan 9 = .ok (.getfield 29, 3)) := by decide +kernel
theorem dX5_tellOne_48 : decode cX5_tellOne 48 = .ok (.iconst 0, 1) := da_1490.1
theorem dX5_tellOne_49 : decode cX5_tellOne 49 = .ok (.invokevirtual 88, 3) := da_1490.2.1
theorem dX5_tellOne_52 : decode cX5_tellOne 52 = .ok (.return_, 1) := da_1490.2.2.1
theorem dX5_tellPlan_0 : decode cX5_tellPlan 0 = .ok (.iconst 0, 1) := da_1490.2.2.2.1
theorem dX5_tellPlan_1 : decode cX5_tellPlan 1 = .ok (.istore_n 1, 1) := da_1490.2.2.2.2.1
theorem dX5_tellPlan_2 : decode cX5_tellPlan 2 = .ok (.iload_n 1, 1) := da_1490.2.2.2.2.2.1
theorem dX5_tellPlan_3 : decode cX5_tellPlan 3 = .ok (.bipush 8, 2) := da_1490.2.2.2.2.2.2.1
theorem dX5_tellPlan_5 : decode cX5_tellPlan 5 = .ok (.if_icmp .gt 57, 3) := da_1490.2.2.2.2.2.2.2.1
theorem dX5_tellPlan_8 : decode cX5_tellPlan 8 = .ok (.aload_n 0, 1) := da_1490.2.2.2.2.2.2.2.2.1
theorem dX5_tellPlan_9 : decode cX5_tellPlan 9 = .ok (.getfield 29, 3) := da_1490.2.2.2.2.2.2.2.2.2
theorem da_1500 : (decode cX5_tellPlan 12 = .ok (.ifCond .ne 50, 3)) ∧ (decode cX5_tellPlan 15 = .ok (.aload_n 0, 1)) ∧ (decode cX5_tellPlan 16 = .ok (.getfield 44, 3)) ∧ (decode cX5_tellPlan 19 = .ok (.iconst 2, 1)) ∧ (decode cX5_tellPlan 20 = .ok (.if_icmp .ne 42, 3)) ∧ (decode cX5_tellPlan 23 = .ok (.iload_n 1, 1)) ∧ (decode cX5_tellPlan 24 = .ok (.bipush 8, 2)) ∧ (decode cX5_tellPlan 26 = .ok (.if_icmp .ne 15, 3)) ∧ (decode cX5_tellPlan 29 = .ok (.aload_n 0, 1)) ∧ (decode cX5_tellPlan 30 = .ok (.iconst 5, 1)) := by decide +kernel
theorem dX5_tellPlan_12 : decode cX5_tellPlan 12 = .ok (.ifCond .ne 50, 3) := da_1500.1
theorem dX5_tellPlan_15 : decode cX5_tellPlan 15 = .ok (.aload_n 0, 1) := da_1500.2.1
theorem dX5_tellPlan_16 : decode cX5_tellPlan 16 = .ok (.getfield 44, 3) := da_1500.2.2.1
theorem dX5_tellPlan_19 : decode cX5_tellPlan 19 = .ok (.iconst 2, 1) := da_1500.2.2.2.1
theorem dX5_tellPlan_20 : decode cX5_tellPlan 20 = .ok (.if_icmp .ne 42, 3) := da_1500.2.2.2.2.1
theorem dX5_tellPlan_23 : decode cX5_tellPlan 23 = .ok (.iload_n 1, 1) := da_1500.2.2.2.2.2.1
theorem dX5_tellPlan_24 : decode cX5_tellPlan 24 = .ok (.bipush 8, 2) := da_1500.2.2.2.2.2.2.1
theorem dX5_tellPlan_26 : decode cX5_tellPlan 26 = .ok (.if_icmp .ne 15, 3) := da_1500.2.2.2.2.2.2.2.1
theorem dX5_tellPlan_29 : decode cX5_tellPlan 29 = .ok (.aload_n 0, 1) := da_1500.2.2.2.2.2.2.2.2.1
theorem dX5_tellPlan_30 : decode cX5_tellPlan 30 = .ok (.iconst 5, 1) := da_1500.2.2.2.2.2.2.2.2.2
theorem da_1510 : (decode cX5_tellPlan 31 = .ok (.aload_n 0, 1)) ∧ (decode cX5_tellPlan 32 = .ok (.getfield 62, 3)) ∧ (decode cX5_tellPlan 35 = .ok (.invokevirtual 54, 3)) ∧ (decode cX5_tellPlan 38 = .ok (.goto 18, 3)) ∧ (decode cX5_tellPlan 41 = .ok (.aload_n 0, 1)) ∧ (decode cX5_tellPlan 42 = .ok (.getfield 18, 3)) ∧ (decode cX5_tellPlan 45 = .ok (.aload_n 0, 1)) ∧ (decode cX5_tellPlan 46 = .ok (.iconst 0, 1)) ∧ (decode cX5_tellPlan 47 = .ok (.bipush 6, 2)) ∧ (decode cX5_tellPlan 49 = .ok (.invokevirtual 69, 3)) := by decide +kernel
theorem dX5_tellPlan_31 : decode cX5_tellPlan 31 = .ok (.aload_n 0, 1) := da_1510.1
theorem dX5_tellPlan_32 : decode cX5_tellPlan 32 = .ok (.getfield 62, 3) := da_1510.2.1
theorem dX5_tellPlan_35 : decode cX5_tellPlan 35 = .ok (.invokevirtual 54, 3) := da_1510.2.2.1
theorem dX5_tellPlan_38 : decode cX5_tellPlan 38 = .ok (.goto 18, 3) := da_1510.2.2.2.1
theorem dX5_tellPlan_41 : decode cX5_tellPlan 41 = .ok (.aload_n 0, 1) := da_1510.2.2.2.2.1
theorem dX5_tellPlan_42 : decode cX5_tellPlan 42 = .ok (.getfield 18, 3) := da_1510.2.2.2.2.2.1
theorem dX5_tellPlan_45 : decode cX5_tellPlan 45 = .ok (.aload_n 0, 1) := da_1510.2.2.2.2.2.2.1
theorem dX5_tellPlan_46 : decode cX5_tellPlan 46 = .ok (.iconst 0, 1) := da_1510.2.2.2.2.2.2.2.1
theorem dX5_tellPlan_47 : decode cX5_tellPlan 47 = .ok (.bipush 6, 2) := da_1510.2.2.2.2.2.2.2.2.1
theorem dX5_tellPlan_49 : decode cX5_tellPlan 49 = .ok (.invokevirtual 69, 3) := da_1510.2.2.2.2.2.2.2.2.2
theorem da_1520 : (decode cX5_tellPlan 52 = .ok (.invokevirtual 91, 3)) ∧ (decode cX5_tellPlan 55 = .ok (.pop, 1)) ∧ (decode cX5_tellPlan 56 = .ok (.iinc 1 1, 3)) ∧ (decode cX5_tellPlan 59 = .ok (.goto (-57), 3)) ∧ (decode cX5_tellPlan 62 = .ok (.return_, 1)) ∧ (decode cX5_takeNumber 0 = .ok (.aload_n 0, 1)) ∧ (decode cX5_takeNumber 1 = .ok (.getfield 29, 3)) ∧ (decode cX5_takeNumber 4 = .ok (.ifCond .eq 5, 3)) ∧ (decode cX5_takeNumber 7 = .ok (.iload_n 1, 1)) ∧ (decode cX5_takeNumber 8 = .ok (.ireturn, 1)) := by decide +kernel
theorem dX5_tellPlan_52 : decode cX5_tellPlan 52 = .ok (.invokevirtual 91, 3) := da_1520.1
theorem dX5_tellPlan_55 : decode cX5_tellPlan 55 = .ok (.pop, 1) := da_1520.2.1
theorem dX5_tellPlan_56 : decode cX5_tellPlan 56 = .ok (.iinc 1 1, 3) := da_1520.2.2.1
theorem dX5_tellPlan_59 : decode cX5_tellPlan 59 = .ok (.goto (-57), 3) := da_1520.2.2.2.1
theorem dX5_tellPlan_62 : decode cX5_tellPlan 62 = .ok (.return_, 1) := da_1520.2.2.2.2.1
theorem dX5_takeNumber_0 : decode cX5_takeNumber 0 = .ok (.aload_n 0, 1) := da_1520.2.2.2.2.2.1
theorem dX5_takeNumber_1 : decode cX5_takeNumber 1 = .ok (.getfield 29, 3) := da_1520.2.2.2.2.2.2.1
theorem dX5_takeNumber_4 : decode cX5_takeNumber 4 = .ok (.ifCond .eq 5, 3) := da_1520.2.2.2.2.2.2.2.1
theorem dX5_takeNumber_7 : decode cX5_takeNumber 7 = .ok (.iload_n 1, 1) := da_1520.2.2.2.2.2.2.2.2.1
theorem dX5_takeNumber_8 : decode cX5_takeNumber 8 = .ok (.ireturn, 1) := da_1520.2.2.2.2.2.2.2.2.2
theorem da_1530 : (decode cX5_takeNumber 9 = .ok (.aload_n 0, 1)) ∧ (decode cX5_takeNumber 10 = .ok (.getfield 44, 3)) ∧ (decode cX5_takeNumber 13 = .ok (.iconst 2, 1)) ∧ (decode cX5_takeNumber 14 = .ok (.if_icmp .eq 14, 3)) ∧ (decode cX5_takeNumber 17 = .ok (.aload_n 0, 1)) ∧ (decode cX5_takeNumber 18 = .ok (.iconst 2, 1)) ∧ (decode cX5_takeNumber 19 = .ok (.aload_n 0, 1)) ∧ (decode cX5_takeNumber 20 = .ok (.getfield 62, 3)) ∧ (decode cX5_takeNumber 23 = .ok (.invokevirtual 54, 3)) ∧ (decode cX5_takeNumber 26 = .ok (.iload_n 1, 1)) := by decide +kernel
theorem dX5_takeNumber_9 : decode cX5_takeNumber 9 = .ok (.aload_n 0, 1) := da_1530.1
theorem dX5_takeNumber_10 : decode cX5_takeNumber 10 = .ok (.getfield 44, 3) := da_1530.2.1
theorem dX5_takeNumber_13 : decode cX5_takeNumber 13 = .ok (.iconst 2, 1) := da_1530.2.2.1
theorem dX5_takeNumber_14 : decode cX5_takeNumber 14 = .ok (.if_icmp .eq 14, 3) := da_1530.2.2.2.1
theorem dX5_takeNumber_17 : decode cX5_takeNumber 17 = .ok (.aload_n 0, 1) := da_1530.2.2.2.2.1
theorem dX5_takeNumber_18 : decode cX5_takeNumber 18 = .ok (.iconst 2, 1) := da_1530.2.2.2.2.2.1
theorem dX5_takeNumber_19 : decode cX5_takeNumber 19 = .ok (.aload_n 0, 1) := da_1530.2.2.2.2.2.2.1
theorem dX5_takeNumber_20 : decode cX5_takeNumber 20 = .ok (.getfield 62, 3) := da_1530.2.2.2.2.2.2.2.1
theorem dX5_takeNumber_23 : decode cX5_takeNumber 23 = .ok (.invokevirtual 54, 3) := da_1530.2.2.2.2.2.2.2.2.1
theorem dX5_takeNumber_26 : decode cX5_takeNumber 26 = .ok (.iload_n 1, 1) := da_1530.2.2.2.2.2.2.2.2.2
theorem da_1540 : (decode cX5_takeNumber 27 = .ok (.ireturn, 1)) ∧ (decode cX5_takeNumber 28 = .ok (.aload_n 0, 1)) ∧ (decode cX5_takeNumber 29 = .ok (.getfield 95, 3)) ∧ (decode cX5_takeNumber 32 = .ok (.iload_n 1, 1)) ∧ (decode cX5_takeNumber 33 = .ok (.if_icmp .lt 11, 3)) ∧ (decode cX5_takeNumber 36 = .ok (.aload_n 0, 1)) ∧ (decode cX5_takeNumber 37 = .ok (.getfield 95, 3)) ∧ (decode cX5_takeNumber 40 = .ok (.iload_n 2, 1)) ∧ (decode cX5_takeNumber 41 = .ok (.if_icmp .le 14, 3)) ∧ (decode cX5_takeNumber 44 = .ok (.aload_n 0, 1)) := by decide +kernel
theorem dX5_takeNumber_27 : decode cX5_takeNumber 27 = .ok (.ireturn, 1) := da_1540.1
theorem dX5_takeNumber_28 : decode cX5_takeNumber 28 = .ok (.aload_n 0, 1) := da_1540.2.1
theorem dX5_takeNumber_29 : decode cX5_takeNumber 29 = .ok (.getfield 95, 3) := da_1540.2.2.1
theorem dX5_takeNumber_32 : decode cX5_takeNumber 32 = .ok (.iload_n 1, 1) := da_1540.2.2.2.1
theorem dX5_takeNumber_33 : decode cX5_takeNumber 33 = .ok (.if_icmp .lt 11, 3) := da_1540.2.2.2.2.1
theorem dX5_takeNumber_36 : decode cX5_takeNumber 36 = .ok (.aload_n 0, 1) := da_1540.2.2.2.2.2.1
theorem dX5_takeNumber_37 : decode cX5_takeNumber 37 = .ok (.getfield 95, 3) := da_1540.2.2.2.2.2.2.1
theorem dX5_takeNumber_40 : decode cX5_takeNumber 40 = .ok (.iload_n 2, 1) := da_1540.2.2.2.2.2.2.2.1
theorem dX5_takeNumber_41 : decode cX5_takeNumber 41 = .ok (.if_icmp .le 14, 3) := da_1540.2.2.2.2.2.2.2.2.1
theorem dX5_takeNumber_44 : decode cX5_takeNumber 44 = .ok (.aload_n 0, 1) := da_1540.2.2.2.2.2.2.2.2.2
theorem da_1550 : (decode cX5_takeNumber 45 = .ok (.iconst 3, 1)) ∧ (decode cX5_takeNumber 46 = .ok (.aload_n 0, 1)) ∧ (decode cX5_takeNumber 47 = .ok (.getfield 62, 3)) ∧ (decode cX5_takeNumber 50 = .ok (.invokevirtual 54, 3)) ∧ (decode cX5_takeNumber 53 = .ok (.iload_n 1, 1)) ∧ (decode cX5_takeNumber 54 = .ok (.ireturn, 1)) ∧ (decode cX5_takeNumber 55 = .ok (.aload_n 0, 1)) ∧ (decode cX5_takeNumber 56 = .ok (.getfield 95, 3)) ∧ (decode cX5_takeNumber 59 = .ok (.istore_n 3, 1)) ∧ (decode cX5_takeNumber 60 = .ok (.aload_n 0, 1)) := by decide +kernel
theorem dX5_takeNumber_45 : decode cX5_takeNumber 45 = .ok (.iconst 3, 1) := da_1550.1
theorem dX5_takeNumber_46 : decode cX5_takeNumber 46 = .ok (.aload_n 0, 1) := da_1550.2.1
theorem dX5_takeNumber_47 : decode cX5_takeNumber 47 = .ok (.getfield 62, 3) := da_1550.2.2.1
theorem dX5_takeNumber_50 : decode cX5_takeNumber 50 = .ok (.invokevirtual 54, 3) := da_1550.2.2.2.1
theorem dX5_takeNumber_53 : decode cX5_takeNumber 53 = .ok (.iload_n 1, 1) := da_1550.2.2.2.2.1
theorem dX5_takeNumber_54 : decode cX5_takeNumber 54 = .ok (.ireturn, 1) := da_1550.2.2.2.2.2.1
theorem dX5_takeNumber_55 : decode cX5_takeNumber 55 = .ok (.aload_n 0, 1) := da_1550.2.2.2.2.2.2.1
theorem dX5_takeNumber_56 : decode cX5_takeNumber 56 = .ok (.getfield 95, 3) := da_1550.2.2.2.2.2.2.2.1
theorem dX5_takeNumber_59 : decode cX5_takeNumber 59 = .ok (.istore_n 3, 1) := da_1550.2.2.2.2.2.2.2.2.1
theorem dX5_takeNumber_60 : decode cX5_takeNumber 60 = .ok (.aload_n 0, 1) := da_1550.2.2.2.2.2.2.2.2.2
theorem da_1560 : (decode cX5_takeNumber 61 = .ok (.invokevirtual 41, 3)) ∧ (decode cX5_takeNumber 64 = .ok (.iload_n 3, 1)) ∧ (decode cX5_takeNumber 65 = .ok (.ireturn, 1)) ∧ (decode cX5_takeSemicolon 0 = .ok (.aload_n 0, 1)) ∧ (decode cX5_takeSemicolon 1 = .ok (.getfield 29, 3)) ∧ (decode cX5_takeSemicolon 4 = .ok (.ifCond .eq 4, 3)) ∧ (decode cX5_takeSemicolon 7 = .ok (.return_, 1)) ∧ (decode cX5_takeSemicolon 8 = .ok (.aload_n 0, 1)) ∧ (decode cX5_takeSemicolon 9 = .ok (.getfield 44, 3)) ∧ (decode cX5_takeSemicolon 12 = .ok (.iconst 3, 1)) := by decide +kernel
theorem dX5_takeNumber_61 : decode cX5_takeNumber 61 = .ok (.invokevirtual 41, 3) := da_1560.1
theorem dX5_takeNumber_64 : decode cX5_takeNumber 64 = .ok (.iload_n 3, 1) := da_1560.2.1
theorem dX5_takeNumber_65 : decode cX5_takeNumber 65 = .ok (.ireturn, 1) := da_1560.2.2.1
theorem dX5_takeSemicolon_0 : decode cX5_takeSemicolon 0 = .ok (.aload_n 0, 1) := da_1560.2.2.2.1
theorem dX5_takeSemicolon_1 : decode cX5_takeSemicolon 1 = .ok (.getfield 29, 3) := da_1560.2.2.2.2.1
theorem dX5_takeSemicolon_4 : decode cX5_takeSemicolon 4 = .ok (.ifCond .eq 4, 3) := da_1560.2.2.2.2.2.1
theorem dX5_takeSemicolon_7 : decode cX5_takeSemicolon 7 = .ok (.return_, 1) := da_1560.2.2.2.2.2.2.1
theorem dX5_takeSemicolon_8 : decode cX5_takeSemicolon 8 = .ok (.aload_n 0, 1) := da_1560.2.2.2.2.2.2.2.1
theorem dX5_takeSemicolon_9 : decode cX5_takeSemicolon 9 = .ok (.getfield 44, 3) := da_1560.2.2.2.2.2.2.2.2.1
theorem dX5_takeSemicolon_12 : decode cX5_takeSemicolon 12 = .ok (.iconst 3, 1) := da_1560.2.2.2.2.2.2.2.2.2
theorem da_1570 : (decode cX5_takeSemicolon 13 = .ok (.if_icmp .eq 13, 3)) ∧ (decode cX5_takeSemicolon 16 = .ok (.aload_n 0, 1)) ∧ (decode cX5_takeSemicolon 17 = .ok (.iconst 2, 1)) ∧ (decode cX5_takeSemicolon 18 = .ok (.aload_n 0, 1)) ∧ (decode cX5_takeSemicolon 19 = .ok (.getfield 62, 3)) ∧ (decode cX5_takeSemicolon 22 = .ok (.invokevirtual 54, 3)) ∧ (decode cX5_takeSemicolon 25 = .ok (.return_, 1)) ∧ (decode cX5_takeSemicolon 26 = .ok (.aload_n 0, 1)) ∧ (decode cX5_takeSemicolon 27 = .ok (.invokevirtual 41, 3)) ∧ (decode cX5_takeSemicolon 30 = .ok (.return_, 1)) := by decide +kernel
theorem dX5_takeSemicolon_13 : decode cX5_takeSemicolon 13 = .ok (.if_icmp .eq 13, 3) := da_1570.1
theorem dX5_takeSemicolon_16 : decode cX5_takeSemicolon 16 = .ok (.aload_n 0, 1) := da_1570.2.1
theorem dX5_takeSemicolon_17 : decode cX5_takeSemicolon 17 = .ok (.iconst 2, 1) := da_1570.2.2.1
theorem dX5_takeSemicolon_18 : decode cX5_takeSemicolon 18 = .ok (.aload_n 0, 1) := da_1570.2.2.2.1
theorem dX5_takeSemicolon_19 : decode cX5_takeSemicolon 19 = .ok (.getfield 62, 3) := da_1570.2.2.2.2.1
theorem dX5_takeSemicolon_22 : decode cX5_takeSemicolon 22 = .ok (.invokevirtual 54, 3) := da_1570.2.2.2.2.2.1
theorem dX5_takeSemicolon_25 : decode cX5_takeSemicolon 25 = .ok (.return_, 1) := da_1570.2.2.2.2.2.2.1
theorem dX5_takeSemicolon_26 : decode cX5_takeSemicolon 26 = .ok (.aload_n 0, 1) := da_1570.2.2.2.2.2.2.2.1
theorem dX5_takeSemicolon_27 : decode cX5_takeSemicolon 27 = .ok (.invokevirtual 41, 3) := da_1570.2.2.2.2.2.2.2.2.1
theorem dX5_takeSemicolon_30 : decode cX5_takeSemicolon 30 = .ok (.return_, 1) := da_1570.2.2.2.2.2.2.2.2.2
theorem da_1580 : (decode cX5_fail 0 = .ok (.aload_n 0, 1)) ∧ (decode cX5_fail 1 = .ok (.getfield 29, 3)) ∧ (decode cX5_fail 4 = .ok (.ifCond .ne 13, 3)) ∧ (decode cX5_fail 7 = .ok (.aload_n 0, 1)) ∧ (decode cX5_fail 8 = .ok (.iload_n 1, 1)) ∧ (decode cX5_fail 9 = .ok (.putfield 29, 3)) ∧ (decode cX5_fail 12 = .ok (.aload_n 0, 1)) ∧ (decode cX5_fail 13 = .ok (.iload_n 2, 1)) ∧ (decode cX5_fail 14 = .ok (.putfield 32, 3)) ∧ (decode cX5_fail 17 = .ok (.return_, 1)) := by decide +kernel
theorem dX5_fail_0 : decode cX5_fail 0 = .ok (.aload_n 0, 1) := da_1580.1
theorem dX5_fail_1 : decode cX5_fail 1 = .ok (.getfield 29, 3) := da_1580.2.1
theorem dX5_fail_4 : decode cX5_fail 4 = .ok (.ifCond .ne 13, 3) := da_1580.2.2.1
theorem dX5_fail_7 : decode cX5_fail 7 = .ok (.aload_n 0, 1) := da_1580.2.2.2.1
theorem dX5_fail_8 : decode cX5_fail 8 = .ok (.iload_n 1, 1) := da_1580.2.2.2.2.1
theorem dX5_fail_9 : decode cX5_fail 9 = .ok (.putfield 29, 3) := da_1580.2.2.2.2.2.1
theorem dX5_fail_12 : decode cX5_fail 12 = .ok (.aload_n 0, 1) := da_1580.2.2.2.2.2.2.1
theorem dX5_fail_13 : decode cX5_fail 13 = .ok (.iload_n 2, 1) := da_1580.2.2.2.2.2.2.2.1
theorem dX5_fail_14 : decode cX5_fail 14 = .ok (.putfield 32, 3) := da_1580.2.2.2.2.2.2.2.2.1
theorem dX5_fail_17 : decode cX5_fail 17 = .ok (.return_, 1) := da_1580.2.2.2.2.2.2.2.2.2
theorem da_1590 : (decode cX5_takeToken 0 = .ok (.aload_n 0, 1)) ∧ (decode cX5_takeToken 1 = .ok (.getfield 38, 3)) ∧ (decode cX5_takeToken 4 = .ok (.aload_n 0, 1)) ∧ (decode cX5_takeToken 5 = .ok (.getfield 22, 3)) ∧ (decode cX5_takeToken 8 = .ok (.if_icmp .ge 30, 3)) ∧ (decode cX5_takeToken 11 = .ok (.aload_n 0, 1)) ∧ (decode cX5_takeToken 12 = .ok (.getfield 9, 3)) ∧ (decode cX5_takeToken 15 = .ok (.aload_n 0, 1)) ∧ (decode cX5_takeToken 16 = .ok (.getfield 38, 3)) ∧ (decode cX5_takeToken 19 = .ok (.baload, 1)) := by decide +kernel
theorem dX5_takeToken_0 : decode cX5_takeToken 0 = .ok (.aload_n 0, 1) := da_1590.1
theorem dX5_takeToken_1 : decode cX5_takeToken 1 = .ok (.getfield 38, 3) := da_1590.2.1
theorem dX5_takeToken_4 : decode cX5_takeToken 4 = .ok (.aload_n 0, 1) := da_1590.2.2.1
theorem dX5_takeToken_5 : decode cX5_takeToken 5 = .ok (.getfield 22, 3) := da_1590.2.2.2.1
theorem dX5_takeToken_8 : decode cX5_takeToken 8 = .ok (.if_icmp .ge 30, 3) := da_1590.2.2.2.2.1
theorem dX5_takeToken_11 : decode cX5_takeToken 11 = .ok (.aload_n 0, 1) := da_1590.2.2.2.2.2.1
theorem dX5_takeToken_12 : decode cX5_takeToken 12 = .ok (.getfield 9, 3) := da_1590.2.2.2.2.2.2.1
theorem dX5_takeToken_15 : decode cX5_takeToken 15 = .ok (.aload_n 0, 1) := da_1590.2.2.2.2.2.2.2.1
theorem dX5_takeToken_16 : decode cX5_takeToken 16 = .ok (.getfield 38, 3) := da_1590.2.2.2.2.2.2.2.2.1
theorem dX5_takeToken_19 : decode cX5_takeToken 19 = .ok (.baload, 1) := da_1590.2.2.2.2.2.2.2.2.2
theorem da_1600 : (decode cX5_takeToken 20 = .ok (.bipush 32, 2)) ∧ (decode cX5_takeToken 22 = .ok (.if_icmp .ne 16, 3)) ∧ (decode cX5_takeToken 25 = .ok (.aload_n 0, 1)) ∧ (decode cX5_takeToken 26 = .ok (.dup, 1)) ∧ (decode cX5_takeToken 27 = .ok (.getfield 38, 3)) ∧ (decode cX5_takeToken 30 = .ok (.iconst 1, 1)) ∧ (decode cX5_takeToken 31 = .ok (.iadd, 1)) ∧ (decode cX5_takeToken 32 = .ok (.putfield 38, 3)) ∧ (decode cX5_takeToken 35 = .ok (.goto (-35), 3)) ∧ (decode cX5_takeToken 38 = .ok (.aload_n 0, 1)) := by decide +kernel
theorem dX5_takeToken_20 : decode cX5_takeToken 20 = .ok (.bipush 32, 2) := da_1600.1
theorem dX5_takeToken_22 : decode cX5_takeToken 22 = .ok (.if_icmp .ne 16, 3) := da_1600.2.1
theorem dX5_takeToken_25 : decode cX5_takeToken 25 = .ok (.aload_n 0, 1) := da_1600.2.2.1
theorem dX5_takeToken_26 : decode cX5_takeToken 26 = .ok (.dup, 1) := da_1600.2.2.2.1
theorem dX5_takeToken_27 : decode cX5_takeToken 27 = .ok (.getfield 38, 3) := da_1600.2.2.2.2.1
theorem dX5_takeToken_30 : decode cX5_takeToken 30 = .ok (.iconst 1, 1) := da_1600.2.2.2.2.2.1
theorem dX5_takeToken_31 : decode cX5_takeToken 31 = .ok (.iadd, 1) := da_1600.2.2.2.2.2.2.1
theorem dX5_takeToken_32 : decode cX5_takeToken 32 = .ok (.putfield 38, 3) := da_1600.2.2.2.2.2.2.2.1
theorem dX5_takeToken_35 : decode cX5_takeToken 35 = .ok (.goto (-35), 3) := da_1600.2.2.2.2.2.2.2.2.1
theorem dX5_takeToken_38 : decode cX5_takeToken 38 = .ok (.aload_n 0, 1) := da_1600.2.2.2.2.2.2.2.2.2
theorem da_1610 : (decode cX5_takeToken 39 = .ok (.aload_n 0, 1)) ∧ (decode cX5_takeToken 40 = .ok (.getfield 38, 3)) ∧ (decode cX5_takeToken 43 = .ok (.putfield 62, 3)) ∧ (decode cX5_takeToken 46 = .ok (.aload_n 0, 1)) ∧ (decode cX5_takeToken 47 = .ok (.iconst 0, 1)) ∧ (decode cX5_takeToken 48 = .ok (.putfield 95, 3)) ∧ (decode cX5_takeToken 51 = .ok (.aload_n 0, 1)) ∧ (decode cX5_takeToken 52 = .ok (.aload_n 0, 1)) ∧ (decode cX5_takeToken 53 = .ok (.getfield 38, 3)) ∧ (decode cX5_takeToken 56 = .ok (.aload_n 0, 1)) := by decide +kernel
theorem dX5_takeToken_39 : decode cX5_takeToken 39 = .ok (.aload_n 0, 1) := da_1610.1
theorem dX5_takeToken_40 : decode cX5_takeToken 40 = .ok (.getfield 38, 3) := da_1610.2.1
theorem dX5_takeToken_43 : decode cX5_takeToken 43 = .ok (.putfield 62, 3) := da_1610.2.2.1
theorem dX5_takeToken_46 : decode cX5_takeToken 46 = .ok (.aload_n 0, 1) := da_1610.2.2.2.1
theorem dX5_takeToken_47 : decode cX5_takeToken 47 = .ok (.iconst 0, 1) := da_1610.2.2.2.2.1
theorem dX5_takeToken_48 : decode cX5_takeToken 48 = .ok (.putfield 95, 3) := da_1610.2.2.2.2.2.1
theorem dX5_takeToken_51 : decode cX5_takeToken 51 = .ok (.aload_n 0, 1) := da_1610.2.2.2.2.2.2.1
theorem dX5_takeToken_52 : decode cX5_takeToken 52 = .ok (.aload_n 0, 1) := da_1610.2.2.2.2.2.2.2.1
theorem dX5_takeToken_53 : decode cX5_takeToken 53 = .ok (.getfield 38, 3) := da_1610.2.2.2.2.2.2.2.2.1
theorem dX5_takeToken_56 : decode cX5_takeToken 56 = .ok (.aload_n 0, 1) := da_1610.2.2.2.2.2.2.2.2.2
theorem da_1620 : (decode cX5_takeToken 57 = .ok (.getfield 22, 3)) ∧ (decode cX5_takeToken 60 = .ok (.if_icmp .ge 18, 3)) ∧ (decode cX5_takeToken 63 = .ok (.aload_n 0, 1)) ∧ (decode cX5_takeToken 64 = .ok (.getfield 9, 3)) ∧ (decode cX5_takeToken 67 = .ok (.aload_n 0, 1)) ∧ (decode cX5_takeToken 68 = .ok (.getfield 38, 3)) ∧ (decode cX5_takeToken 71 = .ok (.baload, 1)) ∧ (decode cX5_takeToken 72 = .ok (.invokestatic 98, 3)) ∧ (decode cX5_takeToken 75 = .ok (.goto 4, 3)) ∧ (decode cX5_takeToken 78 = .ok (.iconst 0, 1)) := by decide +kernel
theorem dX5_takeToken_57 : decode cX5_takeToken 57 = .ok (.getfield 22, 3) := da_1620.1
theorem dX5_takeToken_60 : decode cX5_takeToken 60 = .ok (.if_icmp .ge 18, 3) := da_1620.2.1
theorem dX5_takeToken_63 : decode cX5_takeToken 63 = .ok (.aload_n 0, 1) := da_1620.2.2.1
theorem dX5_takeToken_64 : decode cX5_takeToken 64 = .ok (.getfield 9, 3) := da_1620.2.2.2.1
theorem dX5_takeToken_67 : decode cX5_takeToken 67 = .ok (.aload_n 0, 1) := da_1620.2.2.2.2.1
theorem dX5_takeToken_68 : decode cX5_takeToken 68 = .ok (.getfield 38, 3) := da_1620.2.2.2.2.2.1
theorem dX5_takeToken_71 : decode cX5_takeToken 71 = .ok (.baload, 1) := da_1620.2.2.2.2.2.2.1
theorem dX5_takeToken_72 : decode cX5_takeToken 72 = .ok (.invokestatic 98, 3) := da_1620.2.2.2.2.2.2.2.1
theorem dX5_takeToken_75 : decode cX5_takeToken 75 = .ok (.goto 4, 3) := da_1620.2.2.2.2.2.2.2.2.1
theorem dX5_takeToken_78 : decode cX5_takeToken 78 = .ok (.iconst 0, 1) := da_1620.2.2.2.2.2.2.2.2.2
theorem da_1630 : (decode cX5_takeToken 79 = .ok (.putfield 44, 3)) ∧ (decode cX5_takeToken 82 = .ok (.aload_n 0, 1)) ∧ (decode cX5_takeToken 83 = .ok (.getfield 44, 3)) ∧ (decode cX5_takeToken 86 = .ok (.iconst 1, 1)) ∧ (decode cX5_takeToken 87 = .ok (.if_icmp .eq 11, 3)) ∧ (decode cX5_takeToken 90 = .ok (.aload_n 0, 1)) ∧ (decode cX5_takeToken 91 = .ok (.getfield 44, 3)) ∧ (decode cX5_takeToken 94 = .ok (.iconst 2, 1)) ∧ (decode cX5_takeToken 95 = .ok (.if_icmp .ne 7, 3)) ∧ (decode cX5_takeToken 98 = .ok (.iconst 1, 1)) := by decide +kernel
theorem dX5_takeToken_79 : decode cX5_takeToken 79 = .ok (.putfield 44, 3) := da_1630.1
theorem dX5_takeToken_82 : decode cX5_takeToken 82 = .ok (.aload_n 0, 1) := da_1630.2.1
theorem dX5_takeToken_83 : decode cX5_takeToken 83 = .ok (.getfield 44, 3) := da_1630.2.2.1
theorem dX5_takeToken_86 : decode cX5_takeToken 86 = .ok (.iconst 1, 1) := da_1630.2.2.2.1
theorem dX5_takeToken_87 : decode cX5_takeToken 87 = .ok (.if_icmp .eq 11, 3) := da_1630.2.2.2.2.1
theorem dX5_takeToken_90 : decode cX5_takeToken 90 = .ok (.aload_n 0, 1) := da_1630.2.2.2.2.2.1
theorem dX5_takeToken_91 : decode cX5_takeToken 91 = .ok (.getfield 44, 3) := da_1630.2.2.2.2.2.2.1
theorem dX5_takeToken_94 : decode cX5_takeToken 94 = .ok (.iconst 2, 1) := da_1630.2.2.2.2.2.2.2.1
theorem dX5_takeToken_95 : decode cX5_takeToken 95 = .ok (.if_icmp .ne 7, 3) := da_1630.2.2.2.2.2.2.2.2.1
theorem dX5_takeToken_98 : decode cX5_takeToken 98 = .ok (.iconst 1, 1) := da_1630.2.2.2.2.2.2.2.2.2
theorem da_1640 : (decode cX5_takeToken 99 = .ok (.goto 4, 3)) ∧ (decode cX5_takeToken 102 = .ok (.iconst 0, 1)) ∧ (decode cX5_takeToken 103 = .ok (.istore_n 1, 1)) ∧ (decode cX5_takeToken 104 = .ok (.aload_n 0, 1)) ∧ (decode cX5_takeToken 105 = .ok (.getfield 38, 3)) ∧ (decode cX5_takeToken 108 = .ok (.aload_n 0, 1)) ∧ (decode cX5_takeToken 109 = .ok (.getfield 22, 3)) ∧ (decode cX5_takeToken 112 = .ok (.if_icmp .ge 77, 3)) ∧ (decode cX5_takeToken 115 = .ok (.iload_n 1, 1)) ∧ (decode cX5_takeToken 116 = .ok (.ifCond .eq 25, 3)) := by decide +kernel
theorem dX5_takeToken_99 : decode cX5_takeToken 99 = .ok (.goto 4, 3) := da_1640.1
theorem dX5_takeToken_102 : decode cX5_takeToken 102 = .ok (.iconst 0, 1) := da_1640.2.1
theorem dX5_takeToken_103 : decode cX5_takeToken 103 = .ok (.istore_n 1, 1) := da_1640.2.2.1
theorem dX5_takeToken_104 : decode cX5_takeToken 104 = .ok (.aload_n 0, 1) := da_1640.2.2.2.1
theorem dX5_takeToken_105 : decode cX5_takeToken 105 = .ok (.getfield 38, 3) := da_1640.2.2.2.2.1
theorem dX5_takeToken_108 : decode cX5_takeToken 108 = .ok (.aload_n 0, 1) := da_1640.2.2.2.2.2.1
theorem dX5_takeToken_109 : decode cX5_takeToken 109 = .ok (.getfield 22, 3) := da_1640.2.2.2.2.2.2.1
theorem dX5_takeToken_112 : decode cX5_takeToken 112 = .ok (.if_icmp .ge 77, 3) := da_1640.2.2.2.2.2.2.2.1
theorem dX5_takeToken_115 : decode cX5_takeToken 115 = .ok (.iload_n 1, 1) := da_1640.2.2.2.2.2.2.2.2.1
theorem dX5_takeToken_116 : decode cX5_takeToken 116 = .ok (.ifCond .eq 25, 3) := da_1640.2.2.2.2.2.2.2.2.2
theorem da_1650 : (decode cX5_takeToken 119 = .ok (.aload_n 0, 1)) ∧ (decode cX5_takeToken 120 = .ok (.getfield 9, 3)) ∧ (decode cX5_takeToken 123 = .ok (.aload_n 0, 1)) ∧ (decode cX5_takeToken 124 = .ok (.getfield 38, 3)) ∧ (decode cX5_takeToken 127 = .ok (.baload, 1)) ∧ (decode cX5_takeToken 128 = .ok (.invokestatic 98, 3)) ∧ (decode cX5_takeToken 131 = .ok (.aload_n 0, 1)) ∧ (decode cX5_takeToken 132 = .ok (.getfield 44, 3)) ∧ (decode cX5_takeToken 135 = .ok (.if_icmp .ne 54, 3)) ∧ (decode cX5_takeToken 138 = .ok (.goto 14, 3)) := by decide +kernel
theorem dX5_takeToken_119 : decode cX5_takeToken 119 = .ok (.aload_n 0, 1) := da_1650.1
theorem dX5_takeToken_120 : decode cX5_takeToken 120 = .ok (.getfield 9, 3) := da_1650.2.1
theorem dX5_takeToken_123 : decode cX5_takeToken 123 = .ok (.aload_n 0, 1) := da_1650.2.2.1
theorem dX5_takeToken_124 : decode cX5_takeToken 124 = .ok (.getfield 38, 3) := da_1650.2.2.2.1
theorem dX5_takeToken_127 : decode cX5_takeToken 127 = .ok (.baload, 1) := da_1650.2.2.2.2.1
theorem dX5_takeToken_128 : decode cX5_takeToken 128 = .ok (.invokestatic 98, 3) := da_1650.2.2.2.2.2.1
theorem dX5_takeToken_131 : decode cX5_takeToken 131 = .ok (.aload_n 0, 1) := da_1650.2.2.2.2.2.2.1
theorem dX5_takeToken_132 : decode cX5_takeToken 132 = .ok (.getfield 44, 3) := da_1650.2.2.2.2.2.2.2.1
theorem dX5_takeToken_135 : decode cX5_takeToken 135 = .ok (.if_icmp .ne 54, 3) := da_1650.2.2.2.2.2.2.2.2.1
theorem dX5_takeToken_138 : decode cX5_takeToken 138 = .ok (.goto 14, 3) := da_1650.2.2.2.2.2.2.2.2.2
theorem da_1660 : (decode cX5_takeToken 141 = .ok (.aload_n 0, 1)) ∧ (decode cX5_takeToken 142 = .ok (.getfield 38, 3)) ∧ (decode cX5_takeToken 145 = .ok (.aload_n 0, 1)) ∧ (decode cX5_takeToken 146 = .ok (.getfield 62, 3)) ∧ (decode cX5_takeToken 149 = .ok (.if_icmp .ne 40, 3)) ∧ (decode cX5_takeToken 152 = .ok (.aload_n 0, 1)) ∧ (decode cX5_takeToken 153 = .ok (.aload_n 0, 1)) ∧ (decode cX5_takeToken 154 = .ok (.getfield 95, 3)) ∧ (decode cX5_takeToken 157 = .ok (.bipush 10, 2)) ∧ (decode cX5_takeToken 159 = .ok (.imul, 1)) := by decide +kernel
theorem dX5_takeToken_141 : decode cX5_takeToken 141 = .ok (.aload_n 0, 1) := da_1660.1
theorem dX5_takeToken_142 : decode cX5_takeToken 142 = .ok (.getfield 38, 3) := da_1660.2.1
theorem dX5_takeToken_145 : decode cX5_takeToken 145 = .ok (.aload_n 0, 1) := da_1660.2.2.1
theorem dX5_takeToken_146 : decode cX5_takeToken 146 = .ok (.getfield 62, 3) := da_1660.2.2.2.1
theorem dX5_takeToken_149 : decode cX5_takeToken 149 = .ok (.if_icmp .ne 40, 3) := da_1660.2.2.2.2.1
theorem dX5_takeToken_152 : decode cX5_takeToken 152 = .ok (.aload_n 0, 1) := da_1660.2.2.2.2.2.1
theorem dX5_takeToken_153 : decode cX5_takeToken 153 = .ok (.aload_n 0, 1) := da_1660.2.2.2.2.2.2.1
theorem dX5_takeToken_154 : decode cX5_takeToken 154 = .ok (.getfield 95, 3) := da_1660.2.2.2.2.2.2.2.1
theorem dX5_takeToken_157 : decode cX5_takeToken 157 = .ok (.bipush 10, 2) := da_1660.2.2.2.2.2.2.2.2.1
theorem dX5_takeToken_159 : decode cX5_takeToken 159 = .ok (.imul, 1) := da_1660.2.2.2.2.2.2.2.2.2
theorem da_1670 : (decode cX5_takeToken 160 = .ok (.aload_n 0, 1)) ∧ (decode cX5_takeToken 161 = .ok (.getfield 9, 3)) ∧ (decode cX5_takeToken 164 = .ok (.aload_n 0, 1)) ∧ (decode cX5_takeToken 165 = .ok (.getfield 38, 3)) ∧ (decode cX5_takeToken 168 = .ok (.baload, 1)) ∧ (decode cX5_takeToken 169 = .ok (.bipush 48, 2)) ∧ (decode cX5_takeToken 171 = .ok (.isub, 1)) ∧ (decode cX5_takeToken 172 = .ok (.iadd, 1)) ∧ (decode cX5_takeToken 173 = .ok (.putfield 95, 3)) ∧ (decode cX5_takeToken 176 = .ok (.aload_n 0, 1)) := by decide +kernel
theorem dX5_takeToken_160 : decode cX5_takeToken 160 = .ok (.aload_n 0, 1) := da_1670.1
theorem dX5_takeToken_161 : decode cX5_takeToken 161 = .ok (.getfield 9, 3) := da_1670.2.1
theorem dX5_takeToken_164 : decode cX5_takeToken 164 = .ok (.aload_n 0, 1) := da_1670.2.2.1
theorem dX5_takeToken_165 : decode cX5_takeToken 165 = .ok (.getfield 38, 3) := da_1670.2.2.2.1
theorem dX5_takeToken_168 : decode cX5_takeToken 168 = .ok (.baload, 1) := da_1670.2.2.2.2.1
theorem dX5_takeToken_169 : decode cX5_takeToken 169 = .ok (.bipush 48, 2) := da_1670.2.2.2.2.2.1
theorem dX5_takeToken_171 : decode cX5_takeToken 171 = .ok (.isub, 1) := da_1670.2.2.2.2.2.2.1
theorem dX5_takeToken_172 : decode cX5_takeToken 172 = .ok (.iadd, 1) := da_1670.2.2.2.2.2.2.2.1
theorem dX5_takeToken_173 : decode cX5_takeToken 173 = .ok (.putfield 95, 3) := da_1670.2.2.2.2.2.2.2.2.1
theorem dX5_takeToken_176 : decode cX5_takeToken 176 = .ok (.aload_n 0, 1) := da_1670.2.2.2.2.2.2.2.2.2
theorem da_1680 : (decode cX5_takeToken 177 = .ok (.dup, 1)) ∧ (decode cX5_takeToken 178 = .ok (.getfield 38, 3)) ∧ (decode cX5_takeToken 181 = .ok (.iconst 1, 1)) ∧ (decode cX5_takeToken 182 = .ok (.iadd, 1)) ∧ (decode cX5_takeToken 183 = .ok (.putfield 38, 3)) ∧ (decode cX5_takeToken 186 = .ok (.goto (-82), 3)) ∧ (decode cX5_takeToken 189 = .ok (.aload_n 0, 1)) ∧ (decode cX5_takeToken 190 = .ok (.getfield 44, 3)) ∧ (decode cX5_takeToken 193 = .ok (.iconst 2, 1)) ∧ (decode cX5_takeToken 194 = .ok (.if_icmp .ne 21, 3)) := by decide +kernel
theorem dX5_takeToken_177 : decode cX5_takeToken 177 = .ok (.dup, 1) := da_1680.1
theorem dX5_takeToken_178 : decode cX5_takeToken 178 = .ok (.getfield 38, 3) := da_1680.2.1
theorem dX5_takeToken_181 : decode cX5_takeToken 181 = .ok (.iconst 1, 1) := da_1680.2.2.1
theorem dX5_takeToken_182 : decode cX5_takeToken 182 = .ok (.iadd, 1) := da_1680.2.2.2.1
theorem dX5_takeToken_183 : decode cX5_takeToken 183 = .ok (.putfield 38, 3) := da_1680.2.2.2.2.1
theorem dX5_takeToken_186 : decode cX5_takeToken 186 = .ok (.goto (-82), 3) := da_1680.2.2.2.2.2.1
theorem dX5_takeToken_189 : decode cX5_takeToken 189 = .ok (.aload_n 0, 1) := da_1680.2.2.2.2.2.2.1
theorem dX5_takeToken_190 : decode cX5_takeToken 190 = .ok (.getfield 44, 3) := da_1680.2.2.2.2.2.2.2.1
theorem dX5_takeToken_193 : decode cX5_takeToken 193 = .ok (.iconst 2, 1) := da_1680.2.2.2.2.2.2.2.2.1
theorem dX5_takeToken_194 : decode cX5_takeToken 194 = .ok (.if_icmp .ne 21, 3) := da_1680.2.2.2.2.2.2.2.2.2
theorem da_1690 : (decode cX5_takeToken 197 = .ok (.aload_n 0, 1)) ∧ (decode cX5_takeToken 198 = .ok (.getfield 38, 3)) ∧ (decode cX5_takeToken 201 = .ok (.aload_n 0, 1)) ∧ (decode cX5_takeToken 202 = .ok (.getfield 62, 3)) ∧ (decode cX5_takeToken 205 = .ok (.isub, 1)) ∧ (decode cX5_takeToken 206 = .ok (.iconst 2, 1)) ∧ (decode cX5_takeToken 207 = .ok (.if_icmp .le 8, 3)) ∧ (decode cX5_takeToken 210 = .ok (.aload_n 0, 1)) ∧ (decode cX5_takeToken 211 = .ok (.iconst 4, 1)) ∧ (decode cX5_takeToken 212 = .ok (.putfield 44, 3)) := by decide +kernel
theorem dX5_takeToken_197 : decode cX5_takeToken 197 = .ok (.aload_n 0, 1) := da_1690.1
theorem dX5_takeToken_198 : decode cX5_takeToken 198 = .ok (.getfield 38, 3) := da_1690.2.1
theorem dX5_takeToken_201 : decode cX5_takeToken 201 = .ok (.aload_n 0, 1) := da_1690.2.2.1
theorem dX5_takeToken_202 : decode cX5_takeToken 202 = .ok (.getfield 62, 3) := da_1690.2.2.2.1
theorem dX5_takeToken_205 : decode cX5_takeToken 205 = .ok (.isub, 1) := da_1690.2.2.2.2.1
theorem dX5_takeToken_206 : decode cX5_takeToken 206 = .ok (.iconst 2, 1) := da_1690.2.2.2.2.2.1
theorem dX5_takeToken_207 : decode cX5_takeToken 207 = .ok (.if_icmp .le 8, 3) := da_1690.2.2.2.2.2.2.1
theorem dX5_takeToken_210 : decode cX5_takeToken 210 = .ok (.aload_n 0, 1) := da_1690.2.2.2.2.2.2.2.1
theorem dX5_takeToken_211 : decode cX5_takeToken 211 = .ok (.iconst 4, 1) := da_1690.2.2.2.2.2.2.2.2.1
theorem dX5_takeToken_212 : decode cX5_takeToken 212 = .ok (.putfield 44, 3) := da_1690.2.2.2.2.2.2.2.2.2
theorem da_1700 : (decode cX5_takeToken 215 = .ok (.aload_n 0, 1)) ∧ (decode cX5_takeToken 216 = .ok (.getfield 44, 3)) ∧ (decode cX5_takeToken 219 = .ok (.iconst 4, 1)) ∧ (decode cX5_takeToken 220 = .ok (.if_icmp .ne 12, 3)) ∧ (decode cX5_takeToken 223 = .ok (.aload_n 0, 1)) ∧ (decode cX5_takeToken 224 = .ok (.iconst 1, 1)) ∧ (decode cX5_takeToken 225 = .ok (.aload_n 0, 1)) ∧ (decode cX5_takeToken 226 = .ok (.getfield 62, 3)) ∧ (decode cX5_takeToken 229 = .ok (.invokevirtual 54, 3)) ∧ (decode cX5_takeToken 232 = .ok (.return_, 1)) := by decide +kernel
theorem dX5_takeToken_215 : decode cX5_takeToken 215 = .ok (.aload_n 0, 1) := da_1700.1
theorem dX5_takeToken_216 : decode cX5_takeToken 216 = .ok (.getfield 44, 3) := da_1700.2.1
theorem dX5_takeToken_219 : decode cX5_takeToken 219 = .ok (.iconst 4, 1) := da_1700.2.2.1
theorem dX5_takeToken_220 : decode cX5_takeToken 220 = .ok (.if_icmp .ne 12, 3) := da_1700.2.2.2.1
theorem dX5_takeToken_223 : decode cX5_takeToken 223 = .ok (.aload_n 0, 1) := da_1700.2.2.2.2.1
theorem dX5_takeToken_224 : decode cX5_takeToken 224 = .ok (.iconst 1, 1) := da_1700.2.2.2.2.2.1
theorem dX5_takeToken_225 : decode cX5_takeToken 225 = .ok (.aload_n 0, 1) := da_1700.2.2.2.2.2.2.1
theorem dX5_takeToken_226 : decode cX5_takeToken 226 = .ok (.getfield 62, 3) := da_1700.2.2.2.2.2.2.2.1
theorem dX5_takeToken_229 : decode cX5_takeToken 229 = .ok (.invokevirtual 54, 3) := da_1700.2.2.2.2.2.2.2.2.1
theorem dX5_takeToken_232 : decode cX5_takeToken 232 = .ok (.return_, 1) := da_1700.2.2.2.2.2.2.2.2.2
theorem da_1710 : (decode cX5_sortOf 0 = .ok (.iload_n 0, 1)) ∧ (decode cX5_sortOf 1 = .ok (.bipush 97, 2)) ∧ (decode cX5_sortOf 3 = .ok (.if_icmp .lt 11, 3)) ∧ (decode cX5_sortOf 6 = .ok (.iload_n 0, 1)) ∧ (decode cX5_sortOf 7 = .ok (.bipush 122, 2)) ∧ (decode cX5_sortOf 9 = .ok (.if_icmp .gt 5, 3)) ∧ (decode cX5_sortOf 12 = .ok (.iconst 1, 1)) ∧ (decode cX5_sortOf 13 = .ok (.ireturn, 1)) ∧ (decode cX5_sortOf 14 = .ok (.iload_n 0, 1)) ∧ (decode cX5_sortOf 15 = .ok (.bipush 48, 2)) := by decide +kernel
theorem dX5_sortOf_0 : decode cX5_sortOf 0 = .ok (.iload_n 0, 1) := da_1710.1
theorem dX5_sortOf_1 : decode cX5_sortOf 1 = .ok (.bipush 97, 2) := da_1710.2.1
theorem dX5_sortOf_3 : decode cX5_sortOf 3 = .ok (.if_icmp .lt 11, 3) := da_1710.2.2.1
theorem dX5_sortOf_6 : decode cX5_sortOf 6 = .ok (.iload_n 0, 1) := da_1710.2.2.2.1
theorem dX5_sortOf_7 : decode cX5_sortOf 7 = .ok (.bipush 122, 2) := da_1710.2.2.2.2.1
theorem dX5_sortOf_9 : decode cX5_sortOf 9 = .ok (.if_icmp .gt 5, 3) := da_1710.2.2.2.2.2.1
theorem dX5_sortOf_12 : decode cX5_sortOf 12 = .ok (.iconst 1, 1) := da_1710.2.2.2.2.2.2.1
theorem dX5_sortOf_13 : decode cX5_sortOf 13 = .ok (.ireturn, 1) := da_1710.2.2.2.2.2.2.2.1
theorem dX5_sortOf_14 : decode cX5_sortOf 14 = .ok (.iload_n 0, 1) := da_1710.2.2.2.2.2.2.2.2.1
theorem dX5_sortOf_15 : decode cX5_sortOf 15 = .ok (.bipush 48, 2) := da_1710.2.2.2.2.2.2.2.2.2
theorem da_1720 : (decode cX5_sortOf 17 = .ok (.if_icmp .lt 11, 3)) ∧ (decode cX5_sortOf 20 = .ok (.iload_n 0, 1)) ∧ (decode cX5_sortOf 21 = .ok (.bipush 57, 2)) ∧ (decode cX5_sortOf 23 = .ok (.if_icmp .gt 5, 3)) ∧ (decode cX5_sortOf 26 = .ok (.iconst 2, 1)) ∧ (decode cX5_sortOf 27 = .ok (.ireturn, 1)) ∧ (decode cX5_sortOf 28 = .ok (.iload_n 0, 1)) ∧ (decode cX5_sortOf 29 = .ok (.bipush 59, 2)) ∧ (decode cX5_sortOf 31 = .ok (.if_icmp .ne 7, 3)) ∧ (decode cX5_sortOf 34 = .ok (.iconst 3, 1)) := by decide +kernel
theorem dX5_sortOf_17 : decode cX5_sortOf 17 = .ok (.if_icmp .lt 11, 3) := da_1720.1
theorem dX5_sortOf_20 : decode cX5_sortOf 20 = .ok (.iload_n 0, 1) := da_1720.2.1
theorem dX5_sortOf_21 : decode cX5_sortOf 21 = .ok (.bipush 57, 2) := da_1720.2.2.1
theorem dX5_sortOf_23 : decode cX5_sortOf 23 = .ok (.if_icmp .gt 5, 3) := da_1720.2.2.2.1
theorem dX5_sortOf_26 : decode cX5_sortOf 26 = .ok (.iconst 2, 1) := da_1720.2.2.2.2.1
theorem dX5_sortOf_27 : decode cX5_sortOf 27 = .ok (.ireturn, 1) := da_1720.2.2.2.2.2.1
theorem dX5_sortOf_28 : decode cX5_sortOf 28 = .ok (.iload_n 0, 1) := da_1720.2.2.2.2.2.2.1
theorem dX5_sortOf_29 : decode cX5_sortOf 29 = .ok (.bipush 59, 2) := da_1720.2.2.2.2.2.2.2.1
theorem dX5_sortOf_31 : decode cX5_sortOf 31 = .ok (.if_icmp .ne 7, 3) := da_1720.2.2.2.2.2.2.2.2.1
theorem dX5_sortOf_34 : decode cX5_sortOf 34 = .ok (.iconst 3, 1) := da_1720.2.2.2.2.2.2.2.2.2
theorem da_1730 : (decode cX5_sortOf 35 = .ok (.goto 4, 3)) ∧ (decode cX5_sortOf 38 = .ok (.iconst 4, 1)) ∧ (decode cX5_sortOf 39 = .ok (.ireturn, 1)) ∧ (decode cX5_lineBegun 0 = .ok (.aload_n 0, 1)) ∧ (decode cX5_lineBegun 1 = .ok (.getfield 44, 3)) ∧ (decode cX5_lineBegun 4 = .ok (.iconst 1, 1)) ∧ (decode cX5_lineBegun 5 = .ok (.if_icmp .eq 6, 3)) ∧ (decode cX5_lineBegun 8 = .ok (.bipush 7, 2)) ∧ (decode cX5_lineBegun 10 = .ok (.ireturn, 1)) ∧ (decode cX5_lineBegun 11 = .ok (.iconst 0, 1)) := by decide +kernel
theorem dX5_sortOf_35 : decode cX5_sortOf 35 = .ok (.goto 4, 3) := da_1730.1
theorem dX5_sortOf_38 : decode cX5_sortOf 38 = .ok (.iconst 4, 1) := da_1730.2.1
theorem dX5_sortOf_39 : decode cX5_sortOf 39 = .ok (.ireturn, 1) := da_1730.2.2.1
theorem dX5_lineBegun_0 : decode cX5_lineBegun 0 = .ok (.aload_n 0, 1) := da_1730.2.2.2.1
theorem dX5_lineBegun_1 : decode cX5_lineBegun 1 = .ok (.getfield 44, 3) := da_1730.2.2.2.2.1
theorem dX5_lineBegun_4 : decode cX5_lineBegun 4 = .ok (.iconst 1, 1) := da_1730.2.2.2.2.2.1
theorem dX5_lineBegun_5 : decode cX5_lineBegun 5 = .ok (.if_icmp .eq 6, 3) := da_1730.2.2.2.2.2.2.1
theorem dX5_lineBegun_8 : decode cX5_lineBegun 8 = .ok (.bipush 7, 2) := da_1730.2.2.2.2.2.2.2.1
theorem dX5_lineBegun_10 : decode cX5_lineBegun 10 = .ok (.ireturn, 1) := da_1730.2.2.2.2.2.2.2.2.1
theorem dX5_lineBegun_11 : decode cX5_lineBegun 11 = .ok (.iconst 0, 1) := da_1730.2.2.2.2.2.2.2.2.2
theorem da_1740 : (decode cX5_lineBegun 12 = .ok (.istore_n 1, 1)) ∧ (decode cX5_lineBegun 13 = .ok (.iload_n 1, 1)) ∧ (decode cX5_lineBegun 14 = .ok (.bipush 7, 2)) ∧ (decode cX5_lineBegun 16 = .ok (.if_icmp .ge 22, 3)) ∧ (decode cX5_lineBegun 19 = .ok (.aload_n 0, 1)) ∧ (decode cX5_lineBegun 20 = .ok (.iload_n 1, 1)) ∧ (decode cX5_lineBegun 21 = .ok (.invokestatic 102, 3)) ∧ (decode cX5_lineBegun 24 = .ok (.invokevirtual 106, 3)) ∧ (decode cX5_lineBegun 27 = .ok (.ifCond .eq 5, 3)) ∧ (decode cX5_lineBegun 30 = .ok (.iload_n 1, 1)) := by decide +kernel
theorem dX5_lineBegun_12 : decode cX5_lineBegun 12 = .ok (.istore_n 1, 1) := da_1740.1
theorem dX5_lineBegun_13 : decode cX5_lineBegun 13 = .ok (.iload_n 1, 1) := da_1740.2.1
theorem dX5_lineBegun_14 : decode cX5_lineBegun 14 = .ok (.bipush 7, 2) := da_1740.2.2.1
theorem dX5_lineBegun_16 : decode cX5_lineBegun 16 = .ok (.if_icmp .ge 22, 3) := da_1740.2.2.2.1
theorem dX5_lineBegun_19 : decode cX5_lineBegun 19 = .ok (.aload_n 0, 1) := da_1740.2.2.2.2.1
theorem dX5_lineBegun_20 : decode cX5_lineBegun 20 = .ok (.iload_n 1, 1) := da_1740.2.2.2.2.2.1
theorem dX5_lineBegun_21 : decode cX5_lineBegun 21 = .ok (.invokestatic 102, 3) := da_1740.2.2.2.2.2.2.1
theorem dX5_lineBegun_24 : decode cX5_lineBegun 24 = .ok (.invokevirtual 106, 3) := da_1740.2.2.2.2.2.2.2.1
theorem dX5_lineBegun_27 : decode cX5_lineBegun 27 = .ok (.ifCond .eq 5, 3) := da_1740.2.2.2.2.2.2.2.2.1
theorem dX5_lineBegun_30 : decode cX5_lineBegun 30 = .ok (.iload_n 1, 1) := da_1740.2.2.2.2.2.2.2.2.2
theorem da_1750 : (decode cX5_lineBegun 31 = .ok (.ireturn, 1)) ∧ (decode cX5_lineBegun 32 = .ok (.iinc 1 1, 3)) ∧ (decode cX5_lineBegun 35 = .ok (.goto (-22), 3)) ∧ (decode cX5_lineBegun 38 = .ok (.bipush 7, 2)) ∧ (decode cX5_lineBegun 40 = .ok (.ireturn, 1)) ∧ (decode cX5_nameOf 0 = .ok (.iload_n 0, 1)) ∧ (decode cX5_nameOf 1 = .ok (.tableswitch 57 0 5 #[39, 42, 45, 48, 51, 54], 39)) ∧ (decode cX5_nameOf 40 = .ok (.ldc 110, 2)) ∧ (decode cX5_nameOf 42 = .ok (.areturn, 1)) ∧ (decode cX5_nameOf 43 = .ok (.ldc 112, 2)) := by decide +kernel
theorem dX5_lineBegun_31 : decode cX5_lineBegun 31 = .ok (.ireturn, 1) := da_1750.1
theorem dX5_lineBegun_32 : decode cX5_lineBegun 32 = .ok (.iinc 1 1, 3) := da_1750.2.1
theorem dX5_lineBegun_35 : decode cX5_lineBegun 35 = .ok (.goto (-22), 3) := da_1750.2.2.1
theorem dX5_lineBegun_38 : decode cX5_lineBegun 38 = .ok (.bipush 7, 2) := da_1750.2.2.2.1
theorem dX5_lineBegun_40 : decode cX5_lineBegun 40 = .ok (.ireturn, 1) := da_1750.2.2.2.2.1
theorem dX5_nameOf_0 : decode cX5_nameOf 0 = .ok (.iload_n 0, 1) := da_1750.2.2.2.2.2.1
theorem dX5_nameOf_1 : decode cX5_nameOf 1 = .ok (.tableswitch 57 0 5 #[39, 42, 45, 48, 51, 54], 39) := da_1750.2.2.2.2.2.2.1
theorem dX5_nameOf_40 : decode cX5_nameOf 40 = .ok (.ldc 110, 2) := da_1750.2.2.2.2.2.2.2.1
theorem dX5_nameOf_42 : decode cX5_nameOf 42 = .ok (.areturn, 1) := da_1750.2.2.2.2.2.2.2.2.1
theorem dX5_nameOf_43 : decode cX5_nameOf 43 = .ok (.ldc 112, 2) := da_1750.2.2.2.2.2.2.2.2.2
theorem da_1760 : (decode cX5_nameOf 45 = .ok (.areturn, 1)) ∧ (decode cX5_nameOf 46 = .ok (.ldc 114, 2)) ∧ (decode cX5_nameOf 48 = .ok (.areturn, 1)) ∧ (decode cX5_nameOf 49 = .ok (.ldc 116, 2)) ∧ (decode cX5_nameOf 51 = .ok (.areturn, 1)) ∧ (decode cX5_nameOf 52 = .ok (.ldc 118, 2)) ∧ (decode cX5_nameOf 54 = .ok (.areturn, 1)) ∧ (decode cX5_nameOf 55 = .ok (.ldc 119, 2)) ∧ (decode cX5_nameOf 57 = .ok (.areturn, 1)) ∧ (decode cX5_nameOf 58 = .ok (.ldc 120, 2)) := by decide +kernel
theorem dX5_nameOf_45 : decode cX5_nameOf 45 = .ok (.areturn, 1) := da_1760.1
theorem dX5_nameOf_46 : decode cX5_nameOf 46 = .ok (.ldc 114, 2) := da_1760.2.1
theorem dX5_nameOf_48 : decode cX5_nameOf 48 = .ok (.areturn, 1) := da_1760.2.2.1
theorem dX5_nameOf_49 : decode cX5_nameOf 49 = .ok (.ldc 116, 2) := da_1760.2.2.2.1
theorem dX5_nameOf_51 : decode cX5_nameOf 51 = .ok (.areturn, 1) := da_1760.2.2.2.2.1
theorem dX5_nameOf_52 : decode cX5_nameOf 52 = .ok (.ldc 118, 2) := da_1760.2.2.2.2.2.1
theorem dX5_nameOf_54 : decode cX5_nameOf 54 = .ok (.areturn, 1) := da_1760.2.2.2.2.2.2.1
theorem dX5_nameOf_55 : decode cX5_nameOf 55 = .ok (.ldc 119, 2) := da_1760.2.2.2.2.2.2.2.1
theorem dX5_nameOf_57 : decode cX5_nameOf 57 = .ok (.areturn, 1) := da_1760.2.2.2.2.2.2.2.2.1
theorem dX5_nameOf_58 : decode cX5_nameOf 58 = .ok (.ldc 120, 2) := da_1760.2.2.2.2.2.2.2.2.2
theorem da_1770 : (decode cX5_nameOf 60 = .ok (.areturn, 1)) ∧ (decode cX5_isName 0 = .ok (.aload_n 1, 1)) ∧ (decode cX5_isName 1 = .ok (.invokevirtual 122, 3)) ∧ (decode cX5_isName 4 = .ok (.aload_n 0, 1)) ∧ (decode cX5_isName 5 = .ok (.getfield 38, 3)) ∧ (decode cX5_isName 8 = .ok (.aload_n 0, 1)) ∧ (decode cX5_isName 9 = .ok (.getfield 62, 3)) ∧ (decode cX5_isName 12 = .ok (.isub, 1)) ∧ (decode cX5_isName 13 = .ok (.if_icmp .eq 5, 3)) ∧ (decode cX5_isName 16 = .ok (.iconst 0, 1)) := by decide +kernel
theorem dX5_nameOf_60 : decode cX5_nameOf 60 = .ok (.areturn, 1) := da_1770.1
theorem dX5_isName_0 : decode cX5_isName 0 = .ok (.aload_n 1, 1) := da_1770.2.1
theorem dX5_isName_1 : decode cX5_isName 1 = .ok (.invokevirtual 122, 3) := da_1770.2.2.1
theorem dX5_isName_4 : decode cX5_isName 4 = .ok (.aload_n 0, 1) := da_1770.2.2.2.1
theorem dX5_isName_5 : decode cX5_isName 5 = .ok (.getfield 38, 3) := da_1770.2.2.2.2.1
theorem dX5_isName_8 : decode cX5_isName 8 = .ok (.aload_n 0, 1) := da_1770.2.2.2.2.2.1
theorem dX5_isName_9 : decode cX5_isName 9 = .ok (.getfield 62, 3) := da_1770.2.2.2.2.2.2.1
theorem dX5_isName_12 : decode cX5_isName 12 = .ok (.isub, 1) := da_1770.2.2.2.2.2.2.2.1
theorem dX5_isName_13 : decode cX5_isName 13 = .ok (.if_icmp .eq 5, 3) := da_1770.2.2.2.2.2.2.2.2.1
theorem dX5_isName_16 : decode cX5_isName 16 = .ok (.iconst 0, 1) := da_1770.2.2.2.2.2.2.2.2.2
theorem da_1780 : (decode cX5_isName 17 = .ok (.ireturn, 1)) ∧ (decode cX5_isName 18 = .ok (.iconst 0, 1)) ∧ (decode cX5_isName 19 = .ok (.istore_n 2, 1)) ∧ (decode cX5_isName 20 = .ok (.iload_n 2, 1)) ∧ (decode cX5_isName 21 = .ok (.aload_n 1, 1)) ∧ (decode cX5_isName 22 = .ok (.invokevirtual 122, 3)) ∧ (decode cX5_isName 25 = .ok (.if_icmp .ge 30, 3)) ∧ (decode cX5_isName 28 = .ok (.aload_n 0, 1)) ∧ (decode cX5_isName 29 = .ok (.getfield 9, 3)) ∧ (decode cX5_isName 32 = .ok (.aload_n 0, 1)) := by decide +kernel
theorem dX5_isName_17 : decode cX5_isName 17 = .ok (.ireturn, 1) := da_1780.1
theorem dX5_isName_18 : decode cX5_isName 18 = .ok (.iconst 0, 1) := da_1780.2.1
theorem dX5_isName_19 : decode cX5_isName 19 = .ok (.istore_n 2, 1) := da_1780.2.2.1
theorem dX5_isName_20 : decode cX5_isName 20 = .ok (.iload_n 2, 1) := da_1780.2.2.2.1
theorem dX5_isName_21 : decode cX5_isName 21 = .ok (.aload_n 1, 1) := da_1780.2.2.2.2.1
theorem dX5_isName_22 : decode cX5_isName 22 = .ok (.invokevirtual 122, 3) := da_1780.2.2.2.2.2.1
theorem dX5_isName_25 : decode cX5_isName 25 = .ok (.if_icmp .ge 30, 3) := da_1780.2.2.2.2.2.2.1
theorem dX5_isName_28 : decode cX5_isName 28 = .ok (.aload_n 0, 1) := da_1780.2.2.2.2.2.2.2.1
theorem dX5_isName_29 : decode cX5_isName 29 = .ok (.getfield 9, 3) := da_1780.2.2.2.2.2.2.2.2.1
theorem dX5_isName_32 : decode cX5_isName 32 = .ok (.aload_n 0, 1) := da_1780.2.2.2.2.2.2.2.2.2
theorem da_1790 : (decode cX5_isName 33 = .ok (.getfield 62, 3)) ∧ (decode cX5_isName 36 = .ok (.iload_n 2, 1)) ∧ (decode cX5_isName 37 = .ok (.iadd, 1)) ∧ (decode cX5_isName 38 = .ok (.baload, 1)) ∧ (decode cX5_isName 39 = .ok (.aload_n 1, 1)) ∧ (decode cX5_isName 40 = .ok (.iload_n 2, 1)) ∧ (decode cX5_isName 41 = .ok (.invokevirtual 126, 3)) ∧ (decode cX5_isName 44 = .ok (.if_icmp .eq 5, 3)) ∧ (decode cX5_isName 47 = .ok (.iconst 0, 1)) ∧ (decode cX5_isName 48 = .ok (.ireturn, 1)) := by decide +kernel
theorem dX5_isName_33 : decode cX5_isName 33 = .ok (.getfield 62, 3) := da_1790.1
theorem dX5_isName_36 : decode cX5_isName 36 = .ok (.iload_n 2, 1) := da_1790.2.1
theorem dX5_isName_37 : decode cX5_isName 37 = .ok (.iadd, 1) := da_1790.2.2.1
theorem dX5_isName_38 : decode cX5_isName 38 = .ok (.baload, 1) := da_1790.2.2.2.1
theorem dX5_isName_39 : decode cX5_isName 39 = .ok (.aload_n 1, 1) := da_1790.2.2.2.2.1
theorem dX5_isName_40 : decode cX5_isName 40 = .ok (.iload_n 2, 1) := da_1790.2.2.2.2.2.1
theorem dX5_isName_41 : decode cX5_isName 41 = .ok (.invokevirtual 126, 3) := da_1790.2.2.2.2.2.2.1
theorem dX5_isName_44 : decode cX5_isName 44 = .ok (.if_icmp .eq 5, 3) := da_1790.2.2.2.2.2.2.2.1
theorem dX5_isName_47 : decode cX5_isName 47 = .ok (.iconst 0, 1) := da_1790.2.2.2.2.2.2.2.2.1
theorem dX5_isName_48 : decode cX5_isName 48 = .ok (.ireturn, 1) := da_1790.2.2.2.2.2.2.2.2.2
theorem da_1800 : (decode cX5_isName 49 = .ok (.iinc 2 1, 3)) ∧ (decode cX5_isName 52 = .ok (.goto (-32), 3)) ∧ (decode cX5_isName 55 = .ok (.iconst 1, 1)) ∧ (decode cX5_isName 56 = .ok (.ireturn, 1)) ∧ (decode cJ0_length_8abf5 0 = .ok (.aload_n 0, 1)) ∧ (decode cJ0_length_8abf5 1 = .ok (.getfield 9, 3)) ∧ (decode cJ0_length_8abf5 4 = .ok (.arraylength, 1)) ∧ (decode cJ0_length_8abf5 5 = .ok (.aload_n 0, 1)) ∧ (decode cJ0_length_8abf5 6 = .ok (.invokevirtual 335, 3)) ∧ (decode cJ0_length_8abf5 9 = .ok (.ishr, 1)) := by decide +kernel
theorem dX5_isName_49 : decode cX5_isName 49 = .ok (.iinc 2 1, 3) := da_1800.1
theorem dX5_isName_52 : decode cX5_isName 52 = .ok (.goto (-32), 3) := da_1800.2.1
theorem dX5_isName_55 : decode cX5_isName 55 = .ok (.iconst 1, 1) := da_1800.2.2.1
theorem dX5_isName_56 : decode cX5_isName 56 = .ok (.ireturn, 1) := da_1800.2.2.2.1
theorem dJ0_length_8abf5_0 : decode cJ0_length_8abf5 0 = .ok (.aload_n 0, 1) := da_1800.2.2.2.2.1
theorem dJ0_length_8abf5_1 : decode cJ0_length_8abf5 1 = .ok (.getfield 9, 3) := da_1800.2.2.2.2.2.1
theorem dJ0_length_8abf5_4 : decode cJ0_length_8abf5 4 = .ok (.arraylength, 1) := da_1800.2.2.2.2.2.2.1
theorem dJ0_length_8abf5_5 : decode cJ0_length_8abf5 5 = .ok (.aload_n 0, 1) := da_1800.2.2.2.2.2.2.2.1
theorem dJ0_length_8abf5_6 : decode cJ0_length_8abf5 6 = .ok (.invokevirtual 335, 3) := da_1800.2.2.2.2.2.2.2.2.1
theorem dJ0_length_8abf5_9 : decode cJ0_length_8abf5 9 = .ok (.ishr, 1) := da_1800.2.2.2.2.2.2.2.2.2
theorem da_1810 : (decode cJ0_length_8abf5 10 = .ok (.ireturn, 1)) ∧ (decode cJ0_charAt_5068e 0 = .ok (.aload_n 0, 1)) ∧ (decode cJ0_charAt_5068e 1 = .ok (.invokevirtual 492, 3)) ∧ (decode cJ0_charAt_5068e 4 = .ok (.ifCond .eq 12, 3)) ∧ (decode cJ0_charAt_5068e 7 = .ok (.aload_n 0, 1)) ∧ (decode cJ0_charAt_5068e 8 = .ok (.getfield 9, 3)) ∧ (decode cJ0_charAt_5068e 11 = .ok (.iload_n 1, 1)) ∧ (decode cJ0_charAt_5068e 12 = .ok (.invokestatic 495, 3)) ∧ (decode cJ0_charAt_5068e 15 = .ok (.ireturn, 1)) ∧ (decode cJ0_charAt_5068e 16 = .ok (.aload_n 0, 1)) := by decide +kernel
theorem dJ0_length_8abf5_10 : decode cJ0_length_8abf5 10 = .ok (.ireturn, 1) := da_1810.1
theorem dJ0_charAt_5068e_0 : decode cJ0_charAt_5068e 0 = .ok (.aload_n 0, 1) := da_1810.2.1
theorem dJ0_charAt_5068e_1 : decode cJ0_charAt_5068e 1 = .ok (.invokevirtual 492, 3) := da_1810.2.2.1
theorem dJ0_charAt_5068e_4 : decode cJ0_charAt_5068e 4 = .ok (.ifCond .eq 12, 3) := da_1810.2.2.2.1
theorem dJ0_charAt_5068e_7 : decode cJ0_charAt_5068e 7 = .ok (.aload_n 0, 1) := da_1810.2.2.2.2.1
theorem dJ0_charAt_5068e_8 : decode cJ0_charAt_5068e 8 = .ok (.getfield 9, 3) := da_1810.2.2.2.2.2.1
theorem dJ0_charAt_5068e_11 : decode cJ0_charAt_5068e 11 = .ok (.iload_n 1, 1) := da_1810.2.2.2.2.2.2.1
theorem dJ0_charAt_5068e_12 : decode cJ0_charAt_5068e 12 = .ok (.invokestatic 495, 3) := da_1810.2.2.2.2.2.2.2.1
theorem dJ0_charAt_5068e_15 : decode cJ0_charAt_5068e 15 = .ok (.ireturn, 1) := da_1810.2.2.2.2.2.2.2.2.1
theorem dJ0_charAt_5068e_16 : decode cJ0_charAt_5068e 16 = .ok (.aload_n 0, 1) := da_1810.2.2.2.2.2.2.2.2.2
theorem da_1820 : (decode cJ0_charAt_5068e 17 = .ok (.getfield 9, 3)) ∧ (decode cJ0_charAt_5068e 20 = .ok (.iload_n 1, 1)) ∧ (decode cJ0_charAt_5068e 21 = .ok (.invokestatic 498, 3)) ∧ (decode cJ0_charAt_5068e 24 = .ok (.ireturn, 1)) ∧ (decode cJ0_coder_7d493 0 = .ok (.getstatic 38, 3)) ∧ (decode cJ0_coder_7d493 3 = .ok (.ifCond .eq 10, 3)) ∧ (decode cJ0_coder_7d493 6 = .ok (.aload_n 0, 1)) ∧ (decode cJ0_coder_7d493 7 = .ok (.getfield 15, 3)) ∧ (decode cJ0_coder_7d493 10 = .ok (.goto 4, 3)) ∧ (decode cJ0_coder_7d493 13 = .ok (.iconst 1, 1)) := by decide +kernel
theorem dJ0_charAt_5068e_17 : decode cJ0_charAt_5068e 17 = .ok (.getfield 9, 3) := da_1820.1
theorem dJ0_charAt_5068e_20 : decode cJ0_charAt_5068e 20 = .ok (.iload_n 1, 1) := da_1820.2.1
theorem dJ0_charAt_5068e_21 : decode cJ0_charAt_5068e 21 = .ok (.invokestatic 498, 3) := da_1820.2.2.1
theorem dJ0_charAt_5068e_24 : decode cJ0_charAt_5068e 24 = .ok (.ireturn, 1) := da_1820.2.2.2.1
theorem dJ0_coder_7d493_0 : decode cJ0_coder_7d493 0 = .ok (.getstatic 38, 3) := da_1820.2.2.2.2.1
theorem dJ0_coder_7d493_3 : decode cJ0_coder_7d493 3 = .ok (.ifCond .eq 10, 3) := da_1820.2.2.2.2.2.1
theorem dJ0_coder_7d493_6 : decode cJ0_coder_7d493 6 = .ok (.aload_n 0, 1) := da_1820.2.2.2.2.2.2.1
theorem dJ0_coder_7d493_7 : decode cJ0_coder_7d493 7 = .ok (.getfield 15, 3) := da_1820.2.2.2.2.2.2.2.1
theorem dJ0_coder_7d493_10 : decode cJ0_coder_7d493 10 = .ok (.goto 4, 3) := da_1820.2.2.2.2.2.2.2.2.1
theorem dJ0_coder_7d493_13 : decode cJ0_coder_7d493 13 = .ok (.iconst 1, 1) := da_1820.2.2.2.2.2.2.2.2.2
theorem da_1830 : (decode cJ0_coder_7d493 14 = .ok (.ireturn, 1)) ∧ (decode cJ0_isLatin1_aae02 0 = .ok (.getstatic 38, 3)) ∧ (decode cJ0_isLatin1_aae02 3 = .ok (.ifCond .eq 14, 3)) ∧ (decode cJ0_isLatin1_aae02 6 = .ok (.aload_n 0, 1)) ∧ (decode cJ0_isLatin1_aae02 7 = .ok (.getfield 15, 3)) ∧ (decode cJ0_isLatin1_aae02 10 = .ok (.ifCond .ne 7, 3)) ∧ (decode cJ0_isLatin1_aae02 13 = .ok (.iconst 1, 1)) ∧ (decode cJ0_isLatin1_aae02 14 = .ok (.goto 4, 3)) ∧ (decode cJ0_isLatin1_aae02 17 = .ok (.iconst 0, 1)) ∧ (decode cJ0_isLatin1_aae02 18 = .ok (.ireturn, 1)) := by decide +kernel
theorem dJ0_coder_7d493_14 : decode cJ0_coder_7d493 14 = .ok (.ireturn, 1) := da_1830.1
theorem dJ0_isLatin1_aae02_0 : decode cJ0_isLatin1_aae02 0 = .ok (.getstatic 38, 3) := da_1830.2.1
theorem dJ0_isLatin1_aae02_3 : decode cJ0_isLatin1_aae02 3 = .ok (.ifCond .eq 14, 3) := da_1830.2.2.1
theorem dJ0_isLatin1_aae02_6 : decode cJ0_isLatin1_aae02 6 = .ok (.aload_n 0, 1) := da_1830.2.2.2.1
theorem dJ0_isLatin1_aae02_7 : decode cJ0_isLatin1_aae02 7 = .ok (.getfield 15, 3) := da_1830.2.2.2.2.1
theorem dJ0_isLatin1_aae02_10 : decode cJ0_isLatin1_aae02 10 = .ok (.ifCond .ne 7, 3) := da_1830.2.2.2.2.2.1
theorem dJ0_isLatin1_aae02_13 : decode cJ0_isLatin1_aae02 13 = .ok (.iconst 1, 1) := da_1830.2.2.2.2.2.2.1
theorem dJ0_isLatin1_aae02_14 : decode cJ0_isLatin1_aae02 14 = .ok (.goto 4, 3) := da_1830.2.2.2.2.2.2.2.1
theorem dJ0_isLatin1_aae02_17 : decode cJ0_isLatin1_aae02 17 = .ok (.iconst 0, 1) := da_1830.2.2.2.2.2.2.2.2.1
theorem dJ0_isLatin1_aae02_18 : decode cJ0_isLatin1_aae02 18 = .ok (.ireturn, 1) := da_1830.2.2.2.2.2.2.2.2.2
theorem da_1840 : (decode cJ0_checkIndex_df160 0 = .ok (.iload_n 0, 1)) ∧ (decode cJ0_checkIndex_df160 1 = .ok (.iload_n 1, 1)) ∧ (decode cJ0_checkIndex_df160 2 = .ok (.getstatic 1053, 3)) ∧ (decode cJ0_checkIndex_df160 5 = .ok (.invokestatic 1059, 3)) ∧ (decode cJ0_checkIndex_df160 8 = .ok (.pop, 1)) ∧ (decode cJ0_checkIndex_df160 9 = .ok (.return_, 1)) ∧ (decode cJ1_charAt_3b067 0 = .ok (.iload_n 1, 1)) ∧ (decode cJ1_charAt_3b067 1 = .ok (.aload_n 0, 1)) ∧ (decode cJ1_charAt_3b067 2 = .ok (.arraylength, 1)) ∧ (decode cJ1_charAt_3b067 3 = .ok (.invokestatic 9, 3)) := by decide +kernel
theorem dJ0_checkIndex_df160_0 : decode cJ0_checkIndex_df160 0 = .ok (.iload_n 0, 1) := da_1840.1
theorem dJ0_checkIndex_df160_1 : decode cJ0_checkIndex_df160 1 = .ok (.iload_n 1, 1) := da_1840.2.1
theorem dJ0_checkIndex_df160_2 : decode cJ0_checkIndex_df160 2 = .ok (.getstatic 1053, 3) := da_1840.2.2.1
theorem dJ0_checkIndex_df160_5 : decode cJ0_checkIndex_df160 5 = .ok (.invokestatic 1059, 3) := da_1840.2.2.2.1
theorem dJ0_checkIndex_df160_8 : decode cJ0_checkIndex_df160 8 = .ok (.pop, 1) := da_1840.2.2.2.2.1
theorem dJ0_checkIndex_df160_9 : decode cJ0_checkIndex_df160 9 = .ok (.return_, 1) := da_1840.2.2.2.2.2.1
theorem dJ1_charAt_3b067_0 : decode cJ1_charAt_3b067 0 = .ok (.iload_n 1, 1) := da_1840.2.2.2.2.2.2.1
theorem dJ1_charAt_3b067_1 : decode cJ1_charAt_3b067 1 = .ok (.aload_n 0, 1) := da_1840.2.2.2.2.2.2.2.1
theorem dJ1_charAt_3b067_2 : decode cJ1_charAt_3b067 2 = .ok (.arraylength, 1) := da_1840.2.2.2.2.2.2.2.2.1
theorem dJ1_charAt_3b067_3 : decode cJ1_charAt_3b067 3 = .ok (.invokestatic 9, 3) := da_1840.2.2.2.2.2.2.2.2.2
theorem da_1850 : (decode cJ1_charAt_3b067 6 = .ok (.aload_n 0, 1)) ∧ (decode cJ1_charAt_3b067 7 = .ok (.iload_n 1, 1)) ∧ (decode cJ1_charAt_3b067 8 = .ok (.baload, 1)) ∧ (decode cJ1_charAt_3b067 9 = .ok (.sipush 255, 3)) ∧ (decode cJ1_charAt_3b067 12 = .ok (.iand, 1)) ∧ (decode cJ1_charAt_3b067 13 = .ok (.i2c, 1)) ∧ (decode cJ1_charAt_3b067 14 = .ok (.ireturn, 1)) ∧ (decode cJ2_getChar_3b067 0 = .ok (.getstatic 44, 3)) ∧ (decode cJ2_getChar_3b067 3 = .ok (.ifCond .ne 25, 3)) ∧ (decode cJ2_getChar_3b067 6 = .ok (.iload_n 1, 1)) := by decide +kernel
theorem dJ1_charAt_3b067_6 : decode cJ1_charAt_3b067 6 = .ok (.aload_n 0, 1) := da_1850.1
theorem dJ1_charAt_3b067_7 : decode cJ1_charAt_3b067 7 = .ok (.iload_n 1, 1) := da_1850.2.1
theorem dJ1_charAt_3b067_8 : decode cJ1_charAt_3b067 8 = .ok (.baload, 1) := da_1850.2.2.1
theorem dJ1_charAt_3b067_9 : decode cJ1_charAt_3b067 9 = .ok (.sipush 255, 3) := da_1850.2.2.2.1
theorem dJ1_charAt_3b067_12 : decode cJ1_charAt_3b067 12 = .ok (.iand, 1) := da_1850.2.2.2.2.1
theorem dJ1_charAt_3b067_13 : decode cJ1_charAt_3b067 13 = .ok (.i2c, 1) := da_1850.2.2.2.2.2.1
theorem dJ1_charAt_3b067_14 : decode cJ1_charAt_3b067 14 = .ok (.ireturn, 1) := da_1850.2.2.2.2.2.2.1
theorem dJ2_getChar_3b067_0 : decode cJ2_getChar_3b067 0 = .ok (.getstatic 44, 3) := da_1850.2.2.2.2.2.2.2.1
theorem dJ2_getChar_3b067_3 : decode cJ2_getChar_3b067 3 = .ok (.ifCond .ne 25, 3) := da_1850.2.2.2.2.2.2.2.2.1
theorem dJ2_getChar_3b067_6 : decode cJ2_getChar_3b067 6 = .ok (.iload_n 1, 1) := da_1850.2.2.2.2.2.2.2.2.2
theorem da_1860 : (decode cJ2_getChar_3b067 7 = .ok (.ifCond .lt 11, 3)) ∧ (decode cJ2_getChar_3b067 10 = .ok (.iload_n 1, 1)) ∧ (decode cJ2_getChar_3b067 11 = .ok (.aload_n 0, 1)) ∧ (decode cJ2_getChar_3b067 12 = .ok (.invokestatic 48, 3)) ∧ (decode cJ2_getChar_3b067 15 = .ok (.if_icmp .lt 13, 3)) ∧ (decode cJ2_getChar_3b067 18 = .ok (.new 52, 3)) ∧ (decode cJ2_getChar_3b067 21 = .ok (.dup, 1)) ∧ (decode cJ2_getChar_3b067 22 = .ok (.ldc 54, 2)) ∧ (decode cJ2_getChar_3b067 24 = .ok (.invokespecial 56, 3)) ∧ (decode cJ2_getChar_3b067 27 = .ok (.athrow, 1)) := by decide +kernel
theorem dJ2_getChar_3b067_7 : decode cJ2_getChar_3b067 7 = .ok (.ifCond .lt 11, 3) := da_1860.1
theorem dJ2_getChar_3b067_10 : decode cJ2_getChar_3b067 10 = .ok (.iload_n 1, 1) := da_1860.2.1
theorem dJ2_getChar_3b067_11 : decode cJ2_getChar_3b067 11 = .ok (.aload_n 0, 1) := da_1860.2.2.1
theorem dJ2_getChar_3b067_12 : decode cJ2_getChar_3b067 12 = .ok (.invokestatic 48, 3) := da_1860.2.2.2.1
theorem dJ2_getChar_3b067_15 : decode cJ2_getChar_3b067 15 = .ok (.if_icmp .lt 13, 3) := da_1860.2.2.2.2.1
theorem dJ2_getChar_3b067_18 : decode cJ2_getChar_3b067 18 = .ok (.new 52, 3) := da_1860.2.2.2.2.2.1
theorem dJ2_getChar_3b067_21 : decode cJ2_getChar_3b067 21 = .ok (.dup, 1) := da_1860.2.2.2.2.2.2.1
theorem dJ2_getChar_3b067_22 : decode cJ2_getChar_3b067 22 = .ok (.ldc 54, 2) := da_1860.2.2.2.2.2.2.2.1
theorem dJ2_getChar_3b067_24 : decode cJ2_getChar_3b067 24 = .ok (.invokespecial 56, 3) := da_1860.2.2.2.2.2.2.2.2.1
theorem dJ2_getChar_3b067_27 : decode cJ2_getChar_3b067 27 = .ok (.athrow, 1) := da_1860.2.2.2.2.2.2.2.2.2
theorem da_1870 : (decode cJ2_getChar_3b067 28 = .ok (.iload_n 1, 1)) ∧ (decode cJ2_getChar_3b067 29 = .ok (.iconst 1, 1)) ∧ (decode cJ2_getChar_3b067 30 = .ok (.ishl, 1)) ∧ (decode cJ2_getChar_3b067 31 = .ok (.istore_n 1, 1)) ∧ (decode cJ2_getChar_3b067 32 = .ok (.aload_n 0, 1)) ∧ (decode cJ2_getChar_3b067 33 = .ok (.iload_n 1, 1)) ∧ (decode cJ2_getChar_3b067 34 = .ok (.iinc 1 1, 3)) ∧ (decode cJ2_getChar_3b067 37 = .ok (.baload, 1)) ∧ (decode cJ2_getChar_3b067 38 = .ok (.sipush 255, 3)) ∧ (decode cJ2_getChar_3b067 41 = .ok (.iand, 1)) := by decide +kernel
theorem dJ2_getChar_3b067_28 : decode cJ2_getChar_3b067 28 = .ok (.iload_n 1, 1) := da_1870.1
theorem dJ2_getChar_3b067_29 : decode cJ2_getChar_3b067 29 = .ok (.iconst 1, 1) := da_1870.2.1
theorem dJ2_getChar_3b067_30 : decode cJ2_getChar_3b067 30 = .ok (.ishl, 1) := da_1870.2.2.1
theorem dJ2_getChar_3b067_31 : decode cJ2_getChar_3b067 31 = .ok (.istore_n 1, 1) := da_1870.2.2.2.1
theorem dJ2_getChar_3b067_32 : decode cJ2_getChar_3b067 32 = .ok (.aload_n 0, 1) := da_1870.2.2.2.2.1
theorem dJ2_getChar_3b067_33 : decode cJ2_getChar_3b067 33 = .ok (.iload_n 1, 1) := da_1870.2.2.2.2.2.1
theorem dJ2_getChar_3b067_34 : decode cJ2_getChar_3b067 34 = .ok (.iinc 1 1, 3) := da_1870.2.2.2.2.2.2.1
theorem dJ2_getChar_3b067_37 : decode cJ2_getChar_3b067 37 = .ok (.baload, 1) := da_1870.2.2.2.2.2.2.2.1
theorem dJ2_getChar_3b067_38 : decode cJ2_getChar_3b067 38 = .ok (.sipush 255, 3) := da_1870.2.2.2.2.2.2.2.2.1
theorem dJ2_getChar_3b067_41 : decode cJ2_getChar_3b067 41 = .ok (.iand, 1) := da_1870.2.2.2.2.2.2.2.2.2
theorem da_1880 : (decode cJ2_getChar_3b067 42 = .ok (.getstatic 59, 3)) ∧ (decode cJ2_getChar_3b067 45 = .ok (.ishl, 1)) ∧ (decode cJ2_getChar_3b067 46 = .ok (.aload_n 0, 1)) ∧ (decode cJ2_getChar_3b067 47 = .ok (.iload_n 1, 1)) ∧ (decode cJ2_getChar_3b067 48 = .ok (.baload, 1)) ∧ (decode cJ2_getChar_3b067 49 = .ok (.sipush 255, 3)) ∧ (decode cJ2_getChar_3b067 52 = .ok (.iand, 1)) ∧ (decode cJ2_getChar_3b067 53 = .ok (.getstatic 63, 3)) ∧ (decode cJ2_getChar_3b067 56 = .ok (.ishl, 1)) ∧ (decode cJ2_getChar_3b067 57 = .ok (.ior, 1)) := by decide +kernel
theorem dJ2_getChar_3b067_42 : decode cJ2_getChar_3b067 42 = .ok (.getstatic 59, 3) := da_1880.1
theorem dJ2_getChar_3b067_45 : decode cJ2_getChar_3b067 45 = .ok (.ishl, 1) := da_1880.2.1
theorem dJ2_getChar_3b067_46 : decode cJ2_getChar_3b067 46 = .ok (.aload_n 0, 1) := da_1880.2.2.1
theorem dJ2_getChar_3b067_47 : decode cJ2_getChar_3b067 47 = .ok (.iload_n 1, 1) := da_1880.2.2.2.1
theorem dJ2_getChar_3b067_48 : decode cJ2_getChar_3b067 48 = .ok (.baload, 1) := da_1880.2.2.2.2.1
theorem dJ2_getChar_3b067_49 : decode cJ2_getChar_3b067 49 = .ok (.sipush 255, 3) := da_1880.2.2.2.2.2.1
theorem dJ2_getChar_3b067_52 : decode cJ2_getChar_3b067 52 = .ok (.iand, 1) := da_1880.2.2.2.2.2.2.1
theorem dJ2_getChar_3b067_53 : decode cJ2_getChar_3b067 53 = .ok (.getstatic 63, 3) := da_1880.2.2.2.2.2.2.2.1
theorem dJ2_getChar_3b067_56 : decode cJ2_getChar_3b067 56 = .ok (.ishl, 1) := da_1880.2.2.2.2.2.2.2.2.1
theorem dJ2_getChar_3b067_57 : decode cJ2_getChar_3b067 57 = .ok (.ior, 1) := da_1880.2.2.2.2.2.2.2.2.2
theorem da_1890 : (decode cJ2_getChar_3b067 58 = .ok (.i2c, 1)) ∧ (decode cJ2_getChar_3b067 59 = .ok (.ireturn, 1)) ∧ (decode cJ2_length_9d52b 0 = .ok (.aload_n 0, 1)) ∧ (decode cJ2_length_9d52b 1 = .ok (.arraylength, 1)) ∧ (decode cJ2_length_9d52b 2 = .ok (.iconst 1, 1)) ∧ (decode cJ2_length_9d52b 3 = .ok (.ishr, 1)) ∧ (decode cJ2_length_9d52b 4 = .ok (.ireturn, 1)) ∧ (decode cJ2_charAt_3b067 0 = .ok (.iload_n 1, 1)) ∧ (decode cJ2_charAt_3b067 1 = .ok (.aload_n 0, 1)) ∧ (decode cJ2_charAt_3b067 2 = .ok (.invokestatic 67, 3)) := by decide +kernel
theorem dJ2_getChar_3b067_58 : decode cJ2_getChar_3b067 58 = .ok (.i2c, 1) := da_1890.1
theorem dJ2_getChar_3b067_59 : decode cJ2_getChar_3b067 59 = .ok (.ireturn, 1) := da_1890.2.1
theorem dJ2_length_9d52b_0 : decode cJ2_length_9d52b 0 = .ok (.aload_n 0, 1) := da_1890.2.2.1
theorem dJ2_length_9d52b_1 : decode cJ2_length_9d52b 1 = .ok (.arraylength, 1) := da_1890.2.2.2.1
theorem dJ2_length_9d52b_2 : decode cJ2_length_9d52b 2 = .ok (.iconst 1, 1) := da_1890.2.2.2.2.1
theorem dJ2_length_9d52b_3 : decode cJ2_length_9d52b 3 = .ok (.ishr, 1) := da_1890.2.2.2.2.2.1
theorem dJ2_length_9d52b_4 : decode cJ2_length_9d52b 4 = .ok (.ireturn, 1) := da_1890.2.2.2.2.2.2.1
theorem dJ2_charAt_3b067_0 : decode cJ2_charAt_3b067 0 = .ok (.iload_n 1, 1) := da_1890.2.2.2.2.2.2.2.1
theorem dJ2_charAt_3b067_1 : decode cJ2_charAt_3b067 1 = .ok (.aload_n 0, 1) := da_1890.2.2.2.2.2.2.2.2.1
theorem dJ2_charAt_3b067_2 : decode cJ2_charAt_3b067 2 = .ok (.invokestatic 67, 3) := da_1890.2.2.2.2.2.2.2.2.2
theorem da_1900 : (decode cJ2_charAt_3b067 5 = .ok (.aload_n 0, 1)) ∧ (decode cJ2_charAt_3b067 6 = .ok (.iload_n 1, 1)) ∧ (decode cJ2_charAt_3b067 7 = .ok (.invokestatic 71, 3)) ∧ (decode cJ2_charAt_3b067 10 = .ok (.ireturn, 1)) ∧ (decode cJ2_checkIndex_2214a 0 = .ok (.iload_n 0, 1)) ∧ (decode cJ2_checkIndex_2214a 1 = .ok (.aload_n 1, 1)) ∧ (decode cJ2_checkIndex_2214a 2 = .ok (.invokestatic 48, 3)) ∧ (decode cJ2_checkIndex_2214a 5 = .ok (.invokestatic 414, 3)) ∧ (decode cJ2_checkIndex_2214a 8 = .ok (.return_, 1)) ∧ (decode cJ3_checkIndex_8e157 0 = .ok (.iload_n 0, 1)) := by decide +kernel
theorem dJ2_charAt_3b067_5 : decode cJ2_charAt_3b067 5 = .ok (.aload_n 0, 1) := da_1900.1
theorem dJ2_charAt_3b067_6 : decode cJ2_charAt_3b067 6 = .ok (.iload_n 1, 1) := da_1900.2.1
theorem dJ2_charAt_3b067_7 : decode cJ2_charAt_3b067 7 = .ok (.invokestatic 71, 3) := da_1900.2.2.1
theorem dJ2_charAt_3b067_10 : decode cJ2_charAt_3b067 10 = .ok (.ireturn, 1) := da_1900.2.2.2.1
theorem dJ2_checkIndex_2214a_0 : decode cJ2_checkIndex_2214a 0 = .ok (.iload_n 0, 1) := da_1900.2.2.2.2.1
theorem dJ2_checkIndex_2214a_1 : decode cJ2_checkIndex_2214a 1 = .ok (.aload_n 1, 1) := da_1900.2.2.2.2.2.1
theorem dJ2_checkIndex_2214a_2 : decode cJ2_checkIndex_2214a 2 = .ok (.invokestatic 48, 3) := da_1900.2.2.2.2.2.2.1
theorem dJ2_checkIndex_2214a_5 : decode cJ2_checkIndex_2214a 5 = .ok (.invokestatic 414, 3) := da_1900.2.2.2.2.2.2.2.1
theorem dJ2_checkIndex_2214a_8 : decode cJ2_checkIndex_2214a 8 = .ok (.return_, 1) := da_1900.2.2.2.2.2.2.2.2.1
theorem dJ3_checkIndex_8e157_0 : decode cJ3_checkIndex_8e157 0 = .ok (.iload_n 0, 1) := da_1900.2.2.2.2.2.2.2.2.2
theorem da_1910 : (decode cJ3_checkIndex_8e157 1 = .ok (.ifCond .lt 8, 3)) ∧ (decode cJ3_checkIndex_8e157 4 = .ok (.iload_n 0, 1)) ∧ (decode cJ3_checkIndex_8e157 5 = .ok (.iload_n 1, 1)) ∧ (decode cJ3_checkIndex_8e157 6 = .ok (.if_icmp .lt 10, 3)) ∧ (decode cJ3_checkIndex_8e157 9 = .ok (.aload_n 2, 1)) ∧ (decode cJ3_checkIndex_8e157 10 = .ok (.iload_n 0, 1)) ∧ (decode cJ3_checkIndex_8e157 11 = .ok (.iload_n 1, 1)) ∧ (decode cJ3_checkIndex_8e157 12 = .ok (.invokestatic 95, 3)) ∧ (decode cJ3_checkIndex_8e157 15 = .ok (.athrow, 1)) ∧ (decode cJ3_checkIndex_8e157 16 = .ok (.iload_n 0, 1)) := by decide +kernel
theorem dJ3_checkIndex_8e157_1 : decode cJ3_checkIndex_8e157 1 = .ok (.ifCond .lt 8, 3) := da_1910.1
theorem dJ3_checkIndex_8e157_4 : decode cJ3_checkIndex_8e157 4 = .ok (.iload_n 0, 1) := da_1910.2.1
theorem dJ3_checkIndex_8e157_5 : decode cJ3_checkIndex_8e157 5 = .ok (.iload_n 1, 1) := da_1910.2.2.1
theorem dJ3_checkIndex_8e157_6 : decode cJ3_checkIndex_8e157 6 = .ok (.if_icmp .lt 10, 3) := da_1910.2.2.2.1
theorem dJ3_checkIndex_8e157_9 : decode cJ3_checkIndex_8e157 9 = .ok (.aload_n 2, 1) := da_1910.2.2.2.2.1
theorem dJ3_checkIndex_8e157_10 : decode cJ3_checkIndex_8e157 10 = .ok (.iload_n 0, 1) := da_1910.2.2.2.2.2.1
theorem dJ3_checkIndex_8e157_11 : decode cJ3_checkIndex_8e157 11 = .ok (.iload_n 1, 1) := da_1910.2.2.2.2.2.2.1
theorem dJ3_checkIndex_8e157_12 : decode cJ3_checkIndex_8e157 12 = .ok (.invokestatic 95, 3) := da_1910.2.2.2.2.2.2.2.1
theorem dJ3_checkIndex_8e157_15 : decode cJ3_checkIndex_8e157 15 = .ok (.athrow, 1) := da_1910.2.2.2.2.2.2.2.2.1
theorem dJ3_checkIndex_8e157_16 : decode cJ3_checkIndex_8e157 16 = .ok (.iload_n 0, 1) := da_1910.2.2.2.2.2.2.2.2.2
theorem da_1920 : (decode cJ3_checkIndex_8e157 17 = .ok (.ireturn, 1)) ∧ (decode cJ6_bitCount_0f7a4 0 = .ok (.iload_n 0, 1)) ∧ (decode cJ6_bitCount_0f7a4 1 = .ok (.iload_n 0, 1)) ∧ (decode cJ6_bitCount_0f7a4 2 = .ok (.iconst 1, 1)) ∧ (decode cJ6_bitCount_0f7a4 3 = .ok (.iushr, 1)) ∧ (decode cJ6_bitCount_0f7a4 4 = .ok (.ldc_w 265, 3)) ∧ (decode cJ6_bitCount_0f7a4 7 = .ok (.iand, 1)) ∧ (decode cJ6_bitCount_0f7a4 8 = .ok (.isub, 1)) ∧ (decode cJ6_bitCount_0f7a4 9 = .ok (.istore_n 0, 1)) ∧ (decode cJ6_bitCount_0f7a4 10 = .ok (.iload_n 0, 1)) := by decide +kernel
theorem dJ3_checkIndex_8e157_17 : decode cJ3_checkIndex_8e157 17 = .ok (.ireturn, 1) := da_1920.1
theorem dJ6_bitCount_0f7a4_0 : decode cJ6_bitCount_0f7a4 0 = .ok (.iload_n 0, 1) := da_1920.2.1
theorem dJ6_bitCount_0f7a4_1 : decode cJ6_bitCount_0f7a4 1 = .ok (.iload_n 0, 1) := da_1920.2.2.1
theorem dJ6_bitCount_0f7a4_2 : decode cJ6_bitCount_0f7a4 2 = .ok (.iconst 1, 1) := da_1920.2.2.2.1
theorem dJ6_bitCount_0f7a4_3 : decode cJ6_bitCount_0f7a4 3 = .ok (.iushr, 1) := da_1920.2.2.2.2.1
theorem dJ6_bitCount_0f7a4_4 : decode cJ6_bitCount_0f7a4 4 = .ok (.ldc_w 265, 3) := da_1920.2.2.2.2.2.1
theorem dJ6_bitCount_0f7a4_7 : decode cJ6_bitCount_0f7a4 7 = .ok (.iand, 1) := da_1920.2.2.2.2.2.2.1
theorem dJ6_bitCount_0f7a4_8 : decode cJ6_bitCount_0f7a4 8 = .ok (.isub, 1) := da_1920.2.2.2.2.2.2.2.1
theorem dJ6_bitCount_0f7a4_9 : decode cJ6_bitCount_0f7a4 9 = .ok (.istore_n 0, 1) := da_1920.2.2.2.2.2.2.2.2.1
theorem dJ6_bitCount_0f7a4_10 : decode cJ6_bitCount_0f7a4 10 = .ok (.iload_n 0, 1) := da_1920.2.2.2.2.2.2.2.2.2
theorem da_1930 : (decode cJ6_bitCount_0f7a4 11 = .ok (.ldc_w 266, 3)) ∧ (decode cJ6_bitCount_0f7a4 14 = .ok (.iand, 1)) ∧ (decode cJ6_bitCount_0f7a4 15 = .ok (.iload_n 0, 1)) ∧ (decode cJ6_bitCount_0f7a4 16 = .ok (.iconst 2, 1)) ∧ (decode cJ6_bitCount_0f7a4 17 = .ok (.iushr, 1)) ∧ (decode cJ6_bitCount_0f7a4 18 = .ok (.ldc_w 266, 3)) ∧ (decode cJ6_bitCount_0f7a4 21 = .ok (.iand, 1)) ∧ (decode cJ6_bitCount_0f7a4 22 = .ok (.iadd, 1)) ∧ (decode cJ6_bitCount_0f7a4 23 = .ok (.istore_n 0, 1)) ∧ (decode cJ6_bitCount_0f7a4 24 = .ok (.iload_n 0, 1)) := by decide +kernel
theorem dJ6_bitCount_0f7a4_11 : decode cJ6_bitCount_0f7a4 11 = .ok (.ldc_w 266, 3) := da_1930.1
theorem dJ6_bitCount_0f7a4_14 : decode cJ6_bitCount_0f7a4 14 = .ok (.iand, 1) := da_1930.2.1
theorem dJ6_bitCount_0f7a4_15 : decode cJ6_bitCount_0f7a4 15 = .ok (.iload_n 0, 1) := da_1930.2.2.1
theorem dJ6_bitCount_0f7a4_16 : decode cJ6_bitCount_0f7a4 16 = .ok (.iconst 2, 1) := da_1930.2.2.2.1
theorem dJ6_bitCount_0f7a4_17 : decode cJ6_bitCount_0f7a4 17 = .ok (.iushr, 1) := da_1930.2.2.2.2.1
theorem dJ6_bitCount_0f7a4_18 : decode cJ6_bitCount_0f7a4 18 = .ok (.ldc_w 266, 3) := da_1930.2.2.2.2.2.1
theorem dJ6_bitCount_0f7a4_21 : decode cJ6_bitCount_0f7a4 21 = .ok (.iand, 1) := da_1930.2.2.2.2.2.2.1
theorem dJ6_bitCount_0f7a4_22 : decode cJ6_bitCount_0f7a4 22 = .ok (.iadd, 1) := da_1930.2.2.2.2.2.2.2.1
theorem dJ6_bitCount_0f7a4_23 : decode cJ6_bitCount_0f7a4 23 = .ok (.istore_n 0, 1) := da_1930.2.2.2.2.2.2.2.2.1
theorem dJ6_bitCount_0f7a4_24 : decode cJ6_bitCount_0f7a4 24 = .ok (.iload_n 0, 1) := da_1930.2.2.2.2.2.2.2.2.2
theorem da_1940 : (decode cJ6_bitCount_0f7a4 25 = .ok (.iload_n 0, 1)) ∧ (decode cJ6_bitCount_0f7a4 26 = .ok (.iconst 4, 1)) ∧ (decode cJ6_bitCount_0f7a4 27 = .ok (.iushr, 1)) ∧ (decode cJ6_bitCount_0f7a4 28 = .ok (.iadd, 1)) ∧ (decode cJ6_bitCount_0f7a4 29 = .ok (.ldc_w 267, 3)) ∧ (decode cJ6_bitCount_0f7a4 32 = .ok (.iand, 1)) ∧ (decode cJ6_bitCount_0f7a4 33 = .ok (.istore_n 0, 1)) ∧ (decode cJ6_bitCount_0f7a4 34 = .ok (.iload_n 0, 1)) ∧ (decode cJ6_bitCount_0f7a4 35 = .ok (.iload_n 0, 1)) ∧ (decode cJ6_bitCount_0f7a4 36 = .ok (.bipush 8, 2)) := by decide +kernel
theorem dJ6_bitCount_0f7a4_25 : decode cJ6_bitCount_0f7a4 25 = .ok (.iload_n 0, 1) := da_1940.1
theorem dJ6_bitCount_0f7a4_26 : decode cJ6_bitCount_0f7a4 26 = .ok (.iconst 4, 1) := da_1940.2.1
theorem dJ6_bitCount_0f7a4_27 : decode cJ6_bitCount_0f7a4 27 = .ok (.iushr, 1) := da_1940.2.2.1
theorem dJ6_bitCount_0f7a4_28 : decode cJ6_bitCount_0f7a4 28 = .ok (.iadd, 1) := da_1940.2.2.2.1
theorem dJ6_bitCount_0f7a4_29 : decode cJ6_bitCount_0f7a4 29 = .ok (.ldc_w 267, 3) := da_1940.2.2.2.2.1
theorem dJ6_bitCount_0f7a4_32 : decode cJ6_bitCount_0f7a4 32 = .ok (.iand, 1) := da_1940.2.2.2.2.2.1
theorem dJ6_bitCount_0f7a4_33 : decode cJ6_bitCount_0f7a4 33 = .ok (.istore_n 0, 1) := da_1940.2.2.2.2.2.2.1
theorem dJ6_bitCount_0f7a4_34 : decode cJ6_bitCount_0f7a4 34 = .ok (.iload_n 0, 1) := da_1940.2.2.2.2.2.2.2.1
theorem dJ6_bitCount_0f7a4_35 : decode cJ6_bitCount_0f7a4 35 = .ok (.iload_n 0, 1) := da_1940.2.2.2.2.2.2.2.2.1
theorem dJ6_bitCount_0f7a4_36 : decode cJ6_bitCount_0f7a4 36 = .ok (.bipush 8, 2) := da_1940.2.2.2.2.2.2.2.2.2
theorem da_1950 : (decode cJ6_bitCount_0f7a4 38 = .ok (.iushr, 1)) ∧ (decode cJ6_bitCount_0f7a4 39 = .ok (.iadd, 1)) ∧ (decode cJ6_bitCount_0f7a4 40 = .ok (.istore_n 0, 1)) ∧ (decode cJ6_bitCount_0f7a4 41 = .ok (.iload_n 0, 1)) ∧ (decode cJ6_bitCount_0f7a4 42 = .ok (.iload_n 0, 1)) ∧ (decode cJ6_bitCount_0f7a4 43 = .ok (.bipush 16, 2)) ∧ (decode cJ6_bitCount_0f7a4 45 = .ok (.iushr, 1)) ∧ (decode cJ6_bitCount_0f7a4 46 = .ok (.iadd, 1)) ∧ (decode cJ6_bitCount_0f7a4 47 = .ok (.istore_n 0, 1)) ∧ (decode cJ6_bitCount_0f7a4 48 = .ok (.iload_n 0, 1)) := by decide +kernel
theorem dJ6_bitCount_0f7a4_38 : decode cJ6_bitCount_0f7a4 38 = .ok (.iushr, 1) := da_1950.1
theorem dJ6_bitCount_0f7a4_39 : decode cJ6_bitCount_0f7a4 39 = .ok (.iadd, 1) := da_1950.2.1
theorem dJ6_bitCount_0f7a4_40 : decode cJ6_bitCount_0f7a4 40 = .ok (.istore_n 0, 1) := da_1950.2.2.1
theorem dJ6_bitCount_0f7a4_41 : decode cJ6_bitCount_0f7a4 41 = .ok (.iload_n 0, 1) := da_1950.2.2.2.1
theorem dJ6_bitCount_0f7a4_42 : decode cJ6_bitCount_0f7a4 42 = .ok (.iload_n 0, 1) := da_1950.2.2.2.2.1
theorem dJ6_bitCount_0f7a4_43 : decode cJ6_bitCount_0f7a4 43 = .ok (.bipush 16, 2) := da_1950.2.2.2.2.2.1
theorem dJ6_bitCount_0f7a4_45 : decode cJ6_bitCount_0f7a4 45 = .ok (.iushr, 1) := da_1950.2.2.2.2.2.2.1
theorem dJ6_bitCount_0f7a4_46 : decode cJ6_bitCount_0f7a4 46 = .ok (.iadd, 1) := da_1950.2.2.2.2.2.2.2.1
theorem dJ6_bitCount_0f7a4_47 : decode cJ6_bitCount_0f7a4 47 = .ok (.istore_n 0, 1) := da_1950.2.2.2.2.2.2.2.2.1
theorem dJ6_bitCount_0f7a4_48 : decode cJ6_bitCount_0f7a4 48 = .ok (.iload_n 0, 1) := da_1950.2.2.2.2.2.2.2.2.2
theorem da_1960 : (decode cJ6_bitCount_0f7a4 49 = .ok (.bipush 63, 2)) ∧ (decode cJ6_bitCount_0f7a4 51 = .ok (.iand, 1)) ∧ (decode cJ6_bitCount_0f7a4 52 = .ok (.ireturn, 1)) ∧ (decode cJ7_fill_d0a16 0 = .ok (.iconst 0, 1)) ∧ (decode cJ7_fill_d0a16 1 = .ok (.istore_n 3, 1)) ∧ (decode cJ7_fill_d0a16 2 = .ok (.aload_n 0, 1)) ∧ (decode cJ7_fill_d0a16 3 = .ok (.arraylength, 1)) ∧ (decode cJ7_fill_d0a16 4 = .ok (.istore 4, 2)) ∧ (decode cJ7_fill_d0a16 6 = .ok (.iload_n 3, 1)) ∧ (decode cJ7_fill_d0a16 7 = .ok (.iload 4, 2)) := by decide +kernel
theorem dJ6_bitCount_0f7a4_49 : decode cJ6_bitCount_0f7a4 49 = .ok (.bipush 63, 2) := da_1960.1
theorem dJ6_bitCount_0f7a4_51 : decode cJ6_bitCount_0f7a4 51 = .ok (.iand, 1) := da_1960.2.1
theorem dJ6_bitCount_0f7a4_52 : decode cJ6_bitCount_0f7a4 52 = .ok (.ireturn, 1) := da_1960.2.2.1
theorem dJ7_fill_d0a16_0 : decode cJ7_fill_d0a16 0 = .ok (.iconst 0, 1) := da_1960.2.2.2.1
theorem dJ7_fill_d0a16_1 : decode cJ7_fill_d0a16 1 = .ok (.istore_n 3, 1) := da_1960.2.2.2.2.1
theorem dJ7_fill_d0a16_2 : decode cJ7_fill_d0a16 2 = .ok (.aload_n 0, 1) := da_1960.2.2.2.2.2.1
theorem dJ7_fill_d0a16_3 : decode cJ7_fill_d0a16 3 = .ok (.arraylength, 1) := da_1960.2.2.2.2.2.2.1
theorem dJ7_fill_d0a16_4 : decode cJ7_fill_d0a16 4 = .ok (.istore 4, 2) := da_1960.2.2.2.2.2.2.2.1
theorem dJ7_fill_d0a16_6 : decode cJ7_fill_d0a16 6 = .ok (.iload_n 3, 1) := da_1960.2.2.2.2.2.2.2.2.1
theorem dJ7_fill_d0a16_7 : decode cJ7_fill_d0a16 7 = .ok (.iload 4, 2) := da_1960.2.2.2.2.2.2.2.2.2
theorem da_1970 : (decode cJ7_fill_d0a16 9 = .ok (.if_icmp .ge 13, 3)) ∧ (decode cJ7_fill_d0a16 12 = .ok (.aload_n 0, 1)) ∧ (decode cJ7_fill_d0a16 13 = .ok (.iload_n 3, 1)) ∧ (decode cJ7_fill_d0a16 14 = .ok (.lload_n 1, 1)) ∧ (decode cJ7_fill_d0a16 15 = .ok (.lastore, 1)) ∧ (decode cJ7_fill_d0a16 16 = .ok (.iinc 3 1, 3)) ∧ (decode cJ7_fill_d0a16 19 = .ok (.goto (-13), 3)) ∧ (decode cJ7_fill_d0a16 22 = .ok (.return_, 1)) ∧ (decode cJ7_fill_53178 0 = .ok (.iconst 0, 1)) ∧ (decode cJ7_fill_53178 1 = .ok (.istore_n 2, 1)) := by decide +kernel
theorem dJ7_fill_d0a16_9 : decode cJ7_fill_d0a16 9 = .ok (.if_icmp .ge 13, 3) := da_1970.1
theorem dJ7_fill_d0a16_12 : decode cJ7_fill_d0a16 12 = .ok (.aload_n 0, 1) := da_1970.2.1
theorem dJ7_fill_d0a16_13 : decode cJ7_fill_d0a16 13 = .ok (.iload_n 3, 1) := da_1970.2.2.1
theorem dJ7_fill_d0a16_14 : decode cJ7_fill_d0a16 14 = .ok (.lload_n 1, 1) := da_1970.2.2.2.1
theorem dJ7_fill_d0a16_15 : decode cJ7_fill_d0a16 15 = .ok (.lastore, 1) := da_1970.2.2.2.2.1
theorem dJ7_fill_d0a16_16 : decode cJ7_fill_d0a16 16 = .ok (.iinc 3 1, 3) := da_1970.2.2.2.2.2.1
theorem dJ7_fill_d0a16_19 : decode cJ7_fill_d0a16 19 = .ok (.goto (-13), 3) := da_1970.2.2.2.2.2.2.1
theorem dJ7_fill_d0a16_22 : decode cJ7_fill_d0a16 22 = .ok (.return_, 1) := da_1970.2.2.2.2.2.2.2.1
theorem dJ7_fill_53178_0 : decode cJ7_fill_53178 0 = .ok (.iconst 0, 1) := da_1970.2.2.2.2.2.2.2.2.1
theorem dJ7_fill_53178_1 : decode cJ7_fill_53178 1 = .ok (.istore_n 2, 1) := da_1970.2.2.2.2.2.2.2.2.2
theorem da_1980 : (decode cJ7_fill_53178 2 = .ok (.aload_n 0, 1)) ∧ (decode cJ7_fill_53178 3 = .ok (.arraylength, 1)) ∧ (decode cJ7_fill_53178 4 = .ok (.istore_n 3, 1)) ∧ (decode cJ7_fill_53178 5 = .ok (.iload_n 2, 1)) ∧ (decode cJ7_fill_53178 6 = .ok (.iload_n 3, 1)) ∧ (decode cJ7_fill_53178 7 = .ok (.if_icmp .ge 13, 3)) ∧ (decode cJ7_fill_53178 10 = .ok (.aload_n 0, 1)) ∧ (decode cJ7_fill_53178 11 = .ok (.iload_n 2, 1)) ∧ (decode cJ7_fill_53178 12 = .ok (.iload_n 1, 1)) ∧ (decode cJ7_fill_53178 13 = .ok (.iastore, 1)) := by decide +kernel
theorem dJ7_fill_53178_2 : decode cJ7_fill_53178 2 = .ok (.aload_n 0, 1) := da_1980.1
theorem dJ7_fill_53178_3 : decode cJ7_fill_53178 3 = .ok (.arraylength, 1) := da_1980.2.1
theorem dJ7_fill_53178_4 : decode cJ7_fill_53178 4 = .ok (.istore_n 3, 1) := da_1980.2.2.1
theorem dJ7_fill_53178_5 : decode cJ7_fill_53178 5 = .ok (.iload_n 2, 1) := da_1980.2.2.2.1
theorem dJ7_fill_53178_6 : decode cJ7_fill_53178 6 = .ok (.iload_n 3, 1) := da_1980.2.2.2.2.1
theorem dJ7_fill_53178_7 : decode cJ7_fill_53178 7 = .ok (.if_icmp .ge 13, 3) := da_1980.2.2.2.2.2.1
theorem dJ7_fill_53178_10 : decode cJ7_fill_53178 10 = .ok (.aload_n 0, 1) := da_1980.2.2.2.2.2.2.1
theorem dJ7_fill_53178_11 : decode cJ7_fill_53178 11 = .ok (.iload_n 2, 1) := da_1980.2.2.2.2.2.2.2.1
theorem dJ7_fill_53178_12 : decode cJ7_fill_53178 12 = .ok (.iload_n 1, 1) := da_1980.2.2.2.2.2.2.2.2.1
theorem dJ7_fill_53178_13 : decode cJ7_fill_53178 13 = .ok (.iastore, 1) := da_1980.2.2.2.2.2.2.2.2.2
theorem da_1990 : (decode cJ7_fill_53178 14 = .ok (.iinc 2 1, 3)) ∧ (decode cJ7_fill_53178 17 = .ok (.goto (-12), 3)) ∧ (decode cJ7_fill_53178 20 = .ok (.return_, 1)) ∧ (decode cJ9_max_7cf53 0 = .ok (.iload_n 0, 1)) ∧ (decode cJ9_max_7cf53 1 = .ok (.iload_n 1, 1)) ∧ (decode cJ9_max_7cf53 2 = .ok (.if_icmp .lt 7, 3)) ∧ (decode cJ9_max_7cf53 5 = .ok (.iload_n 0, 1)) ∧ (decode cJ9_max_7cf53 6 = .ok (.goto 4, 3)) ∧ (decode cJ9_max_7cf53 9 = .ok (.iload_n 1, 1)) ∧ (decode cJ9_max_7cf53 10 = .ok (.ireturn, 1)) := by decide +kernel
theorem dJ7_fill_53178_14 : decode cJ7_fill_53178 14 = .ok (.iinc 2 1, 3) := da_1990.1
theorem dJ7_fill_53178_17 : decode cJ7_fill_53178 17 = .ok (.goto (-12), 3) := da_1990.2.1
theorem dJ7_fill_53178_20 : decode cJ7_fill_53178 20 = .ok (.return_, 1) := da_1990.2.2.1
theorem dJ9_max_7cf53_0 : decode cJ9_max_7cf53 0 = .ok (.iload_n 0, 1) := da_1990.2.2.2.1
theorem dJ9_max_7cf53_1 : decode cJ9_max_7cf53 1 = .ok (.iload_n 1, 1) := da_1990.2.2.2.2.1
theorem dJ9_max_7cf53_2 : decode cJ9_max_7cf53 2 = .ok (.if_icmp .lt 7, 3) := da_1990.2.2.2.2.2.1
theorem dJ9_max_7cf53_5 : decode cJ9_max_7cf53 5 = .ok (.iload_n 0, 1) := da_1990.2.2.2.2.2.2.1
theorem dJ9_max_7cf53_6 : decode cJ9_max_7cf53 6 = .ok (.goto 4, 3) := da_1990.2.2.2.2.2.2.2.1
theorem dJ9_max_7cf53_9 : decode cJ9_max_7cf53 9 = .ok (.iload_n 1, 1) := da_1990.2.2.2.2.2.2.2.2.1
theorem dJ9_max_7cf53_10 : decode cJ9_max_7cf53 10 = .ok (.ireturn, 1) := da_1990.2.2.2.2.2.2.2.2.2
theorem da_2000 : (decode cJ9_min_7cf53 0 = .ok (.iload_n 0, 1)) ∧ (decode cJ9_min_7cf53 1 = .ok (.iload_n 1, 1)) ∧ (decode cJ9_min_7cf53 2 = .ok (.if_icmp .gt 7, 3)) ∧ (decode cJ9_min_7cf53 5 = .ok (.iload_n 0, 1)) ∧ (decode cJ9_min_7cf53 6 = .ok (.goto 4, 3)) ∧ (decode cJ9_min_7cf53 9 = .ok (.iload_n 1, 1)) ∧ (decode cJ9_min_7cf53 10 = .ok (.ireturn, 1)) := by decide +kernel
theorem dJ9_min_7cf53_0 : decode cJ9_min_7cf53 0 = .ok (.iload_n 0, 1) := da_2000.1
theorem dJ9_min_7cf53_1 : decode cJ9_min_7cf53 1 = .ok (.iload_n 1, 1) := da_2000.2.1
theorem dJ9_min_7cf53_2 : decode cJ9_min_7cf53 2 = .ok (.if_icmp .gt 7, 3) := da_2000.2.2.1
theorem dJ9_min_7cf53_5 : decode cJ9_min_7cf53 5 = .ok (.iload_n 0, 1) := da_2000.2.2.2.1
theorem dJ9_min_7cf53_6 : decode cJ9_min_7cf53 6 = .ok (.goto 4, 3) := da_2000.2.2.2.2.1
theorem dJ9_min_7cf53_9 : decode cJ9_min_7cf53 9 = .ok (.iload_n 1, 1) := da_2000.2.2.2.2.2.1
theorem dJ9_min_7cf53_10 : decode cJ9_min_7cf53 10 = .ok (.ireturn, 1) := da_2000.2.2.2.2.2.2
