def wn_X6 (a : tq_La) (h : Nat) (u : Nat → Nat) : va_W := ((h, .inr (6, [.ref (u 0), .ref (u 6), .ref (u 12), .ref (u 20), .ref (u 23), .ref (u 57), .ref (u 114), .ref (u 115), .ref (u 116), .ref (u 117), .int 0])) :: (wn_X1 a (u 0) (fun i => u (1 + i)) ++ (wn_X1 a (u 6) (fun i => u (7 + i)) ++ (wn_X5 a (u 12) (fun i => u (13 + i)) ++ (wn_X4 a (u 20) (fun i => u (21 + i)) ++ (wn_X2 a (u 23) (fun i => u (24 + i)) ++ (wn_X0 a (u 57) (fun i => u (58 + i)) ++ (((u 114), .inl (a.2.2 4, 2, .inr (.inr (.inr (.inr (va_up (va_up (fun _ => none) 0 (some (u 118))) 1 (some (u 124)))))))) :: (((u 115), .inl (a.2.2 2, 2, .inl (fun _ => 0))) :: (((u 116), .inl (a.2.2 5, 4, .inr (.inr (.inr (.inr (va_up (va_up (va_up (va_up (fun _ => none) 0 (some (u 130))) 1 (some (u 132))) 2 (some (u 134))) 3 (some (u 136)))))))) :: (((u 117), .inl (a.2.2 0, 21, .inl (fun _ => 0))) :: (wn_X1 a (u 118) (fun i => u (119 + i)) ++ (wn_X1 a (u 124) (fun i => u (125 + i)) ++ (wn_X3 a (u 130) (fun i => u (131 + i)) ++ (wn_X3 a (u 132) (fun i => u (133 + i)) ++ (wn_X3 a (u 134) (fun i => u (135 + i)) ++ (wn_X3 a (u 136) (fun i => u (137 + i)) ++ [])))))))))))))))))
set_option maxRecDepth 100000 in
set_option maxHeartbeats 8000000 in
theorem ok_X6_init : tq_MI yX6_init cX6_init 2 3 138 1224 6 [.null, .null, .null, .null, .null, .null, .null, .null, .null, .null, .int 0] wn_X6 := by
  refine tq_mkC (by decide) rfl (by decide) ?_
  intro X h C hQ hR
  refine gn_aload_n (pc := 0) C dX6_init_0 0 rfl rfl ?_
  refine gn_objInit (pc := 1) C (by decide) (tq_mem (by decide +kernel) rfl) (tq_mem (by decide +kernel) rfl) (tq_mem (by decide +kernel) rfl) dX6_init_1 ?_
  refine gn_aload_n (pc := 4) C dX6_init_4 0 rfl rfl ?_
  refine gn_new (pc := 5) (ci := 1) C dX6_init_5 (tq_mem (by decide +kernel) rfl) (tq_mem (by decide +kernel) rfl) (tq_mem (by decide +kernel) rfl) itX1 tyX1 tyX1_ok rfl [.null, .null, .null, .null, .null, .int 0, .int 0, .int 0, .int 0, .int 0, .int 0, .int 0, .int 0, .int 0] df_X1 (by rw [hQ]; decide) (by rw [hQ]; decide) (fun q1 => ?_)
  refine gn_dup (pc := 8) C dX6_init_8 rfl ?_
  refine gn_initN (pc := 9) C (ok_X1_init) ((tq_Nn C) _ (List.mem_of_getElem? (i := 3) rfl)) (tq_mem (by decide +kernel) rfl) (tq_mem (by decide +kernel) rfl) (tq_mem (by decide +kernel) rfl) (by decide +kernel) rfl (by decide) rfl (by rw [hQ]; decide) (by rw [hQ]; decide) dX6_init_9 (fun u2 => ?_)
  refine gn_putF (pc := 12) C dX6_init_12 rfl itX6 tyX6 tyX6_ok nmX6 0 (by decide) (tq_mem (by decide +kernel) rfl) rfl rfl (ty := tyX6 0) (by decide +kernel) rfl rfl (Nat.le_of_ble_eq_true rfl) [.ref q1, .null, .null, .null, .null, .null, .null, .null, .null, .null, .int 0] rfl ?_
  refine gn_aload_n (pc := 15) C dX6_init_15 0 rfl rfl ?_
  refine gn_new (pc := 16) (ci := 1) C dX6_init_16 (tq_mem (by decide +kernel) rfl) (tq_mem (by decide +kernel) rfl) (tq_mem (by decide +kernel) rfl) itX1 tyX1 tyX1_ok rfl [.null, .null, .null, .null, .null, .int 0, .int 0, .int 0, .int 0, .int 0, .int 0, .int 0, .int 0, .int 0] df_X1 (by rw [hQ]; decide) (by rw [hQ]; decide) (fun q3 => ?_)
  refine gn_dup (pc := 19) C dX6_init_19 rfl ?_
  refine gn_initN (pc := 20) C (ok_X1_init) ((tq_Nn C) _ (List.mem_of_getElem? (i := 3) rfl)) (tq_mem (by decide +kernel) rfl) (tq_mem (by decide +kernel) rfl) (tq_mem (by decide +kernel) rfl) (by decide +kernel) rfl (by decide) rfl (by rw [hQ]; decide) (by rw [hQ]; decide) dX6_init_20 (fun u4 => ?_)
  refine gn_putF (pc := 23) C dX6_init_23 rfl itX6 tyX6 tyX6_ok nmX6 1 (by decide) (tq_mem (by decide +kernel) rfl) rfl rfl (ty := tyX6 1) (by decide +kernel) rfl rfl (Nat.le_of_ble_eq_true rfl) [.ref q1, .ref q3, .null, .null, .null, .null, .null, .null, .null, .null, .int 0] rfl ?_
  refine gn_aload_n (pc := 26) C dX6_init_26 0 rfl rfl ?_
  refine gn_new (pc := 27) (ci := 5) C dX6_init_27 (tq_mem (by decide +kernel) rfl) (tq_mem (by decide +kernel) rfl) (tq_mem (by decide +kernel) rfl) itX5 tyX5 tyX5_ok rfl [.null, .null, .int 0, .int 0, .int 0, .int 0, .int 0, .int 0, .int 0, .int 0] df_X5 (by rw [hQ]; decide) (by rw [hQ]; decide) (fun q5 => ?_)
  refine gn_dup (pc := 30) C dX6_init_30 rfl ?_
  refine gn_initN (pc := 31) C (ok_X5_init) ((tq_Nn C) _ (List.mem_of_getElem? (i := 0) rfl)) (tq_mem (by decide +kernel) rfl) (tq_mem (by decide +kernel) rfl) (tq_mem (by decide +kernel) rfl) (by decide +kernel) rfl (by decide) rfl (by rw [hQ]; decide) (by rw [hQ]; decide) dX6_init_31 (fun u6 => ?_)
  refine gn_putF (pc := 34) C dX6_init_34 rfl itX6 tyX6 tyX6_ok nmX6 2 (by decide) (tq_mem (by decide +kernel) rfl) rfl rfl (ty := tyX6 2) (by decide +kernel) rfl rfl (Nat.le_of_ble_eq_true rfl) [.ref q1, .ref q3, .ref q5, .null, .null, .null, .null, .null, .null, .null, .int 0] rfl ?_
  refine gn_aload_n (pc := 37) C dX6_init_37 0 rfl rfl ?_
  refine gn_new (pc := 38) (ci := 4) C dX6_init_38 (tq_mem (by decide +kernel) rfl) (tq_mem (by decide +kernel) rfl) (tq_mem (by decide +kernel) rfl) itX4 tyX4 tyX4_ok rfl [.null, .null, .int 0] df_X4 (by rw [hQ]; decide) (by rw [hQ]; decide) (fun q7 => ?_)
  refine gn_dup (pc := 41) C dX6_init_41 rfl ?_
  refine gn_initN (pc := 42) C (ok_X4_init) ((tq_Nn C) _ (List.mem_of_getElem? (i := 1) rfl)) (tq_mem (by decide +kernel) rfl) (tq_mem (by decide +kernel) rfl) (tq_mem (by decide +kernel) rfl) (by decide +kernel) rfl (by decide) rfl (by rw [hQ]; decide) (by rw [hQ]; decide) dX6_init_42 (fun u8 => ?_)
  refine gn_putF (pc := 45) C dX6_init_45 rfl itX6 tyX6 tyX6_ok nmX6 3 (by decide) (tq_mem (by decide +kernel) rfl) rfl rfl (ty := tyX6 3) (by decide +kernel) rfl rfl (Nat.le_of_ble_eq_true rfl) [.ref q1, .ref q3, .ref q5, .ref q7, .null, .null, .null, .null, .null, .null, .int 0] rfl ?_
  refine gn_aload_n (pc := 48) C dX6_init_48 0 rfl rfl ?_
  refine gn_new (pc := 49) (ci := 2) C dX6_init_49 (tq_mem (by decide +kernel) rfl) (tq_mem (by decide +kernel) rfl) (tq_mem (by decide +kernel) rfl) itX2 tyX2 tyX2_ok rfl [.null, .null, .null, .int 0, .int 0, .int 0] df_X2 (by rw [hQ]; decide) (by rw [hQ]; decide) (fun q9 => ?_)
  refine gn_dup (pc := 52) C dX6_init_52 rfl ?_
  refine gn_init (pc := 53) C (ok_X2_init) (tq_mem (by decide +kernel) rfl) (tq_mem (by decide +kernel) rfl) (tq_mem (by decide +kernel) rfl) (tq_mem (by decide +kernel) rfl) (by decide +kernel) rfl (by decide) rfl (by rw [hQ]; decide) (by rw [hQ]; decide) dX6_init_53 (fun u10 => ?_)
  refine gn_putF (pc := 56) C dX6_init_56 rfl itX6 tyX6 tyX6_ok nmX6 4 (by decide) (tq_mem (by decide +kernel) rfl) rfl rfl (ty := tyX6 4) (by decide +kernel) rfl rfl (Nat.le_of_ble_eq_true rfl) [.ref q1, .ref q3, .ref q5, .ref q7, .ref q9, .null, .null, .null, .null, .null, .int 0] rfl ?_
  refine gn_aload_n (pc := 59) C dX6_init_59 0 rfl rfl ?_
  refine gn_new (pc := 60) (ci := 0) C dX6_init_60 (tq_mem (by decide +kernel) rfl) (tq_mem (by decide +kernel) rfl) (tq_mem (by decide +kernel) rfl) itX0 tyX0 tyX0_ok rfl [.null, .null, .long 0] df_X0 (by rw [hQ]; decide) (by rw [hQ]; decide) (fun q11 => ?_)
  refine gn_dup (pc := 63) C dX6_init_63 rfl ?_
  refine gn_init (pc := 64) C (ok_X0_init) (tq_mem (by decide +kernel) rfl) (tq_mem (by decide +kernel) rfl) (tq_mem (by decide +kernel) rfl) (tq_mem (by decide +kernel) rfl) (by decide +kernel) rfl (by decide) rfl (by rw [hQ]; decide) (by rw [hQ]; decide) dX6_init_64 (fun u12 => ?_)
  refine gn_putF (pc := 67) C dX6_init_67 rfl itX6 tyX6 tyX6_ok nmX6 5 (by decide) (tq_mem (by decide +kernel) rfl) rfl rfl (ty := tyX6 5) (by decide +kernel) rfl rfl (Nat.le_of_ble_eq_true rfl) [.ref q1, .ref q3, .ref q5, .ref q7, .ref q9, .ref q11, .null, .null, .null, .null, .int 0] rfl ?_
  refine gn_aload_n (pc := 70) C dX6_init_70 0 rfl rfl ?_
  refine gn_iconst (pc := 71) (v := 2) C dX6_init_71 (by decide) ?_
  refine gn_anew (pc := 72) C dX6_init_72 (tq_mem (by decide +kernel) rfl) (tq_AOX1 C) 4 rfl 2 (by decide) (by decide) (by decide) (by rw [hQ]; decide) (by rw [hQ]; decide) (fun q13 => ?_)
  refine gn_putF (pc := 75) C dX6_init_75 rfl itX6 tyX6 tyX6_ok nmX6 6 (by decide) (tq_mem (by decide +kernel) rfl) rfl rfl (ty := tyX6 6) (by decide +kernel) rfl rfl (Nat.le_of_ble_eq_true rfl) [.ref q1, .ref q3, .ref q5, .ref q7, .ref q9, .ref q11, .ref q13, .null, .null, .null, .int 0] rfl ?_
  refine gn_aload_n (pc := 78) C dX6_init_78 0 rfl rfl ?_
  refine gn_iconst (pc := 79) (v := 2) C dX6_init_79 (by decide) ?_
  refine gn_newa (pc := 80) C dX6_init_80 rfl (tq_mem (by decide +kernel) rfl) 2 rfl 2 (2, .inl (fun _ => 0)) (fun cA => rfl) (by decide) (by decide) (by decide) (by rw [hQ]; decide) (by rw [hQ]; decide) (fun q14 => ?_)
  refine gn_putF (pc := 82) C dX6_init_82 rfl itX6 tyX6 tyX6_ok nmX6 7 (by decide) (tq_mem (by decide +kernel) rfl) rfl rfl (ty := tyX6 7) (by decide +kernel) rfl rfl (Nat.le_of_ble_eq_true rfl) [.ref q1, .ref q3, .ref q5, .ref q7, .ref q9, .ref q11, .ref q13, .ref q14, .null, .null, .int 0] rfl ?_
  refine gn_aload_n (pc := 85) C dX6_init_85 0 rfl rfl ?_
  refine gn_iconst (pc := 86) (v := 4) C dX6_init_86 (by decide) ?_
  refine gn_anew (pc := 87) C dX6_init_87 (tq_mem (by decide +kernel) rfl) (tq_AOX3 C) 5 rfl 4 (by decide) (by decide) (by decide) (by rw [hQ]; decide) (by rw [hQ]; decide) (fun q15 => ?_)
  refine gn_putF (pc := 90) C dX6_init_90 rfl itX6 tyX6 tyX6_ok nmX6 8 (by decide) (tq_mem (by decide +kernel) rfl) rfl rfl (ty := tyX6 8) (by decide +kernel) rfl rfl (Nat.le_of_ble_eq_true rfl) [.ref q1, .ref q3, .ref q5, .ref q7, .ref q9, .ref q11, .ref q13, .ref q14, .ref q15, .null, .int 0] rfl ?_
  refine gn_aload_n (pc := 93) C dX6_init_93 0 rfl rfl ?_
  refine gn_bipush (pc := 94) (v := 21) C dX6_init_94 (by decide) ?_
  refine gn_newa (pc := 96) C dX6_init_96 rfl (tq_mem (by decide +kernel) rfl) 0 rfl 21 (21, .inl (fun _ => 0)) (fun cA => rfl) (by decide) (by decide) (by decide) (by rw [hQ]; decide) (by rw [hQ]; decide) (fun q16 => ?_)
  refine gn_putF (pc := 98) C dX6_init_98 rfl itX6 tyX6 tyX6_ok nmX6 9 (by decide) (tq_mem (by decide +kernel) rfl) rfl rfl (ty := tyX6 9) (by decide +kernel) rfl rfl (Nat.le_of_ble_eq_true rfl) [.ref q1, .ref q3, .ref q5, .ref q7, .ref q9, .ref q11, .ref q13, .ref q14, .ref q15, .ref q16, .int 0] rfl ?_
  refine gn_iconst (pc := 101) (v := 0) C dX6_init_101 (by decide) ?_
  refine gn_istore_n (pc := 102) C dX6_init_102 [(1, .int 0), (0, .ref h)] rfl (by decide) rfl ?_
  refine gn_iload_n (pc := 103) C dX6_init_103 0 rfl rfl ?_
  refine gn_iconst (pc := 104) (v := 2) C dX6_init_104 (by decide) ?_
  refine gn_ic_ge (pc := 105) C dX6_init_105 127 (by decide) (fun c9 => absurd c9 (by decide)) (fun c9 => ?_)
  refine gn_aload_n (pc := 108) C dX6_init_108 1 rfl rfl ?_
  refine gn_get (pc := 109) C dX6_init_109 rfl itX6 6 (by decide) (tq_mem (by decide +kernel) rfl) rfl ?_
  refine gn_iload_n (pc := 112) C dX6_init_112 0 rfl rfl ?_
  refine gn_new (pc := 113) (ci := 1) C dX6_init_113 (tq_mem (by decide +kernel) rfl) (tq_mem (by decide +kernel) rfl) (tq_mem (by decide +kernel) rfl) itX1 tyX1 tyX1_ok rfl [.null, .null, .null, .null, .null, .int 0, .int 0, .int 0, .int 0, .int 0, .int 0, .int 0, .int 0, .int 0] df_X1 (by rw [hQ]; decide) (by rw [hQ]; decide) (fun q17 => ?_)
  refine gn_dup (pc := 116) C dX6_init_116 rfl ?_
  refine gn_initN (pc := 117) C (ok_X1_init) ((tq_Nn C) _ (List.mem_of_getElem? (i := 3) rfl)) (tq_mem (by decide +kernel) rfl) (tq_mem (by decide +kernel) rfl) (tq_mem (by decide +kernel) rfl) (by decide +kernel) rfl (by decide) rfl (by rw [hQ]; decide) (by rw [hQ]; decide) dX6_init_117 (fun u18 => ?_)
  refine gn_aast (pc := 120) C dX6_init_120 115 119 rfl rfl rfl rfl (vp_in_nI (n := 0) (by decide) (by decide)) ((h, .inr (6, [.ref q1, .ref q3, .ref q5, .ref q7, .ref q9, .ref q11, .ref q13, .ref q14, .ref q15, .ref q16, .int 0])) :: ((wn_X1 (tq_la X) q1 u2 ++ ((wn_X1 (tq_la X) q3 u4 ++ ((wn_X5 (tq_la X) q5 u6 ++ ((wn_X4 (tq_la X) q7 u8 ++ ((wn_X2 (tq_la X) q9 u10 ++ ((wn_X0 (tq_la X) q11 u12 ++ ((q13, .inl ((tq_la X).2.2 4, 2, .inr (.inr (.inr (.inr (va_up (fun _ => none) 0 (some q17))))))) :: ((q14, .inl ((tq_la X).2.2 2, 2, .inl (fun _ => 0))) :: ((q15, .inl ((tq_la X).2.2 5, 4, .inr (.inr (.inr (.inr (fun _ => none)))))) :: ((q16, .inl ((tq_la X).2.2 0, 21, .inl (fun _ => 0))) :: ((wn_X1 (tq_la X) q17 u18 ++ []))))))))))))))))))) rfl ?_
  refine gn_iinc (pc := 121) (j := 0) (v := 1) C dX6_init_121 [(1, .int 1), (0, .ref h)] rfl (by decide) (by decide) rfl ?_
  refine gn_goto (pc := 124) C dX6_init_124 103 (by decide) ?_
  refine gn_iload_n (pc := 103) C dX6_init_103 0 rfl rfl ?_
  refine gn_iconst (pc := 104) (v := 2) C dX6_init_104 (by decide) ?_
  refine gn_ic_ge (pc := 105) C dX6_init_105 127 (by decide) (fun c9 => absurd c9 (by decide)) (fun c9 => ?_)
  refine gn_aload_n (pc := 108) C dX6_init_108 1 rfl rfl ?_
  refine gn_get (pc := 109) C dX6_init_109 rfl itX6 6 (by decide) (tq_mem (by decide +kernel) rfl) rfl ?_
  refine gn_iload_n (pc := 112) C dX6_init_112 0 rfl rfl ?_
  refine gn_new (pc := 113) (ci := 1) C dX6_init_113 (tq_mem (by decide +kernel) rfl) (tq_mem (by decide +kernel) rfl) (tq_mem (by decide +kernel) rfl) itX1 tyX1 tyX1_ok rfl [.null, .null, .null, .null, .null, .int 0, .int 0, .int 0, .int 0, .int 0, .int 0, .int 0, .int 0, .int 0] df_X1 (by rw [hQ]; decide) (by rw [hQ]; decide) (fun q19 => ?_)
  refine gn_dup (pc := 116) C dX6_init_116 rfl ?_
  refine gn_initN (pc := 117) C (ok_X1_init) ((tq_Nn C) _ (List.mem_of_getElem? (i := 3) rfl)) (tq_mem (by decide +kernel) rfl) (tq_mem (by decide +kernel) rfl) (tq_mem (by decide +kernel) rfl) (by decide +kernel) rfl (by decide) rfl (by rw [hQ]; decide) (by rw [hQ]; decide) dX6_init_117 (fun u20 => ?_)
  refine gn_aast (pc := 120) C dX6_init_120 115 125 rfl rfl rfl rfl (vp_in_nI (n := 1) (by decide) (by decide)) ((h, .inr (6, [.ref q1, .ref q3, .ref q5, .ref q7, .ref q9, .ref q11, .ref q13, .ref q14, .ref q15, .ref q16, .int 0])) :: ((wn_X1 (tq_la X) q1 u2 ++ ((wn_X1 (tq_la X) q3 u4 ++ ((wn_X5 (tq_la X) q5 u6 ++ ((wn_X4 (tq_la X) q7 u8 ++ ((wn_X2 (tq_la X) q9 u10 ++ ((wn_X0 (tq_la X) q11 u12 ++ ((q13, .inl ((tq_la X).2.2 4, 2, .inr (.inr (.inr (.inr (va_up (va_up (fun _ => none) 0 (some q17)) 1 (some q19))))))) :: ((q14, .inl ((tq_la X).2.2 2, 2, .inl (fun _ => 0))) :: ((q15, .inl ((tq_la X).2.2 5, 4, .inr (.inr (.inr (.inr (fun _ => none)))))) :: ((q16, .inl ((tq_la X).2.2 0, 21, .inl (fun _ => 0))) :: ((wn_X1 (tq_la X) q17 u18 ++ ((wn_X1 (tq_la X) q19 u20 ++ []))))))))))))))))))))) rfl ?_
  refine gn_iinc (pc := 121) (j := 0) (v := 2) C dX6_init_121 [(1, .int 2), (0, .ref h)] rfl (by decide) (by decide) rfl ?_
  refine gn_goto (pc := 124) C dX6_init_124 103 (by decide) ?_
  refine gn_iload_n (pc := 103) C dX6_init_103 0 rfl rfl ?_
  refine gn_iconst (pc := 104) (v := 2) C dX6_init_104 (by decide) ?_
  refine gn_ic_ge (pc := 105) C dX6_init_105 127 (by decide) (fun c9 => ?_) (fun c9 => absurd (by decide) c9)
  refine gn_iconst (pc := 127) (v := 0) C dX6_init_127 (by decide) ?_
  refine gn_istore_n (pc := 128) C dX6_init_128 [(1, .int 0), (0, .ref h)] rfl (by decide) rfl ?_
  refine gn_iload_n (pc := 129) C dX6_init_129 0 rfl rfl ?_
  refine gn_iconst (pc := 130) (v := 4) C dX6_init_130 (by decide) ?_
  refine gn_ic_ge (pc := 131) C dX6_init_131 153 (by decide) (fun c9 => absurd c9 (by decide)) (fun c9 => ?_)
  refine gn_aload_n (pc := 134) C dX6_init_134 1 rfl rfl ?_
  refine gn_get (pc := 135) C dX6_init_135 rfl itX6 8 (by decide) (tq_mem (by decide +kernel) rfl) rfl ?_
  refine gn_iload_n (pc := 138) C dX6_init_138 0 rfl rfl ?_
  refine gn_new (pc := 139) (ci := 3) C dX6_init_139 (tq_mem (by decide +kernel) rfl) (tq_mem (by decide +kernel) rfl) (tq_mem (by decide +kernel) rfl) itX3 tyX3 tyX3_ok rfl [.null, .int 0, .int 0, .int 0] df_X3 (by rw [hQ]; decide) (by rw [hQ]; decide) (fun q21 => ?_)
  refine gn_dup (pc := 142) C dX6_init_142 rfl ?_
  refine gn_initN (pc := 143) C (ok_X3_init) ((tq_Nn C) _ (List.mem_of_getElem? (i := 2) rfl)) (tq_mem (by decide +kernel) rfl) (tq_mem (by decide +kernel) rfl) (tq_mem (by decide +kernel) rfl) (by decide +kernel) rfl (by decide) rfl (by rw [hQ]; decide) (by rw [hQ]; decide) dX6_init_143 (fun u22 => ?_)
  refine gn_aast (pc := 146) C dX6_init_146 117 131 rfl rfl rfl rfl (vp_in_nI (n := 0) (by decide) (by decide)) ((h, .inr (6, [.ref q1, .ref q3, .ref q5, .ref q7, .ref q9, .ref q11, .ref q13, .ref q14, .ref q15, .ref q16, .int 0])) :: ((wn_X1 (tq_la X) q1 u2 ++ ((wn_X1 (tq_la X) q3 u4 ++ ((wn_X5 (tq_la X) q5 u6 ++ ((wn_X4 (tq_la X) q7 u8 ++ ((wn_X2 (tq_la X) q9 u10 ++ ((wn_X0 (tq_la X) q11 u12 ++ ((q13, .inl ((tq_la X).2.2 4, 2, .inr (.inr (.inr (.inr (va_up (va_up (fun _ => none) 0 (some q17)) 1 (some q19))))))) :: ((q14, .inl ((tq_la X).2.2 2, 2, .inl (fun _ => 0))) :: ((q15, .inl ((tq_la X).2.2 5, 4, .inr (.inr (.inr (.inr (va_up (fun _ => none) 0 (some q21))))))) :: ((q16, .inl ((tq_la X).2.2 0, 21, .inl (fun _ => 0))) :: ((wn_X1 (tq_la X) q17 u18 ++ ((wn_X1 (tq_la X) q19 u20 ++ ((wn_X3 (tq_la X) q21 u22 ++ []))))))))))))))))))))))) rfl ?_
  refine gn_iinc (pc := 147) (j := 0) (v := 1) C dX6_init_147 [(1, .int 1), (0, .ref h)] rfl (by decide) (by decide) rfl ?_
  refine gn_goto (pc := 150) C dX6_init_150 129 (by decide) ?_
  refine gn_iload_n (pc := 129) C dX6_init_129 0 rfl rfl ?_
  refine gn_iconst (pc := 130) (v := 4) C dX6_init_130 (by decide) ?_
  refine gn_ic_ge (pc := 131) C dX6_init_131 153 (by decide) (fun c9 => absurd c9 (by decide)) (fun c9 => ?_)
  refine gn_aload_n (pc := 134) C dX6_init_134 1 rfl rfl ?_
  refine gn_get (pc := 135) C dX6_init_135 rfl itX6 8 (by decide) (tq_mem (by decide +kernel) rfl) rfl ?_
  refine gn_iload_n (pc := 138) C dX6_init_138 0 rfl rfl ?_
  refine gn_new (pc := 139) (ci := 3) C dX6_init_139 (tq_mem (by decide +kernel) rfl) (tq_mem (by decide +kernel) rfl) (tq_mem (by decide +kernel) rfl) itX3 tyX3 tyX3_ok rfl [.null, .int 0, .int 0, .int 0] df_X3 (by rw [hQ]; decide) (by rw [hQ]; decide) (fun q23 => ?_)
  refine gn_dup (pc := 142) C dX6_init_142 rfl ?_
  refine gn_initN (pc := 143) C (ok_X3_init) ((tq_Nn C) _ (List.mem_of_getElem? (i := 2) rfl)) (tq_mem (by decide +kernel) rfl) (tq_mem (by decide +kernel) rfl) (tq_mem (by decide +kernel) rfl) (by decide +kernel) rfl (by decide) rfl (by rw [hQ]; decide) (by rw [hQ]; decide) dX6_init_143 (fun u24 => ?_)
  refine gn_aast (pc := 146) C dX6_init_146 117 133 rfl rfl rfl rfl (vp_in_nI (n := 1) (by decide) (by decide)) ((h, .inr (6, [.ref q1, .ref q3, .ref q5, .ref q7, .ref q9, .ref q11, .ref q13, .ref q14, .ref q15, .ref q16, .int 0])) :: ((wn_X1 (tq_la X) q1 u2 ++ ((wn_X1 (tq_la X) q3 u4 ++ ((wn_X5 (tq_la X) q5 u6 ++ ((wn_X4 (tq_la X) q7 u8 ++ ((wn_X2 (tq_la X) q9 u10 ++ ((wn_X0 (tq_la X) q11 u12 ++ ((q13, .inl ((tq_la X).2.2 4, 2, .inr (.inr (.inr (.inr (va_up (va_up (fun _ => none) 0 (some q17)) 1 (some q19))))))) :: ((q14, .inl ((tq_la X).2.2 2, 2, .inl (fun _ => 0))) :: ((q15, .inl ((tq_la X).2.2 5, 4, .inr (.inr (.inr (.inr (va_up (va_up (fun _ => none) 0 (some q21)) 1 (some q23))))))) :: ((q16, .inl ((tq_la X).2.2 0, 21, .inl (fun _ => 0))) :: ((wn_X1 (tq_la X) q17 u18 ++ ((wn_X1 (tq_la X) q19 u20 ++ ((wn_X3 (tq_la X) q21 u22 ++ ((wn_X3 (tq_la X) q23 u24 ++ []))))))))))))))))))))))))) rfl ?_
  refine gn_iinc (pc := 147) (j := 0) (v := 2) C dX6_init_147 [(1, .int 2), (0, .ref h)] rfl (by decide) (by decide) rfl ?_
  refine gn_goto (pc := 150) C dX6_init_150 129 (by decide) ?_
  refine gn_iload_n (pc := 129) C dX6_init_129 0 rfl rfl ?_
  refine gn_iconst (pc := 130) (v := 4) C dX6_init_130 (by decide) ?_
  refine gn_ic_ge (pc := 131) C dX6_init_131 153 (by decide) (fun c9 => absurd c9 (by decide)) (fun c9 => ?_)
  refine gn_aload_n (pc := 134) C dX6_init_134 1 rfl rfl ?_
  refine gn_get (pc := 135) C dX6_init_135 rfl itX6 8 (by decide) (tq_mem (by decide +kernel) rfl) rfl ?_
  refine gn_iload_n (pc := 138) C dX6_init_138 0 rfl rfl ?_
  refine gn_new (pc := 139) (ci := 3) C dX6_init_139 (tq_mem (by decide +kernel) rfl) (tq_mem (by decide +kernel) rfl) (tq_mem (by decide +kernel) rfl) itX3 tyX3 tyX3_ok rfl [.null, .int 0, .int 0, .int 0] df_X3 (by rw [hQ]; decide) (by rw [hQ]; decide) (fun q25 => ?_)
  refine gn_dup (pc := 142) C dX6_init_142 rfl ?_
  refine gn_initN (pc := 143) C (ok_X3_init) ((tq_Nn C) _ (List.mem_of_getElem? (i := 2) rfl)) (tq_mem (by decide +kernel) rfl) (tq_mem (by decide +kernel) rfl) (tq_mem (by decide +kernel) rfl) (by decide +kernel) rfl (by decide) rfl (by rw [hQ]; decide) (by rw [hQ]; decide) dX6_init_143 (fun u26 => ?_)
  refine gn_aast (pc := 146) C dX6_init_146 117 135 rfl rfl rfl rfl (vp_in_nI (n := 2) (by decide) (by decide)) ((h, .inr (6, [.ref q1, .ref q3, .ref q5, .ref q7, .ref q9, .ref q11, .ref q13, .ref q14, .ref q15, .ref q16, .int 0])) :: ((wn_X1 (tq_la X) q1 u2 ++ ((wn_X1 (tq_la X) q3 u4 ++ ((wn_X5 (tq_la X) q5 u6 ++ ((wn_X4 (tq_la X) q7 u8 ++ ((wn_X2 (tq_la X) q9 u10 ++ ((wn_X0 (tq_la X) q11 u12 ++ ((q13, .inl ((tq_la X).2.2 4, 2, .inr (.inr (.inr (.inr (va_up (va_up (fun _ => none) 0 (some q17)) 1 (some q19))))))) :: ((q14, .inl ((tq_la X).2.2 2, 2, .inl (fun _ => 0))) :: ((q15, .inl ((tq_la X).2.2 5, 4, .inr (.inr (.inr (.inr (va_up (va_up (va_up (fun _ => none) 0 (some q21)) 1 (some q23)) 2 (some q25))))))) :: ((q16, .inl ((tq_la X).2.2 0, 21, .inl (fun _ => 0))) :: ((wn_X1 (tq_la X) q17 u18 ++ ((wn_X1 (tq_la X) q19 u20 ++ ((wn_X3 (tq_la X) q21 u22 ++ ((wn_X3 (tq_la X) q23 u24 ++ ((wn_X3 (tq_la X) q25 u26 ++ []))))))))))))))))))))))))))) rfl ?_
  refine gn_iinc (pc := 147) (j := 0) (v := 3) C dX6_init_147 [(1, .int 3), (0, .ref h)] rfl (by decide) (by decide) rfl ?_
  refine gn_goto (pc := 150) C dX6_init_150 129 (by decide) ?_
  refine gn_iload_n (pc := 129) C dX6_init_129 0 rfl rfl ?_
  refine gn_iconst (pc := 130) (v := 4) C dX6_init_130 (by decide) ?_
  refine gn_ic_ge (pc := 131) C dX6_init_131 153 (by decide) (fun c9 => absurd c9 (by decide)) (fun c9 => ?_)
  refine gn_aload_n (pc := 134) C dX6_init_134 1 rfl rfl ?_
  refine gn_get (pc := 135) C dX6_init_135 rfl itX6 8 (by decide) (tq_mem (by decide +kernel) rfl) rfl ?_
  refine gn_iload_n (pc := 138) C dX6_init_138 0 rfl rfl ?_
  refine gn_new (pc := 139) (ci := 3) C dX6_init_139 (tq_mem (by decide +kernel) rfl) (tq_mem (by decide +kernel) rfl) (tq_mem (by decide +kernel) rfl) itX3 tyX3 tyX3_ok rfl [.null, .int 0, .int 0, .int 0] df_X3 (by rw [hQ]; decide) (by rw [hQ]; decide) (fun q27 => ?_)
  refine gn_dup (pc := 142) C dX6_init_142 rfl ?_
  refine gn_initN (pc := 143) C (ok_X3_init) ((tq_Nn C) _ (List.mem_of_getElem? (i := 2) rfl)) (tq_mem (by decide +kernel) rfl) (tq_mem (by decide +kernel) rfl) (tq_mem (by decide +kernel) rfl) (by decide +kernel) rfl (by decide) rfl (by rw [hQ]; decide) (by rw [hQ]; decide) dX6_init_143 (fun u28 => ?_)
  refine gn_aast (pc := 146) C dX6_init_146 117 137 rfl rfl rfl rfl (vp_in_nI (n := 3) (by decide) (by decide)) ((h, .inr (6, [.ref q1, .ref q3, .ref q5, .ref q7, .ref q9, .ref q11, .ref q13, .ref q14, .ref q15, .ref q16, .int 0])) :: ((wn_X1 (tq_la X) q1 u2 ++ ((wn_X1 (tq_la X) q3 u4 ++ ((wn_X5 (tq_la X) q5 u6 ++ ((wn_X4 (tq_la X) q7 u8 ++ ((wn_X2 (tq_la X) q9 u10 ++ ((wn_X0 (tq_la X) q11 u12 ++ ((q13, .inl ((tq_la X).2.2 4, 2, .inr (.inr (.inr (.inr (va_up (va_up (fun _ => none) 0 (some q17)) 1 (some q19))))))) :: ((q14, .inl ((tq_la X).2.2 2, 2, .inl (fun _ => 0))) :: ((q15, .inl ((tq_la X).2.2 5, 4, .inr (.inr (.inr (.inr (va_up (va_up (va_up (va_up (fun _ => none) 0 (some q21)) 1 (some q23)) 2 (some q25)) 3 (some q27))))))) :: ((q16, .inl ((tq_la X).2.2 0, 21, .inl (fun _ => 0))) :: ((wn_X1 (tq_la X) q17 u18 ++ ((wn_X1 (tq_la X) q19 u20 ++ ((wn_X3 (tq_la X) q21 u22 ++ ((wn_X3 (tq_la X) q23 u24 ++ ((wn_X3 (tq_la X) q25 u26 ++ ((wn_X3 (tq_la X) q27 u28 ++ []))))))))))))))))))))))))))))) rfl ?_
  refine gn_iinc (pc := 147) (j := 0) (v := 4) C dX6_init_147 [(1, .int 4), (0, .ref h)] rfl (by decide) (by decide) rfl ?_
  refine gn_goto (pc := 150) C dX6_init_150 129 (by decide) ?_
  refine gn_iload_n (pc := 129) C dX6_init_129 0 rfl rfl ?_
  refine gn_iconst (pc := 130) (v := 4) C dX6_init_130 (by decide) ?_
  refine gn_ic_ge (pc := 131) C dX6_init_131 153 (by decide) (fun c9 => ?_) (fun c9 => absurd (by decide) c9)
  exact hR (fun i => if i = 0 then q1 else if i < 6 then u2 (i - 1) else if i = 6 then q3 else if i < 12 then u4 (i - 7) else if i = 12 then q5 else if i < 20 then u6 (i - 13) else if i = 20 then q7 else if i < 23 then u8 (i - 21) else if i = 23 then q9 else if i < 57 then u10 (i - 24) else if i = 57 then q11 else if i < 114 then u12 (i - 58) else if i = 114 then q13 else if i = 115 then q14 else if i = 116 then q15 else if i = 117 then q16 else if i = 118 then q17 else if i < 124 then u18 (i - 119) else if i = 124 then q19 else if i < 130 then u20 (i - 125) else if i = 130 then q21 else if i < 132 then u22 (i - 131) else if i = 132 then q23 else if i < 134 then u24 (i - 133) else if i = 134 then q25 else if i < 136 then u26 (i - 135) else if i = 136 then q27 else if i < 138 then u28 (i - 137) else 0) _ _ dX6_init_153
