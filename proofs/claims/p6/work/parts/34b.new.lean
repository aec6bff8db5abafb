def wn_X2 (a : tq_La) (h : Nat) (u : Nat → Nat) : va_W := ((h, .inr (2, [.ref (u 0), .ref (u 1), .ref (u 2), .int 0, .int 0, .int 0])) :: (((u 0), .inl (a.2.2 4, 5, .inr (.inr (.inr (.inr (va_up (va_up (va_up (va_up (va_up (fun _ => none) 0 (some (u 3))) 1 (some (u 9))) 2 (some (u 15))) 3 (some (u 21))) 4 (some (u 27)))))))) :: (((u 1), .inl (a.2.2 0, 4, .inl (fun _ => 0))) :: (((u 2), .inl (a.2.2 0, 4, .inl (fun _ => 0))) :: (wn_X1 a (u 3) (fun i => u (4 + i)) ++ (wn_X1 a (u 9) (fun i => u (10 + i)) ++ (wn_X1 a (u 15) (fun i => u (16 + i)) ++ (wn_X1 a (u 21) (fun i => u (22 + i)) ++ (wn_X1 a (u 27) (fun i => u (28 + i)) ++ [])))))))))
set_option maxRecDepth 100000 in
set_option maxHeartbeats 8000000 in
theorem ok_X2_init : tq_MI yX2_init cX2_init 2 2 33 223 2 [.null, .null, .null, .int 0, .int 0, .int 0] wn_X2 := by
  refine tq_mkC (by decide) rfl (by decide) ?_
  intro X h C hQ hR
  refine gn_aload_n (pc := 0) C dX2_init_0 0 rfl rfl ?_
  refine gn_objInit (pc := 1) C (by decide) (tq_mem (tb_1 (List.mem_of_getElem? (i := 163) rfl)) rfl) (tq_mem (tb_1 (List.mem_of_getElem? (i := 23) rfl)) rfl) (tq_mem (tb_1 (List.mem_of_getElem? (i := 24) rfl)) rfl) dX2_init_1 ?_
  refine gn_aload_n (pc := 4) C dX2_init_4 0 rfl rfl ?_
  refine gn_iconst (pc := 5) (v := 5) C dX2_init_5 (by decide) ?_
  refine gn_anew (pc := 6) C dX2_init_6 (tq_mem (tb_1 (List.mem_of_getElem? (i := 164) rfl)) rfl) (tq_AOX1 C) 4 rfl 5 (by decide) (by decide) (by decide) (by rw [hQ]; decide) (by rw [hQ]; decide) (fun q1 => ?_)
  refine gn_putF (pc := 9) C dX2_init_9 rfl itX2 tyX2 tyX2_ok nmX2 0 (by decide) (tq_mem (tb_1 (List.mem_of_getElem? (i := 167) rfl)) rfl) rfl rfl (ty := tyX2 0) (by decide +kernel) rfl rfl (Nat.le_of_ble_eq_true rfl) [.ref q1, .null, .null, .int 0, .int 0, .int 0] rfl ?_
  refine gn_aload_n (pc := 12) C dX2_init_12 0 rfl rfl ?_
  refine gn_iconst (pc := 13) (v := 4) C dX2_init_13 (by decide) ?_
  refine gn_newa (pc := 14) C dX2_init_14 rfl (tq_mem (tb_1 (List.mem_of_getElem? (i := 96) rfl)) rfl) 0 rfl 4 (4, .inl (fun _ => 0)) (fun cA => rfl) (by decide) (by decide) (by decide) (by rw [hQ]; decide) (by rw [hQ]; decide) (fun q2 => ?_)
  refine gn_putF (pc := 16) C dX2_init_16 rfl itX2 tyX2 tyX2_ok nmX2 1 (by decide) (tq_mem (tb_1 (List.mem_of_getElem? (i := 168) rfl)) rfl) rfl rfl (ty := tyX2 1) (by decide +kernel) rfl rfl (Nat.le_of_ble_eq_true rfl) [.ref q1, .ref q2, .null, .int 0, .int 0, .int 0] rfl ?_
  refine gn_aload_n (pc := 19) C dX2_init_19 0 rfl rfl ?_
  refine gn_iconst (pc := 20) (v := 4) C dX2_init_20 (by decide) ?_
  refine gn_newa (pc := 21) C dX2_init_21 rfl (tq_mem (tb_1 (List.mem_of_getElem? (i := 96) rfl)) rfl) 0 rfl 4 (4, .inl (fun _ => 0)) (fun cA => rfl) (by decide) (by decide) (by decide) (by rw [hQ]; decide) (by rw [hQ]; decide) (fun q3 => ?_)
  refine gn_putF (pc := 23) C dX2_init_23 rfl itX2 tyX2 tyX2_ok nmX2 2 (by decide) (tq_mem (tb_1 (List.mem_of_getElem? (i := 169) rfl)) rfl) rfl rfl (ty := tyX2 2) (by decide +kernel) rfl rfl (Nat.le_of_ble_eq_true rfl) [.ref q1, .ref q2, .ref q3, .int 0, .int 0, .int 0] rfl ?_
  refine gn_iconst (pc := 26) (v := 0) C dX2_init_26 (by decide) ?_
  refine gn_istore_n (pc := 27) C dX2_init_27 [(1, .int 0), (0, .ref h)] rfl (by decide) rfl ?_
  refine gn_iload_n (pc := 28) C dX2_init_28 0 rfl rfl ?_
  refine gn_iconst (pc := 29) (v := 4) C dX2_init_29 (by decide) ?_
  refine gn_ic_gt (pc := 30) C dX2_init_30 52 (by decide) (fun c9 => absurd c9 (by decide)) (fun c9 => ?_)
  refine gn_aload_n (pc := 33) C dX2_init_33 1 rfl rfl ?_
  refine gn_get (pc := 34) C dX2_init_34 rfl itX2 0 (by decide) (tq_mem (tb_1 (List.mem_of_getElem? (i := 167) rfl)) rfl) rfl ?_
  refine gn_iload_n (pc := 37) C dX2_init_37 0 rfl rfl ?_
  refine gn_new (pc := 38) (ci := 1) C dX2_init_38 (tq_mem (tb_1 (List.mem_of_getElem? (i := 164) rfl)) rfl) (tq_mem (tb_1 (List.mem_of_getElem? (i := 26) rfl)) rfl) (tq_mem (tb_1 (List.mem_of_getElem? (i := 2) rfl)) rfl) itX1 tyX1 tyX1_ok rfl [.null, .null, .null, .null, .null, .int 0, .int 0, .int 0, .int 0, .int 0, .int 0, .int 0, .int 0, .int 0] df_X1 (by rw [hQ]; decide) (by rw [hQ]; decide) (fun q4 => ?_)
  refine gn_dup (pc := 41) C dX2_init_41 rfl ?_
  refine gn_initN (pc := 42) C (ok_X1_init) (tq_Nn C ("TearsQueue$Rows", 24, "TearsQueue$Evening") (List.mem_of_getElem? (i := 5) rfl)) (tq_mem (tb_1 (List.mem_of_getElem? (i := 2) rfl)) rfl) (tq_mem (tb_1 (List.mem_of_getElem? (i := 28) rfl)) rfl) (tq_mem (tb_1 (List.mem_of_getElem? (i := 29) rfl)) rfl) (by decide +kernel) rfl (by decide) rfl (by rw [hQ]; decide) (by rw [hQ]; decide) dX2_init_42 (fun u5 => ?_)
  refine gn_aast (pc := 45) C dX2_init_45 1 4 rfl rfl rfl rfl (vp_in_nI (n := 0) (by decide) (by decide)) ((h, .inr (2, [.ref q1, .ref q2, .ref q3, .int 0, .int 0, .int 0])) :: ((q1, .inl ((tq_la X).2.2 4, 5, .inr (.inr (.inr (.inr (va_up (fun _ => none) 0 (some q4))))))) :: ((q2, .inl ((tq_la X).2.2 0, 4, .inl (fun _ => 0))) :: ((q3, .inl ((tq_la X).2.2 0, 4, .inl (fun _ => 0))) :: ((wn_X1 (tq_la X) q4 u5 ++ [])))))) rfl ?_
  refine gn_iinc (pc := 46) (j := 0) (v := 1) C dX2_init_46 [(1, .int 1), (0, .ref h)] rfl (by decide) (by decide) rfl ?_
  refine gn_goto (pc := 49) C dX2_init_49 28 (by decide) ?_
  refine gn_iload_n (pc := 28) C dX2_init_28 0 rfl rfl ?_
  refine gn_iconst (pc := 29) (v := 4) C dX2_init_29 (by decide) ?_
  refine gn_ic_gt (pc := 30) C dX2_init_30 52 (by decide) (fun c9 => absurd c9 (by decide)) (fun c9 => ?_)
  refine gn_aload_n (pc := 33) C dX2_init_33 1 rfl rfl ?_
  refine gn_get (pc := 34) C dX2_init_34 rfl itX2 0 (by decide) (tq_mem (tb_1 (List.mem_of_getElem? (i := 167) rfl)) rfl) rfl ?_
  refine gn_iload_n (pc := 37) C dX2_init_37 0 rfl rfl ?_
  refine gn_new (pc := 38) (ci := 1) C dX2_init_38 (tq_mem (tb_1 (List.mem_of_getElem? (i := 164) rfl)) rfl) (tq_mem (tb_1 (List.mem_of_getElem? (i := 26) rfl)) rfl) (tq_mem (tb_1 (List.mem_of_getElem? (i := 2) rfl)) rfl) itX1 tyX1 tyX1_ok rfl [.null, .null, .null, .null, .null, .int 0, .int 0, .int 0, .int 0, .int 0, .int 0, .int 0, .int 0, .int 0] df_X1 (by rw [hQ]; decide) (by rw [hQ]; decide) (fun q6 => ?_)
  refine gn_dup (pc := 41) C dX2_init_41 rfl ?_
  refine gn_initN (pc := 42) C (ok_X1_init) (tq_Nn C ("TearsQueue$Rows", 24, "TearsQueue$Evening") (List.mem_of_getElem? (i := 5) rfl)) (tq_mem (tb_1 (List.mem_of_getElem? (i := 2) rfl)) rfl) (tq_mem (tb_1 (List.mem_of_getElem? (i := 28) rfl)) rfl) (tq_mem (tb_1 (List.mem_of_getElem? (i := 29) rfl)) rfl) (by decide +kernel) rfl (by decide) rfl (by rw [hQ]; decide) (by rw [hQ]; decide) dX2_init_42 (fun u7 => ?_)
  refine gn_aast (pc := 45) C dX2_init_45 1 10 rfl rfl rfl rfl (vp_in_nI (n := 1) (by decide) (by decide)) ((h, .inr (2, [.ref q1, .ref q2, .ref q3, .int 0, .int 0, .int 0])) :: ((q1, .inl ((tq_la X).2.2 4, 5, .inr (.inr (.inr (.inr (va_up (va_up (fun _ => none) 0 (some q4)) 1 (some q6))))))) :: ((q2, .inl ((tq_la X).2.2 0, 4, .inl (fun _ => 0))) :: ((q3, .inl ((tq_la X).2.2 0, 4, .inl (fun _ => 0))) :: ((wn_X1 (tq_la X) q4 u5 ++ ((wn_X1 (tq_la X) q6 u7 ++ [])))))))) rfl ?_
  refine gn_iinc (pc := 46) (j := 0) (v := 2) C dX2_init_46 [(1, .int 2), (0, .ref h)] rfl (by decide) (by decide) rfl ?_
  refine gn_goto (pc := 49) C dX2_init_49 28 (by decide) ?_
  refine gn_iload_n (pc := 28) C dX2_init_28 0 rfl rfl ?_
  refine gn_iconst (pc := 29) (v := 4) C dX2_init_29 (by decide) ?_
  refine gn_ic_gt (pc := 30) C dX2_init_30 52 (by decide) (fun c9 => absurd c9 (by decide)) (fun c9 => ?_)
  refine gn_aload_n (pc := 33) C dX2_init_33 1 rfl rfl ?_
  refine gn_get (pc := 34) C dX2_init_34 rfl itX2 0 (by decide) (tq_mem (tb_1 (List.mem_of_getElem? (i := 167) rfl)) rfl) rfl ?_
  refine gn_iload_n (pc := 37) C dX2_init_37 0 rfl rfl ?_
  refine gn_new (pc := 38) (ci := 1) C dX2_init_38 (tq_mem (tb_1 (List.mem_of_getElem? (i := 164) rfl)) rfl) (tq_mem (tb_1 (List.mem_of_getElem? (i := 26) rfl)) rfl) (tq_mem (tb_1 (List.mem_of_getElem? (i := 2) rfl)) rfl) itX1 tyX1 tyX1_ok rfl [.null, .null, .null, .null, .null, .int 0, .int 0, .int 0, .int 0, .int 0, .int 0, .int 0, .int 0, .int 0] df_X1 (by rw [hQ]; decide) (by rw [hQ]; decide) (fun q8 => ?_)
  refine gn_dup (pc := 41) C dX2_init_41 rfl ?_
  refine gn_initN (pc := 42) C (ok_X1_init) (tq_Nn C ("TearsQueue$Rows", 24, "TearsQueue$Evening") (List.mem_of_getElem? (i := 5) rfl)) (tq_mem (tb_1 (List.mem_of_getElem? (i := 2) rfl)) rfl) (tq_mem (tb_1 (List.mem_of_getElem? (i := 28) rfl)) rfl) (tq_mem (tb_1 (List.mem_of_getElem? (i := 29) rfl)) rfl) (by decide +kernel) rfl (by decide) rfl (by rw [hQ]; decide) (by rw [hQ]; decide) dX2_init_42 (fun u9 => ?_)
  refine gn_aast (pc := 45) C dX2_init_45 1 16 rfl rfl rfl rfl (vp_in_nI (n := 2) (by decide) (by decide)) ((h, .inr (2, [.ref q1, .ref q2, .ref q3, .int 0, .int 0, .int 0])) :: ((q1, .inl ((tq_la X).2.2 4, 5, .inr (.inr (.inr (.inr (va_up (va_up (va_up (fun _ => none) 0 (some q4)) 1 (some q6)) 2 (some q8))))))) :: ((q2, .inl ((tq_la X).2.2 0, 4, .inl (fun _ => 0))) :: ((q3, .inl ((tq_la X).2.2 0, 4, .inl (fun _ => 0))) :: ((wn_X1 (tq_la X) q4 u5 ++ ((wn_X1 (tq_la X) q6 u7 ++ ((wn_X1 (tq_la X) q8 u9 ++ [])))))))))) rfl ?_
  refine gn_iinc (pc := 46) (j := 0) (v := 3) C dX2_init_46 [(1, .int 3), (0, .ref h)] rfl (by decide) (by decide) rfl ?_
  refine gn_goto (pc := 49) C dX2_init_49 28 (by decide) ?_
  refine gn_iload_n (pc := 28) C dX2_init_28 0 rfl rfl ?_
  refine gn_iconst (pc := 29) (v := 4) C dX2_init_29 (by decide) ?_
  refine gn_ic_gt (pc := 30) C dX2_init_30 52 (by decide) (fun c9 => absurd c9 (by decide)) (fun c9 => ?_)
  refine gn_aload_n (pc := 33) C dX2_init_33 1 rfl rfl ?_
  refine gn_get (pc := 34) C dX2_init_34 rfl itX2 0 (by decide) (tq_mem (tb_1 (List.mem_of_getElem? (i := 167) rfl)) rfl) rfl ?_
  refine gn_iload_n (pc := 37) C dX2_init_37 0 rfl rfl ?_
  refine gn_new (pc := 38) (ci := 1) C dX2_init_38 (tq_mem (tb_1 (List.mem_of_getElem? (i := 164) rfl)) rfl) (tq_mem (tb_1 (List.mem_of_getElem? (i := 26) rfl)) rfl) (tq_mem (tb_1 (List.mem_of_getElem? (i := 2) rfl)) rfl) itX1 tyX1 tyX1_ok rfl [.null, .null, .null, .null, .null, .int 0, .int 0, .int 0, .int 0, .int 0, .int 0, .int 0, .int 0, .int 0] df_X1 (by rw [hQ]; decide) (by rw [hQ]; decide) (fun q10 => ?_)
  refine gn_dup (pc := 41) C dX2_init_41 rfl ?_
  refine gn_initN (pc := 42) C (ok_X1_init) (tq_Nn C ("TearsQueue$Rows", 24, "TearsQueue$Evening") (List.mem_of_getElem? (i := 5) rfl)) (tq_mem (tb_1 (List.mem_of_getElem? (i := 2) rfl)) rfl) (tq_mem (tb_1 (List.mem_of_getElem? (i := 28) rfl)) rfl) (tq_mem (tb_1 (List.mem_of_getElem? (i := 29) rfl)) rfl) (by decide +kernel) rfl (by decide) rfl (by rw [hQ]; decide) (by rw [hQ]; decide) dX2_init_42 (fun u11 => ?_)
  refine gn_aast (pc := 45) C dX2_init_45 1 22 rfl rfl rfl rfl (vp_in_nI (n := 3) (by decide) (by decide)) ((h, .inr (2, [.ref q1, .ref q2, .ref q3, .int 0, .int 0, .int 0])) :: ((q1, .inl ((tq_la X).2.2 4, 5, .inr (.inr (.inr (.inr (va_up (va_up (va_up (va_up (fun _ => none) 0 (some q4)) 1 (some q6)) 2 (some q8)) 3 (some q10))))))) :: ((q2, .inl ((tq_la X).2.2 0, 4, .inl (fun _ => 0))) :: ((q3, .inl ((tq_la X).2.2 0, 4, .inl (fun _ => 0))) :: ((wn_X1 (tq_la X) q4 u5 ++ ((wn_X1 (tq_la X) q6 u7 ++ ((wn_X1 (tq_la X) q8 u9 ++ ((wn_X1 (tq_la X) q10 u11 ++ [])))))))))))) rfl ?_
  refine gn_iinc (pc := 46) (j := 0) (v := 4) C dX2_init_46 [(1, .int 4), (0, .ref h)] rfl (by decide) (by decide) rfl ?_
  refine gn_goto (pc := 49) C dX2_init_49 28 (by decide) ?_
  refine gn_iload_n (pc := 28) C dX2_init_28 0 rfl rfl ?_
  refine gn_iconst (pc := 29) (v := 4) C dX2_init_29 (by decide) ?_
  refine gn_ic_gt (pc := 30) C dX2_init_30 52 (by decide) (fun c9 => absurd c9 (by decide)) (fun c9 => ?_)
  refine gn_aload_n (pc := 33) C dX2_init_33 1 rfl rfl ?_
  refine gn_get (pc := 34) C dX2_init_34 rfl itX2 0 (by decide) (tq_mem (tb_1 (List.mem_of_getElem? (i := 167) rfl)) rfl) rfl ?_
  refine gn_iload_n (pc := 37) C dX2_init_37 0 rfl rfl ?_
  refine gn_new (pc := 38) (ci := 1) C dX2_init_38 (tq_mem (tb_1 (List.mem_of_getElem? (i := 164) rfl)) rfl) (tq_mem (tb_1 (List.mem_of_getElem? (i := 26) rfl)) rfl) (tq_mem (tb_1 (List.mem_of_getElem? (i := 2) rfl)) rfl) itX1 tyX1 tyX1_ok rfl [.null, .null, .null, .null, .null, .int 0, .int 0, .int 0, .int 0, .int 0, .int 0, .int 0, .int 0, .int 0] df_X1 (by rw [hQ]; decide) (by rw [hQ]; decide) (fun q12 => ?_)
  refine gn_dup (pc := 41) C dX2_init_41 rfl ?_
  refine gn_initN (pc := 42) C (ok_X1_init) (tq_Nn C ("TearsQueue$Rows", 24, "TearsQueue$Evening") (List.mem_of_getElem? (i := 5) rfl)) (tq_mem (tb_1 (List.mem_of_getElem? (i := 2) rfl)) rfl) (tq_mem (tb_1 (List.mem_of_getElem? (i := 28) rfl)) rfl) (tq_mem (tb_1 (List.mem_of_getElem? (i := 29) rfl)) rfl) (by decide +kernel) rfl (by decide) rfl (by rw [hQ]; decide) (by rw [hQ]; decide) dX2_init_42 (fun u13 => ?_)
  refine gn_aast (pc := 45) C dX2_init_45 1 28 rfl rfl rfl rfl (vp_in_nI (n := 4) (by decide) (by decide)) ((h, .inr (2, [.ref q1, .ref q2, .ref q3, .int 0, .int 0, .int 0])) :: ((q1, .inl ((tq_la X).2.2 4, 5, .inr (.inr (.inr (.inr (va_up (va_up (va_up (va_up (va_up (fun _ => none) 0 (some q4)) 1 (some q6)) 2 (some q8)) 3 (some q10)) 4 (some q12))))))) :: ((q2, .inl ((tq_la X).2.2 0, 4, .inl (fun _ => 0))) :: ((q3, .inl ((tq_la X).2.2 0, 4, .inl (fun _ => 0))) :: ((wn_X1 (tq_la X) q4 u5 ++ ((wn_X1 (tq_la X) q6 u7 ++ ((wn_X1 (tq_la X) q8 u9 ++ ((wn_X1 (tq_la X) q10 u11 ++ ((wn_X1 (tq_la X) q12 u13 ++ [])))))))))))))) rfl ?_
  refine gn_iinc (pc := 46) (j := 0) (v := 5) C dX2_init_46 [(1, .int 5), (0, .ref h)] rfl (by decide) (by decide) rfl ?_
  refine gn_goto (pc := 49) C dX2_init_49 28 (by decide) ?_
  refine gn_iload_n (pc := 28) C dX2_init_28 0 rfl rfl ?_
  refine gn_iconst (pc := 29) (v := 4) C dX2_init_29 (by decide) ?_
  refine gn_ic_gt (pc := 30) C dX2_init_30 52 (by decide) (fun c9 => ?_) (fun c9 => absurd (by decide) c9)
  exact hR (fun i => if i = 0 then q1 else if i = 1 then q2 else if i = 2 then q3 else if i = 3 then q4 else if i < 9 then u5 (i - 4) else if i = 9 then q6 else if i < 15 then u7 (i - 10) else if i = 15 then q8 else if i < 21 then u9 (i - 16) else if i = 21 then q10 else if i < 27 then u11 (i - 22) else if i = 27 then q12 else if i < 33 then u13 (i - 28) else 0) _ _ dX2_init_52
