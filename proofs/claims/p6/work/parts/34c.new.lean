def wn_X0 (a : tq_La) (h : Nat) (u : Nat → Nat) : va_W := ((h, .inr (0, [.ref (u 0), .ref (u 1), .long 0])) :: (((u 0), .inl (a.2.2 4, 9, .inr (.inr (.inr (.inr (va_up (va_up (va_up (va_up (va_up (va_up (va_up (va_up (va_up (fun _ => none) 0 (some (u 2))) 1 (some (u 8))) 2 (some (u 14))) 3 (some (u 20))) 4 (some (u 26))) 5 (some (u 32))) 6 (some (u 38))) 7 (some (u 44))) 8 (some (u 50)))))))) :: (((u 1), .inl (a.2.2 3, 5, .inr (.inl (fun _ => 0)))) :: (wn_X1 a (u 2) (fun i => u (3 + i)) ++ (wn_X1 a (u 8) (fun i => u (9 + i)) ++ (wn_X1 a (u 14) (fun i => u (15 + i)) ++ (wn_X1 a (u 20) (fun i => u (21 + i)) ++ (wn_X1 a (u 26) (fun i => u (27 + i)) ++ (wn_X1 a (u 32) (fun i => u (33 + i)) ++ (wn_X1 a (u 38) (fun i => u (39 + i)) ++ (wn_X1 a (u 44) (fun i => u (45 + i)) ++ (wn_X1 a (u 50) (fun i => u (51 + i)) ++ []))))))))))))
set_option maxRecDepth 100000 in
set_option maxHeartbeats 8000000 in
theorem ok_X0_init : tq_MI yX0_init cX0_init 2 2 56 392 0 [.null, .null, .long 0] wn_X0 := by
  refine tq_mkC (by decide) rfl (by decide) ?_
  intro X h C hQ hR
  refine gn_aload_n (pc := 0) C dX0_init_0 0 rfl rfl ?_
  refine gn_objInit (pc := 1) C (by decide) (tq_mem (tb_1 (List.mem_of_getElem? (i := 194) rfl)) rfl) (tq_mem (tb_1 (List.mem_of_getElem? (i := 23) rfl)) rfl) (tq_mem (tb_1 (List.mem_of_getElem? (i := 24) rfl)) rfl) dX0_init_1 ?_
  refine gn_aload_n (pc := 4) C dX0_init_4 0 rfl rfl ?_
  refine gn_bipush (pc := 5) (v := 9) C dX0_init_5 (by decide) ?_
  refine gn_anew (pc := 7) C dX0_init_7 (tq_mem (tb_1 (List.mem_of_getElem? (i := 195) rfl)) rfl) (tq_AOX1 C) 4 rfl 9 (by decide) (by decide) (by decide) (by rw [hQ]; decide) (by rw [hQ]; decide) (fun q1 => ?_)
  refine gn_putF (pc := 10) C dX0_init_10 rfl itX0 tyX0 tyX0_ok nmX0 0 (by decide) (tq_mem (tb_1 (List.mem_of_getElem? (i := 197) rfl)) rfl) rfl rfl (ty := tyX0 0) (by decide +kernel) rfl rfl (Nat.le_of_ble_eq_true rfl) [.ref q1, .null, .long 0] rfl ?_
  refine gn_aload_n (pc := 13) C dX0_init_13 0 rfl rfl ?_
  refine gn_iconst (pc := 14) (v := 5) C dX0_init_14 (by decide) ?_
  refine gn_newa (pc := 15) C dX0_init_15 rfl (tq_mem (tb_1 (List.mem_of_getElem? (i := 208) rfl)) rfl) 3 rfl 5 (5, .inr (.inl (fun _ => 0))) (fun cA => rfl) (by decide) (by decide) (by decide) (by rw [hQ]; decide) (by rw [hQ]; decide) (fun q2 => ?_)
  refine gn_putF (pc := 17) C dX0_init_17 rfl itX0 tyX0 tyX0_ok nmX0 1 (by decide) (tq_mem (tb_1 (List.mem_of_getElem? (i := 198) rfl)) rfl) rfl rfl (ty := tyX0 1) (by decide +kernel) rfl rfl (Nat.le_of_ble_eq_true rfl) [.ref q1, .ref q2, .long 0] rfl ?_
  refine gn_iconst (pc := 20) (v := 0) C dX0_init_20 (by decide) ?_
  refine gn_istore_n (pc := 21) C dX0_init_21 [(1, .int 0), (0, .ref h)] rfl (by decide) rfl ?_
  refine gn_iload_n (pc := 22) C dX0_init_22 0 rfl rfl ?_
  refine gn_bipush (pc := 23) (v := 8) C dX0_init_23 (by decide) ?_
  refine gn_ic_gt (pc := 25) C dX0_init_25 47 (by decide) (fun c9 => absurd c9 (by decide)) (fun c9 => ?_)
  refine gn_aload_n (pc := 28) C dX0_init_28 1 rfl rfl ?_
  refine gn_get (pc := 29) C dX0_init_29 rfl itX0 0 (by decide) (tq_mem (tb_1 (List.mem_of_getElem? (i := 197) rfl)) rfl) rfl ?_
  refine gn_iload_n (pc := 32) C dX0_init_32 0 rfl rfl ?_
  refine gn_new (pc := 33) (ci := 1) C dX0_init_33 (tq_mem (tb_1 (List.mem_of_getElem? (i := 195) rfl)) rfl) (tq_mem (tb_1 (List.mem_of_getElem? (i := 26) rfl)) rfl) (tq_mem (tb_1 (List.mem_of_getElem? (i := 2) rfl)) rfl) itX1 tyX1 tyX1_ok rfl [.null, .null, .null, .null, .null, .int 0, .int 0, .int 0, .int 0, .int 0, .int 0, .int 0, .int 0, .int 0] df_X1 (by rw [hQ]; decide) (by rw [hQ]; decide) (fun q3 => ?_)
  refine gn_dup (pc := 36) C dX0_init_36 rfl ?_
  refine gn_initN (pc := 37) C (ok_X1_init) (tq_Nn C ("TearsQueue$Chances", 21, "TearsQueue$Evening") (List.mem_of_getElem? (i := 4) rfl)) (tq_mem (tb_1 (List.mem_of_getElem? (i := 2) rfl)) rfl) (tq_mem (tb_1 (List.mem_of_getElem? (i := 28) rfl)) rfl) (tq_mem (tb_1 (List.mem_of_getElem? (i := 29) rfl)) rfl) (by decide +kernel) rfl (by decide) rfl (by rw [hQ]; decide) (by rw [hQ]; decide) dX0_init_37 (fun u4 => ?_)
  refine gn_aast (pc := 40) C dX0_init_40 1 3 rfl rfl rfl rfl (vp_in_nI (n := 0) (by decide) (by decide)) ((h, .inr (0, [.ref q1, .ref q2, .long 0])) :: ((q1, .inl ((tq_la X).2.2 4, 9, .inr (.inr (.inr (.inr (va_up (fun _ => none) 0 (some q3))))))) :: ((q2, .inl ((tq_la X).2.2 3, 5, .inr (.inl (fun _ => 0)))) :: ((wn_X1 (tq_la X) q3 u4 ++ []))))) rfl ?_
  refine gn_iinc (pc := 41) (j := 0) (v := 1) C dX0_init_41 [(1, .int 1), (0, .ref h)] rfl (by decide) (by decide) rfl ?_
  refine gn_goto (pc := 44) C dX0_init_44 22 (by decide) ?_
  refine gn_iload_n (pc := 22) C dX0_init_22 0 rfl rfl ?_
  refine gn_bipush (pc := 23) (v := 8) C dX0_init_23 (by decide) ?_
  refine gn_ic_gt (pc := 25) C dX0_init_25 47 (by decide) (fun c9 => absurd c9 (by decide)) (fun c9 => ?_)
  refine gn_aload_n (pc := 28) C dX0_init_28 1 rfl rfl ?_
  refine gn_get (pc := 29) C dX0_init_29 rfl itX0 0 (by decide) (tq_mem (tb_1 (List.mem_of_getElem? (i := 197) rfl)) rfl) rfl ?_
  refine gn_iload_n (pc := 32) C dX0_init_32 0 rfl rfl ?_
  refine gn_new (pc := 33) (ci := 1) C dX0_init_33 (tq_mem (tb_1 (List.mem_of_getElem? (i := 195) rfl)) rfl) (tq_mem (tb_1 (List.mem_of_getElem? (i := 26) rfl)) rfl) (tq_mem (tb_1 (List.mem_of_getElem? (i := 2) rfl)) rfl) itX1 tyX1 tyX1_ok rfl [.null, .null, .null, .null, .null, .int 0, .int 0, .int 0, .int 0, .int 0, .int 0, .int 0, .int 0, .int 0] df_X1 (by rw [hQ]; decide) (by rw [hQ]; decide) (fun q5 => ?_)
  refine gn_dup (pc := 36) C dX0_init_36 rfl ?_
  refine gn_initN (pc := 37) C (ok_X1_init) (tq_Nn C ("TearsQueue$Chances", 21, "TearsQueue$Evening") (List.mem_of_getElem? (i := 4) rfl)) (tq_mem (tb_1 (List.mem_of_getElem? (i := 2) rfl)) rfl) (tq_mem (tb_1 (List.mem_of_getElem? (i := 28) rfl)) rfl) (tq_mem (tb_1 (List.mem_of_getElem? (i := 29) rfl)) rfl) (by decide +kernel) rfl (by decide) rfl (by rw [hQ]; decide) (by rw [hQ]; decide) dX0_init_37 (fun u6 => ?_)
  refine gn_aast (pc := 40) C dX0_init_40 1 9 rfl rfl rfl rfl (vp_in_nI (n := 1) (by decide) (by decide)) ((h, .inr (0, [.ref q1, .ref q2, .long 0])) :: ((q1, .inl ((tq_la X).2.2 4, 9, .inr (.inr (.inr (.inr (va_up (va_up (fun _ => none) 0 (some q3)) 1 (some q5))))))) :: ((q2, .inl ((tq_la X).2.2 3, 5, .inr (.inl (fun _ => 0)))) :: ((wn_X1 (tq_la X) q3 u4 ++ ((wn_X1 (tq_la X) q5 u6 ++ []))))))) rfl ?_
  refine gn_iinc (pc := 41) (j := 0) (v := 2) C dX0_init_41 [(1, .int 2), (0, .ref h)] rfl (by decide) (by decide) rfl ?_
  refine gn_goto (pc := 44) C dX0_init_44 22 (by decide) ?_
  refine gn_iload_n (pc := 22) C dX0_init_22 0 rfl rfl ?_
  refine gn_bipush (pc := 23) (v := 8) C dX0_init_23 (by decide) ?_
  refine gn_ic_gt (pc := 25) C dX0_init_25 47 (by decide) (fun c9 => absurd c9 (by decide)) (fun c9 => ?_)
  refine gn_aload_n (pc := 28) C dX0_init_28 1 rfl rfl ?_
  refine gn_get (pc := 29) C dX0_init_29 rfl itX0 0 (by decide) (tq_mem (tb_1 (List.mem_of_getElem? (i := 197) rfl)) rfl) rfl ?_
  refine gn_iload_n (pc := 32) C dX0_init_32 0 rfl rfl ?_
  refine gn_new (pc := 33) (ci := 1) C dX0_init_33 (tq_mem (tb_1 (List.mem_of_getElem? (i := 195) rfl)) rfl) (tq_mem (tb_1 (List.mem_of_getElem? (i := 26) rfl)) rfl) (tq_mem (tb_1 (List.mem_of_getElem? (i := 2) rfl)) rfl) itX1 tyX1 tyX1_ok rfl [.null, .null, .null, .null, .null, .int 0, .int 0, .int 0, .int 0, .int 0, .int 0, .int 0, .int 0, .int 0] df_X1 (by rw [hQ]; decide) (by rw [hQ]; decide) (fun q7 => ?_)
  refine gn_dup (pc := 36) C dX0_init_36 rfl ?_
  refine gn_initN (pc := 37) C (ok_X1_init) (tq_Nn C ("TearsQueue$Chances", 21, "TearsQueue$Evening") (List.mem_of_getElem? (i := 4) rfl)) (tq_mem (tb_1 (List.mem_of_getElem? (i := 2) rfl)) rfl) (tq_mem (tb_1 (List.mem_of_getElem? (i := 28) rfl)) rfl) (tq_mem (tb_1 (List.mem_of_getElem? (i := 29) rfl)) rfl) (by decide +kernel) rfl (by decide) rfl (by rw [hQ]; decide) (by rw [hQ]; decide) dX0_init_37 (fun u8 => ?_)
  refine gn_aast (pc := 40) C dX0_init_40 1 15 rfl rfl rfl rfl (vp_in_nI (n := 2) (by decide) (by decide)) ((h, .inr (0, [.ref q1, .ref q2, .long 0])) :: ((q1, .inl ((tq_la X).2.2 4, 9, .inr (.inr (.inr (.inr (va_up (va_up (va_up (fun _ => none) 0 (some q3)) 1 (some q5)) 2 (some q7))))))) :: ((q2, .inl ((tq_la X).2.2 3, 5, .inr (.inl (fun _ => 0)))) :: ((wn_X1 (tq_la X) q3 u4 ++ ((wn_X1 (tq_la X) q5 u6 ++ ((wn_X1 (tq_la X) q7 u8 ++ []))))))))) rfl ?_
  refine gn_iinc (pc := 41) (j := 0) (v := 3) C dX0_init_41 [(1, .int 3), (0, .ref h)] rfl (by decide) (by decide) rfl ?_
  refine gn_goto (pc := 44) C dX0_init_44 22 (by decide) ?_
  refine gn_iload_n (pc := 22) C dX0_init_22 0 rfl rfl ?_
  refine gn_bipush (pc := 23) (v := 8) C dX0_init_23 (by decide) ?_
  refine gn_ic_gt (pc := 25) C dX0_init_25 47 (by decide) (fun c9 => absurd c9 (by decide)) (fun c9 => ?_)
  refine gn_aload_n (pc := 28) C dX0_init_28 1 rfl rfl ?_
  refine gn_get (pc := 29) C dX0_init_29 rfl itX0 0 (by decide) (tq_mem (tb_1 (List.mem_of_getElem? (i := 197) rfl)) rfl) rfl ?_
  refine gn_iload_n (pc := 32) C dX0_init_32 0 rfl rfl ?_
  refine gn_new (pc := 33) (ci := 1) C dX0_init_33 (tq_mem (tb_1 (List.mem_of_getElem? (i := 195) rfl)) rfl) (tq_mem (tb_1 (List.mem_of_getElem? (i := 26) rfl)) rfl) (tq_mem (tb_1 (List.mem_of_getElem? (i := 2) rfl)) rfl) itX1 tyX1 tyX1_ok rfl [.null, .null, .null, .null, .null, .int 0, .int 0, .int 0, .int 0, .int 0, .int 0, .int 0, .int 0, .int 0] df_X1 (by rw [hQ]; decide) (by rw [hQ]; decide) (fun q9 => ?_)
  refine gn_dup (pc := 36) C dX0_init_36 rfl ?_
  refine gn_initN (pc := 37) C (ok_X1_init) (tq_Nn C ("TearsQueue$Chances", 21, "TearsQueue$Evening") (List.mem_of_getElem? (i := 4) rfl)) (tq_mem (tb_1 (List.mem_of_getElem? (i := 2) rfl)) rfl) (tq_mem (tb_1 (List.mem_of_getElem? (i := 28) rfl)) rfl) (tq_mem (tb_1 (List.mem_of_getElem? (i := 29) rfl)) rfl) (by decide +kernel) rfl (by decide) rfl (by rw [hQ]; decide) (by rw [hQ]; decide) dX0_init_37 (fun u10 => ?_)
  refine gn_aast (pc := 40) C dX0_init_40 1 21 rfl rfl rfl rfl (vp_in_nI (n := 3) (by decide) (by decide)) ((h, .inr (0, [.ref q1, .ref q2, .long 0])) :: ((q1, .inl ((tq_la X).2.2 4, 9, .inr (.inr (.inr (.inr (va_up (va_up (va_up (va_up (fun _ => none) 0 (some q3)) 1 (some q5)) 2 (some q7)) 3 (some q9))))))) :: ((q2, .inl ((tq_la X).2.2 3, 5, .inr (.inl (fun _ => 0)))) :: ((wn_X1 (tq_la X) q3 u4 ++ ((wn_X1 (tq_la X) q5 u6 ++ ((wn_X1 (tq_la X) q7 u8 ++ ((wn_X1 (tq_la X) q9 u10 ++ []))))))))))) rfl ?_
  refine gn_iinc (pc := 41) (j := 0) (v := 4) C dX0_init_41 [(1, .int 4), (0, .ref h)] rfl (by decide) (by decide) rfl ?_
  refine gn_goto (pc := 44) C dX0_init_44 22 (by decide) ?_
  refine gn_iload_n (pc := 22) C dX0_init_22 0 rfl rfl ?_
  refine gn_bipush (pc := 23) (v := 8) C dX0_init_23 (by decide) ?_
  refine gn_ic_gt (pc := 25) C dX0_init_25 47 (by decide) (fun c9 => absurd c9 (by decide)) (fun c9 => ?_)
  refine gn_aload_n (pc := 28) C dX0_init_28 1 rfl rfl ?_
  refine gn_get (pc := 29) C dX0_init_29 rfl itX0 0 (by decide) (tq_mem (tb_1 (List.mem_of_getElem? (i := 197) rfl)) rfl) rfl ?_
  refine gn_iload_n (pc := 32) C dX0_init_32 0 rfl rfl ?_
  refine gn_new (pc := 33) (ci := 1) C dX0_init_33 (tq_mem (tb_1 (List.mem_of_getElem? (i := 195) rfl)) rfl) (tq_mem (tb_1 (List.mem_of_getElem? (i := 26) rfl)) rfl) (tq_mem (tb_1 (List.mem_of_getElem? (i := 2) rfl)) rfl) itX1 tyX1 tyX1_ok rfl [.null, .null, .null, .null, .null, .int 0, .int 0, .int 0, .int 0, .int 0, .int 0, .int 0, .int 0, .int 0] df_X1 (by rw [hQ]; decide) (by rw [hQ]; decide) (fun q11 => ?_)
  refine gn_dup (pc := 36) C dX0_init_36 rfl ?_
  refine gn_initN (pc := 37) C (ok_X1_init) (tq_Nn C ("TearsQueue$Chances", 21, "TearsQueue$Evening") (List.mem_of_getElem? (i := 4) rfl)) (tq_mem (tb_1 (List.mem_of_getElem? (i := 2) rfl)) rfl) (tq_mem (tb_1 (List.mem_of_getElem? (i := 28) rfl)) rfl) (tq_mem (tb_1 (List.mem_of_getElem? (i := 29) rfl)) rfl) (by decide +kernel) rfl (by decide) rfl (by rw [hQ]; decide) (by rw [hQ]; decide) dX0_init_37 (fun u12 => ?_)
  refine gn_aast (pc := 40) C dX0_init_40 1 27 rfl rfl rfl rfl (vp_in_nI (n := 4) (by decide) (by decide)) ((h, .inr (0, [.ref q1, .ref q2, .long 0])) :: ((q1, .inl ((tq_la X).2.2 4, 9, .inr (.inr (.inr (.inr (va_up (va_up (va_up (va_up (va_up (fun _ => none) 0 (some q3)) 1 (some q5)) 2 (some q7)) 3 (some q9)) 4 (some q11))))))) :: ((q2, .inl ((tq_la X).2.2 3, 5, .inr (.inl (fun _ => 0)))) :: ((wn_X1 (tq_la X) q3 u4 ++ ((wn_X1 (tq_la X) q5 u6 ++ ((wn_X1 (tq_la X) q7 u8 ++ ((wn_X1 (tq_la X) q9 u10 ++ ((wn_X1 (tq_la X) q11 u12 ++ []))))))))))))) rfl ?_
  refine gn_iinc (pc := 41) (j := 0) (v := 5) C dX0_init_41 [(1, .int 5), (0, .ref h)] rfl (by decide) (by decide) rfl ?_
  refine gn_goto (pc := 44) C dX0_init_44 22 (by decide) ?_
  refine gn_iload_n (pc := 22) C dX0_init_22 0 rfl rfl ?_
  refine gn_bipush (pc := 23) (v := 8) C dX0_init_23 (by decide) ?_
  refine gn_ic_gt (pc := 25) C dX0_init_25 47 (by decide) (fun c9 => absurd c9 (by decide)) (fun c9 => ?_)
  refine gn_aload_n (pc := 28) C dX0_init_28 1 rfl rfl ?_
  refine gn_get (pc := 29) C dX0_init_29 rfl itX0 0 (by decide) (tq_mem (tb_1 (List.mem_of_getElem? (i := 197) rfl)) rfl) rfl ?_
  refine gn_iload_n (pc := 32) C dX0_init_32 0 rfl rfl ?_
  refine gn_new (pc := 33) (ci := 1) C dX0_init_33 (tq_mem (tb_1 (List.mem_of_getElem? (i := 195) rfl)) rfl) (tq_mem (tb_1 (List.mem_of_getElem? (i := 26) rfl)) rfl) (tq_mem (tb_1 (List.mem_of_getElem? (i := 2) rfl)) rfl) itX1 tyX1 tyX1_ok rfl [.null, .null, .null, .null, .null, .int 0, .int 0, .int 0, .int 0, .int 0, .int 0, .int 0, .int 0, .int 0] df_X1 (by rw [hQ]; decide) (by rw [hQ]; decide) (fun q13 => ?_)
  refine gn_dup (pc := 36) C dX0_init_36 rfl ?_
  refine gn_initN (pc := 37) C (ok_X1_init) (tq_Nn C ("TearsQueue$Chances", 21, "TearsQueue$Evening") (List.mem_of_getElem? (i := 4) rfl)) (tq_mem (tb_1 (List.mem_of_getElem? (i := 2) rfl)) rfl) (tq_mem (tb_1 (List.mem_of_getElem? (i := 28) rfl)) rfl) (tq_mem (tb_1 (List.mem_of_getElem? (i := 29) rfl)) rfl) (by decide +kernel) rfl (by decide) rfl (by rw [hQ]; decide) (by rw [hQ]; decide) dX0_init_37 (fun u14 => ?_)
  refine gn_aast (pc := 40) C dX0_init_40 1 33 rfl rfl rfl rfl (vp_in_nI (n := 5) (by decide) (by decide)) ((h, .inr (0, [.ref q1, .ref q2, .long 0])) :: ((q1, .inl ((tq_la X).2.2 4, 9, .inr (.inr (.inr (.inr (va_up (va_up (va_up (va_up (va_up (va_up (fun _ => none) 0 (some q3)) 1 (some q5)) 2 (some q7)) 3 (some q9)) 4 (some q11)) 5 (some q13))))))) :: ((q2, .inl ((tq_la X).2.2 3, 5, .inr (.inl (fun _ => 0)))) :: ((wn_X1 (tq_la X) q3 u4 ++ ((wn_X1 (tq_la X) q5 u6 ++ ((wn_X1 (tq_la X) q7 u8 ++ ((wn_X1 (tq_la X) q9 u10 ++ ((wn_X1 (tq_la X) q11 u12 ++ ((wn_X1 (tq_la X) q13 u14 ++ []))))))))))))))) rfl ?_
  refine gn_iinc (pc := 41) (j := 0) (v := 6) C dX0_init_41 [(1, .int 6), (0, .ref h)] rfl (by decide) (by decide) rfl ?_
  refine gn_goto (pc := 44) C dX0_init_44 22 (by decide) ?_
  refine gn_iload_n (pc := 22) C dX0_init_22 0 rfl rfl ?_
  refine gn_bipush (pc := 23) (v := 8) C dX0_init_23 (by decide) ?_
  refine gn_ic_gt (pc := 25) C dX0_init_25 47 (by decide) (fun c9 => absurd c9 (by decide)) (fun c9 => ?_)
  refine gn_aload_n (pc := 28) C dX0_init_28 1 rfl rfl ?_
  refine gn_get (pc := 29) C dX0_init_29 rfl itX0 0 (by decide) (tq_mem (tb_1 (List.mem_of_getElem? (i := 197) rfl)) rfl) rfl ?_
  refine gn_iload_n (pc := 32) C dX0_init_32 0 rfl rfl ?_
  refine gn_new (pc := 33) (ci := 1) C dX0_init_33 (tq_mem (tb_1 (List.mem_of_getElem? (i := 195) rfl)) rfl) (tq_mem (tb_1 (List.mem_of_getElem? (i := 26) rfl)) rfl) (tq_mem (tb_1 (List.mem_of_getElem? (i := 2) rfl)) rfl) itX1 tyX1 tyX1_ok rfl [.null, .null, .null, .null, .null, .int 0, .int 0, .int 0, .int 0, .int 0, .int 0, .int 0, .int 0, .int 0] df_X1 (by rw [hQ]; decide) (by rw [hQ]; decide) (fun q15 => ?_)
  refine gn_dup (pc := 36) C dX0_init_36 rfl ?_
  refine gn_initN (pc := 37) C (ok_X1_init) (tq_Nn C ("TearsQueue$Chances", 21, "TearsQueue$Evening") (List.mem_of_getElem? (i := 4) rfl)) (tq_mem (tb_1 (List.mem_of_getElem? (i := 2) rfl)) rfl) (tq_mem (tb_1 (List.mem_of_getElem? (i := 28) rfl)) rfl) (tq_mem (tb_1 (List.mem_of_getElem? (i := 29) rfl)) rfl) (by decide +kernel) rfl (by decide) rfl (by rw [hQ]; decide) (by rw [hQ]; decide) dX0_init_37 (fun u16 => ?_)
  refine gn_aast (pc := 40) C dX0_init_40 1 39 rfl rfl rfl rfl (vp_in_nI (n := 6) (by decide) (by decide)) ((h, .inr (0, [.ref q1, .ref q2, .long 0])) :: ((q1, .inl ((tq_la X).2.2 4, 9, .inr (.inr (.inr (.inr (va_up (va_up (va_up (va_up (va_up (va_up (va_up (fun _ => none) 0 (some q3)) 1 (some q5)) 2 (some q7)) 3 (some q9)) 4 (some q11)) 5 (some q13)) 6 (some q15))))))) :: ((q2, .inl ((tq_la X).2.2 3, 5, .inr (.inl (fun _ => 0)))) :: ((wn_X1 (tq_la X) q3 u4 ++ ((wn_X1 (tq_la X) q5 u6 ++ ((wn_X1 (tq_la X) q7 u8 ++ ((wn_X1 (tq_la X) q9 u10 ++ ((wn_X1 (tq_la X) q11 u12 ++ ((wn_X1 (tq_la X) q13 u14 ++ ((wn_X1 (tq_la X) q15 u16 ++ []))))))))))))))))) rfl ?_
  refine gn_iinc (pc := 41) (j := 0) (v := 7) C dX0_init_41 [(1, .int 7), (0, .ref h)] rfl (by decide) (by decide) rfl ?_
  refine gn_goto (pc := 44) C dX0_init_44 22 (by decide) ?_
  refine gn_iload_n (pc := 22) C dX0_init_22 0 rfl rfl ?_
  refine gn_bipush (pc := 23) (v := 8) C dX0_init_23 (by decide) ?_
  refine gn_ic_gt (pc := 25) C dX0_init_25 47 (by decide) (fun c9 => absurd c9 (by decide)) (fun c9 => ?_)
  refine gn_aload_n (pc := 28) C dX0_init_28 1 rfl rfl ?_
  refine gn_get (pc := 29) C dX0_init_29 rfl itX0 0 (by decide) (tq_mem (tb_1 (List.mem_of_getElem? (i := 197) rfl)) rfl) rfl ?_
  refine gn_iload_n (pc := 32) C dX0_init_32 0 rfl rfl ?_
  refine gn_new (pc := 33) (ci := 1) C dX0_init_33 (tq_mem (tb_1 (List.mem_of_getElem? (i := 195) rfl)) rfl) (tq_mem (tb_1 (List.mem_of_getElem? (i := 26) rfl)) rfl) (tq_mem (tb_1 (List.mem_of_getElem? (i := 2) rfl)) rfl) itX1 tyX1 tyX1_ok rfl [.null, .null, .null, .null, .null, .int 0, .int 0, .int 0, .int 0, .int 0, .int 0, .int 0, .int 0, .int 0] df_X1 (by rw [hQ]; decide) (by rw [hQ]; decide) (fun q17 => ?_)
  refine gn_dup (pc := 36) C dX0_init_36 rfl ?_
  refine gn_initN (pc := 37) C (ok_X1_init) (tq_Nn C ("TearsQueue$Chances", 21, "TearsQueue$Evening") (List.mem_of_getElem? (i := 4) rfl)) (tq_mem (tb_1 (List.mem_of_getElem? (i := 2) rfl)) rfl) (tq_mem (tb_1 (List.mem_of_getElem? (i := 28) rfl)) rfl) (tq_mem (tb_1 (List.mem_of_getElem? (i := 29) rfl)) rfl) (by decide +kernel) rfl (by decide) rfl (by rw [hQ]; decide) (by rw [hQ]; decide) dX0_init_37 (fun u18 => ?_)
  refine gn_aast (pc := 40) C dX0_init_40 1 45 rfl rfl rfl rfl (vp_in_nI (n := 7) (by decide) (by decide)) ((h, .inr (0, [.ref q1, .ref q2, .long 0])) :: ((q1, .inl ((tq_la X).2.2 4, 9, .inr (.inr (.inr (.inr (va_up (va_up (va_up (va_up (va_up (va_up (va_up (va_up (fun _ => none) 0 (some q3)) 1 (some q5)) 2 (some q7)) 3 (some q9)) 4 (some q11)) 5 (some q13)) 6 (some q15)) 7 (some q17))))))) :: ((q2, .inl ((tq_la X).2.2 3, 5, .inr (.inl (fun _ => 0)))) :: ((wn_X1 (tq_la X) q3 u4 ++ ((wn_X1 (tq_la X) q5 u6 ++ ((wn_X1 (tq_la X) q7 u8 ++ ((wn_X1 (tq_la X) q9 u10 ++ ((wn_X1 (tq_la X) q11 u12 ++ ((wn_X1 (tq_la X) q13 u14 ++ ((wn_X1 (tq_la X) q15 u16 ++ ((wn_X1 (tq_la X) q17 u18 ++ []))))))))))))))))))) rfl ?_
  refine gn_iinc (pc := 41) (j := 0) (v := 8) C dX0_init_41 [(1, .int 8), (0, .ref h)] rfl (by decide) (by decide) rfl ?_
  refine gn_goto (pc := 44) C dX0_init_44 22 (by decide) ?_
  refine gn_iload_n (pc := 22) C dX0_init_22 0 rfl rfl ?_
  refine gn_bipush (pc := 23) (v := 8) C dX0_init_23 (by decide) ?_
  refine gn_ic_gt (pc := 25) C dX0_init_25 47 (by decide) (fun c9 => absurd c9 (by decide)) (fun c9 => ?_)
  refine gn_aload_n (pc := 28) C dX0_init_28 1 rfl rfl ?_
  refine gn_get (pc := 29) C dX0_init_29 rfl itX0 0 (by decide) (tq_mem (tb_1 (List.mem_of_getElem? (i := 197) rfl)) rfl) rfl ?_
  refine gn_iload_n (pc := 32) C dX0_init_32 0 rfl rfl ?_
  refine gn_new (pc := 33) (ci := 1) C dX0_init_33 (tq_mem (tb_1 (List.mem_of_getElem? (i := 195) rfl)) rfl) (tq_mem (tb_1 (List.mem_of_getElem? (i := 26) rfl)) rfl) (tq_mem (tb_1 (List.mem_of_getElem? (i := 2) rfl)) rfl) itX1 tyX1 tyX1_ok rfl [.null, .null, .null, .null, .null, .int 0, .int 0, .int 0, .int 0, .int 0, .int 0, .int 0, .int 0, .int 0] df_X1 (by rw [hQ]; decide) (by rw [hQ]; decide) (fun q19 => ?_)
  refine gn_dup (pc := 36) C dX0_init_36 rfl ?_
  refine gn_initN (pc := 37) C (ok_X1_init) (tq_Nn C ("TearsQueue$Chances", 21, "TearsQueue$Evening") (List.mem_of_getElem? (i := 4) rfl)) (tq_mem (tb_1 (List.mem_of_getElem? (i := 2) rfl)) rfl) (tq_mem (tb_1 (List.mem_of_getElem? (i := 28) rfl)) rfl) (tq_mem (tb_1 (List.mem_of_getElem? (i := 29) rfl)) rfl) (by decide +kernel) rfl (by decide) rfl (by rw [hQ]; decide) (by rw [hQ]; decide) dX0_init_37 (fun u20 => ?_)
  refine gn_aast (pc := 40) C dX0_init_40 1 51 rfl rfl rfl rfl (vp_in_nI (n := 8) (by decide) (by decide)) ((h, .inr (0, [.ref q1, .ref q2, .long 0])) :: ((q1, .inl ((tq_la X).2.2 4, 9, .inr (.inr (.inr (.inr (va_up (va_up (va_up (va_up (va_up (va_up (va_up (va_up (va_up (fun _ => none) 0 (some q3)) 1 (some q5)) 2 (some q7)) 3 (some q9)) 4 (some q11)) 5 (some q13)) 6 (some q15)) 7 (some q17)) 8 (some q19))))))) :: ((q2, .inl ((tq_la X).2.2 3, 5, .inr (.inl (fun _ => 0)))) :: ((wn_X1 (tq_la X) q3 u4 ++ ((wn_X1 (tq_la X) q5 u6 ++ ((wn_X1 (tq_la X) q7 u8 ++ ((wn_X1 (tq_la X) q9 u10 ++ ((wn_X1 (tq_la X) q11 u12 ++ ((wn_X1 (tq_la X) q13 u14 ++ ((wn_X1 (tq_la X) q15 u16 ++ ((wn_X1 (tq_la X) q17 u18 ++ ((wn_X1 (tq_la X) q19 u20 ++ []))))))))))))))))))))) rfl ?_
  refine gn_iinc (pc := 41) (j := 0) (v := 9) C dX0_init_41 [(1, .int 9), (0, .ref h)] rfl (by decide) (by decide) rfl ?_
  refine gn_goto (pc := 44) C dX0_init_44 22 (by decide) ?_
  refine gn_iload_n (pc := 22) C dX0_init_22 0 rfl rfl ?_
  refine gn_bipush (pc := 23) (v := 8) C dX0_init_23 (by decide) ?_
  refine gn_ic_gt (pc := 25) C dX0_init_25 47 (by decide) (fun c9 => ?_) (fun c9 => absurd (by decide) c9)
  exact hR (fun i => if i = 0 then q1 else if i = 1 then q2 else if i = 2 then q3 else if i < 8 then u4 (i - 3) else if i = 8 then q5 else if i < 14 then u6 (i - 9) else if i = 14 then q7 else if i < 20 then u8 (i - 15) else if i = 20 then q9 else if i < 26 then u10 (i - 21) else if i = 26 then q11 else if i < 32 then u12 (i - 27) else if i = 32 then q13 else if i < 38 then u14 (i - 33) else if i = 38 then q15 else if i < 44 then u16 (i - 39) else if i = 44 then q17 else if i < 50 then u18 (i - 45) else if i = 50 then q19 else if i < 56 then u20 (i - 51) else 0) _ _ dX0_init_47
