theorem tq_Nn {X : tq_Cx} {cc : ByteArray} {nL k : Nat} {own : String} (C : tq_D X cc nL own k) : ∀ q ∈ tq_nl, va_Nw (.methodLinkNest q.1 q.2.1 ⟨q.2.2, "<init>", "()V"⟩ "TearsQueue") X.2.2.2.2.1 := by
  obtain ⟨p, l, e, R, s, m, args, below, meth, c, A, a, z, Q⟩ := X
  exact C.2.2.2.2.2.2.2.2.2.2.1
theorem tq_AOX1 {X : tq_Cx} {cc : ByteArray} {nL k : Nat} {own : String} (C : tq_D X cc nL own k) : va_AO "TearsQueue$Evening" X.2.2.2.2.1 := by
  obtain ⟨p, l, e, R, s, m, args, below, meth, c, A, a, z, Q⟩ := X
  exact C.2.2.2.2.2.2.2.2.2.2.2.1
theorem tq_AOX3 {X : tq_Cx} {cc : ByteArray} {nL k : Nat} {own : String} (C : tq_D X cc nL own k) : va_AO "TearsQueue$Sheet" X.2.2.2.2.1 := by
  obtain ⟨p, l, e, R, s, m, args, below, meth, c, A, a, z, Q⟩ := X
  exact C.2.2.2.2.2.2.2.2.2.2.2.2
theorem df_X1 : ∀ j, j < 14 → defaultValue (tyX1 j) = vp_V [.null, .null, .null, .null, .null, .int 0, .int 0, .int 0, .int 0, .int 0, .int 0, .int 0, .int 0, .int 0] j := by decide +kernel
theorem df_X3 : ∀ j, j < 4 → defaultValue (tyX3 j) = vp_V [.null, .int 0, .int 0, .int 0] j := by decide +kernel
theorem df_X4 : ∀ j, j < 3 → defaultValue (tyX4 j) = vp_V [.null, .null, .int 0] j := by decide +kernel
theorem df_X5 : ∀ j, j < 10 → defaultValue (tyX5 j) = vp_V [.null, .null, .int 0, .int 0, .int 0, .int 0, .int 0, .int 0, .int 0, .int 0] j := by decide +kernel
theorem df_X2 : ∀ j, j < 6 → defaultValue (tyX2 j) = vp_V [.null, .null, .null, .int 0, .int 0, .int 0] j := by decide +kernel
theorem df_X0 : ∀ j, j < 3 → defaultValue (tyX0 j) = vp_V [.null, .null, .long 0] j := by decide +kernel
theorem df_X6 : ∀ j, j < 11 → defaultValue (tyX6 j) = vp_V [.null, .null, .null, .null, .null, .null, .null, .null, .null, .null, .int 0] j := by decide +kernel
theorem df_X7 : ∀ j, j < 29 → defaultValue (tyX7 j) = vp_V [.null, .null, .int 0, .null, .int 0, .int 0, .int 0, .null, .int 0, .int 0, .int 0, .int 0, .int 0, .int 0, .int 0, .int 0, .null, .null, .int 0, .int 0, .int 0, .null, .int 0, .null, .null, .null, .null, .null, .int 0] j := by decide +kernel
def wn_X1 (a : tq_La) (h : Nat) (u : Nat → Nat) : va_W := ((h, .inr (1, [.ref (u 0), .ref (u 1), .ref (u 2), .ref (u 3), .ref (u 4), .int 0, .int 0, .int 0, .int 2, .int 4, .int 0, .int 0, .int 0, .int (-4)])) :: (((u 0), .inl (a.2.2 0, 5, .inl (fun _ => 0))) :: (((u 1), .inl (a.2.2 0, 5, .inl (fun _ => 0))) :: (((u 2), .inl (a.2.2 0, 5, .inl (fun _ => 0))) :: (((u 3), .inl (a.2.2 0, 8, .inl (fun _ => 0))) :: (((u 4), .inl (a.2.2 0, 5, .inl (fun _ => 0))) :: []))))))
set_option maxRecDepth 100000 in
set_option maxHeartbeats 8000000 in
theorem ok_X1_init : tq_MI yX1_init cX1_init 1 1 5 28 1 [.null, .null, .null, .null, .null, .int 0, .int 0, .int 0, .int 0, .int 0, .int 0, .int 0, .int 0, .int 0] wn_X1 := by
  refine tq_mkC (by decide) rfl (by decide) ?_
  intro X h C hQ hR
  refine gn_aload_n (pc := 0) C dX1_init_0 0 rfl rfl ?_
  refine gn_objInit (pc := 1) C (by decide) (tq_mem (tb_1 (List.mem_of_getElem? (i := 30) rfl)) rfl) (tq_mem (tb_1 (List.mem_of_getElem? (i := 23) rfl)) rfl) (tq_mem (tb_1 (List.mem_of_getElem? (i := 24) rfl)) rfl) dX1_init_1 ?_
  refine gn_aload_n (pc := 4) C dX1_init_4 0 rfl rfl ?_
  refine gn_iconst (pc := 5) (v := 5) C dX1_init_5 (by decide) ?_
  refine gn_newa (pc := 6) C dX1_init_6 rfl (tq_mem (tb_1 (List.mem_of_getElem? (i := 96) rfl)) rfl) 0 rfl 5 (5, .inl (fun _ => 0)) (fun cA => rfl) (by decide) (by decide) (by decide) (by rw [hQ]; decide) (by rw [hQ]; decide) (fun q1 => ?_)
  refine gn_putF (pc := 8) C dX1_init_8 rfl itX1 tyX1 tyX1_ok nmX1 0 (by decide) (tq_mem (tb_1 (List.mem_of_getElem? (i := 31) rfl)) rfl) rfl rfl (ty := tyX1 0) (by decide +kernel) rfl rfl (Nat.le_of_ble_eq_true rfl) [.ref q1, .null, .null, .null, .null, .int 0, .int 0, .int 0, .int 0, .int 0, .int 0, .int 0, .int 0, .int 0] rfl ?_
  refine gn_aload_n (pc := 11) C dX1_init_11 0 rfl rfl ?_
  refine gn_iconst (pc := 12) (v := 5) C dX1_init_12 (by decide) ?_
  refine gn_newa (pc := 13) C dX1_init_13 rfl (tq_mem (tb_1 (List.mem_of_getElem? (i := 96) rfl)) rfl) 0 rfl 5 (5, .inl (fun _ => 0)) (fun cA => rfl) (by decide) (by decide) (by decide) (by rw [hQ]; decide) (by rw [hQ]; decide) (fun q2 => ?_)
  refine gn_putF (pc := 15) C dX1_init_15 rfl itX1 tyX1 tyX1_ok nmX1 1 (by decide) (tq_mem (tb_1 (List.mem_of_getElem? (i := 33) rfl)) rfl) rfl rfl (ty := tyX1 1) (by decide +kernel) rfl rfl (Nat.le_of_ble_eq_true rfl) [.ref q1, .ref q2, .null, .null, .null, .int 0, .int 0, .int 0, .int 0, .int 0, .int 0, .int 0, .int 0, .int 0] rfl ?_
  refine gn_aload_n (pc := 18) C dX1_init_18 0 rfl rfl ?_
  refine gn_iconst (pc := 19) (v := 5) C dX1_init_19 (by decide) ?_
  refine gn_newa (pc := 20) C dX1_init_20 rfl (tq_mem (tb_1 (List.mem_of_getElem? (i := 96) rfl)) rfl) 0 rfl 5 (5, .inl (fun _ => 0)) (fun cA => rfl) (by decide) (by decide) (by decide) (by rw [hQ]; decide) (by rw [hQ]; decide) (fun q3 => ?_)
  refine gn_putF (pc := 22) C dX1_init_22 rfl itX1 tyX1 tyX1_ok nmX1 2 (by decide) (tq_mem (tb_1 (List.mem_of_getElem? (i := 35) rfl)) rfl) rfl rfl (ty := tyX1 2) (by decide +kernel) rfl rfl (Nat.le_of_ble_eq_true rfl) [.ref q1, .ref q2, .ref q3, .null, .null, .int 0, .int 0, .int 0, .int 0, .int 0, .int 0, .int 0, .int 0, .int 0] rfl ?_
  refine gn_aload_n (pc := 25) C dX1_init_25 0 rfl rfl ?_
  refine gn_bipush (pc := 26) (v := 8) C dX1_init_26 (by decide) ?_
  refine gn_newa (pc := 28) C dX1_init_28 rfl (tq_mem (tb_1 (List.mem_of_getElem? (i := 96) rfl)) rfl) 0 rfl 8 (8, .inl (fun _ => 0)) (fun cA => rfl) (by decide) (by decide) (by decide) (by rw [hQ]; decide) (by rw [hQ]; decide) (fun q4 => ?_)
  refine gn_putF (pc := 30) C dX1_init_30 rfl itX1 tyX1 tyX1_ok nmX1 3 (by decide) (tq_mem (tb_1 (List.mem_of_getElem? (i := 37) rfl)) rfl) rfl rfl (ty := tyX1 3) (by decide +kernel) rfl rfl (Nat.le_of_ble_eq_true rfl) [.ref q1, .ref q2, .ref q3, .ref q4, .null, .int 0, .int 0, .int 0, .int 0, .int 0, .int 0, .int 0, .int 0, .int 0] rfl ?_
  refine gn_aload_n (pc := 33) C dX1_init_33 0 rfl rfl ?_
  refine gn_iconst (pc := 34) (v := 5) C dX1_init_34 (by decide) ?_
  refine gn_newa (pc := 35) C dX1_init_35 rfl (tq_mem (tb_1 (List.mem_of_getElem? (i := 96) rfl)) rfl) 0 rfl 5 (5, .inl (fun _ => 0)) (fun cA => rfl) (by decide) (by decide) (by decide) (by rw [hQ]; decide) (by rw [hQ]; decide) (fun q5 => ?_)
  refine gn_putF (pc := 37) C dX1_init_37 rfl itX1 tyX1 tyX1_ok nmX1 4 (by decide) (tq_mem (tb_1 (List.mem_of_getElem? (i := 40) rfl)) rfl) rfl rfl (ty := tyX1 4) (by decide +kernel) rfl rfl (Nat.le_of_ble_eq_true rfl) [.ref q1, .ref q2, .ref q3, .ref q4, .ref q5, .int 0, .int 0, .int 0, .int 0, .int 0, .int 0, .int 0, .int 0, .int 0] rfl ?_
  refine gn_aload_n (pc := 40) C dX1_init_40 0 rfl rfl ?_
  refine gn_iconst (pc := 41) (v := 2) C dX1_init_41 (by decide) ?_
  refine gn_put (pc := 42) C dX1_init_42 rfl itX1 tyX1 tyX1_ok nmX1 8 (by decide) (tq_mem (tb_1 (List.mem_of_getElem? (i := 50) rfl)) rfl) rfl (ty := tyX1 8) (by decide +kernel) rfl rfl (Nat.le_of_ble_eq_true rfl) [.ref q1, .ref q2, .ref q3, .ref q4, .ref q5, .int 0, .int 0, .int 0, .int 2, .int 0, .int 0, .int 0, .int 0, .int 0] rfl ?_
  refine gn_aload_n (pc := 45) C dX1_init_45 0 rfl rfl ?_
  refine gn_iconst (pc := 46) (v := 4) C dX1_init_46 (by decide) ?_
  refine gn_put (pc := 47) C dX1_init_47 rfl itX1 tyX1 tyX1_ok nmX1 9 (by decide) (tq_mem (tb_1 (List.mem_of_getElem? (i := 53) rfl)) rfl) rfl (ty := tyX1 9) (by decide +kernel) rfl rfl (Nat.le_of_ble_eq_true rfl) [.ref q1, .ref q2, .ref q3, .ref q4, .ref q5, .int 0, .int 0, .int 0, .int 2, .int 4, .int 0, .int 0, .int 0, .int 0] rfl ?_
  refine gn_aload_n (pc := 50) C dX1_init_50 0 rfl rfl ?_
  refine gn_bipush (pc := 51) (v := (-4)) C dX1_init_51 (by decide) ?_
  refine gn_put (pc := 53) C dX1_init_53 rfl itX1 tyX1 tyX1_ok nmX1 13 (by decide) (tq_mem (tb_1 (List.mem_of_getElem? (i := 65) rfl)) rfl) rfl (ty := tyX1 13) (by decide +kernel) rfl rfl (Nat.le_of_ble_eq_true rfl) [.ref q1, .ref q2, .ref q3, .ref q4, .ref q5, .int 0, .int 0, .int 0, .int 2, .int 4, .int 0, .int 0, .int 0, .int (-4)] rfl ?_
  exact hR (fun i => if i = 0 then q1 else if i = 1 then q2 else if i = 2 then q3 else if i = 3 then q4 else if i = 4 then q5 else 0) _ _ dX1_init_56
def wn_X3 (a : tq_La) (h : Nat) (u : Nat → Nat) : va_W := ((h, .inr (3, [.ref (u 0), .int 0, .int 0, .int 0])) :: (((u 0), .inl (a.2.2 0, 40, .inl (fun _ => 0))) :: []))
set_option maxRecDepth 100000 in
set_option maxHeartbeats 8000000 in
theorem ok_X3_init : tq_MI yX3_init cX3_init 1 1 1 40 3 [.null, .int 0, .int 0, .int 0] wn_X3 := by
  refine tq_mkC (by decide) rfl (by decide) ?_
  intro X h C hQ hR
  refine gn_aload_n (pc := 0) C dX3_init_0 0 rfl rfl ?_
  refine gn_objInit (pc := 1) C (by decide) (tq_mem (tb_1 (List.mem_of_getElem? (i := 215) rfl)) rfl) (tq_mem (tb_1 (List.mem_of_getElem? (i := 23) rfl)) rfl) (tq_mem (tb_1 (List.mem_of_getElem? (i := 24) rfl)) rfl) dX3_init_1 ?_
  refine gn_aload_n (pc := 4) C dX3_init_4 0 rfl rfl ?_
  refine gn_bipush (pc := 5) (v := 40) C dX3_init_5 (by decide) ?_
  refine gn_newa (pc := 7) C dX3_init_7 rfl (tq_mem (tb_1 (List.mem_of_getElem? (i := 96) rfl)) rfl) 0 rfl 40 (40, .inl (fun _ => 0)) (fun cA => rfl) (by decide) (by decide) (by decide) (by rw [hQ]; decide) (by rw [hQ]; decide) (fun q1 => ?_)
  refine gn_putF (pc := 9) C dX3_init_9 rfl itX3 tyX3 tyX3_ok nmX3 0 (by decide) (tq_mem (tb_1 (List.mem_of_getElem? (i := 216) rfl)) rfl) rfl rfl (ty := tyX3 0) (by decide +kernel) rfl rfl (Nat.le_of_ble_eq_true rfl) [.ref q1, .int 0, .int 0, .int 0] rfl ?_
  exact hR (fun i => if i = 0 then q1 else 0) _ _ dX3_init_12
def wn_X4 (a : tq_La) (h : Nat) (u : Nat → Nat) : va_W := ((h, .inr (4, [.ref (u 0), .ref (u 1), .int 0])) :: (((u 0), .inl (a.2.2 0, 6, .inl (fun _ => 0))) :: (((u 1), .inl (a.2.2 2, 6, .inl (fun _ => 0))) :: [])))
set_option maxRecDepth 100000 in
set_option maxHeartbeats 8000000 in
theorem ok_X4_init : tq_MI yX4_init cX4_init 1 1 2 12 4 [.null, .null, .int 0] wn_X4 := by
  refine tq_mkC (by decide) rfl (by decide) ?_
  intro X h C hQ hR
  refine gn_aload_n (pc := 0) C dX4_init_0 0 rfl rfl ?_
  refine gn_objInit (pc := 1) C (by decide) (tq_mem (tb_1 (List.mem_of_getElem? (i := 145) rfl)) rfl) (tq_mem (tb_1 (List.mem_of_getElem? (i := 23) rfl)) rfl) (tq_mem (tb_1 (List.mem_of_getElem? (i := 24) rfl)) rfl) dX4_init_1 ?_
  refine gn_aload_n (pc := 4) C dX4_init_4 0 rfl rfl ?_
  refine gn_bipush (pc := 5) (v := 6) C dX4_init_5 (by decide) ?_
  refine gn_newa (pc := 7) C dX4_init_7 rfl (tq_mem (tb_1 (List.mem_of_getElem? (i := 96) rfl)) rfl) 0 rfl 6 (6, .inl (fun _ => 0)) (fun cA => rfl) (by decide) (by decide) (by decide) (by rw [hQ]; decide) (by rw [hQ]; decide) (fun q1 => ?_)
  refine gn_putF (pc := 9) C dX4_init_9 rfl itX4 tyX4 tyX4_ok nmX4 0 (by decide) (tq_mem (tb_1 (List.mem_of_getElem? (i := 146) rfl)) rfl) rfl rfl (ty := tyX4 0) (by decide +kernel) rfl rfl (Nat.le_of_ble_eq_true rfl) [.ref q1, .null, .int 0] rfl ?_
  refine gn_aload_n (pc := 12) C dX4_init_12 0 rfl rfl ?_
  refine gn_bipush (pc := 13) (v := 6) C dX4_init_13 (by decide) ?_
  refine gn_newa (pc := 15) C dX4_init_15 rfl (tq_mem (tb_1 (List.mem_of_getElem? (i := 157) rfl)) rfl) 2 rfl 6 (6, .inl (fun _ => 0)) (fun cA => rfl) (by decide) (by decide) (by decide) (by rw [hQ]; decide) (by rw [hQ]; decide) (fun q2 => ?_)
  refine gn_putF (pc := 17) C dX4_init_17 rfl itX4 tyX4 tyX4_ok nmX4 1 (by decide) (tq_mem (tb_1 (List.mem_of_getElem? (i := 147) rfl)) rfl) rfl rfl (ty := tyX4 1) (by decide +kernel) rfl rfl (Nat.le_of_ble_eq_true rfl) [.ref q1, .ref q2, .int 0] rfl ?_
  exact hR (fun i => if i = 0 then q1 else if i = 1 then q2 else 0) _ _ dX4_init_20
def wn_X5 (a : tq_La) (h : Nat) (u : Nat → Nat) : va_W := ((h, .inr (5, [.ref (u 0), .ref (u 1), .int 0, .int 0, .int 0, .int 0, .int 0, .int 0, .int 0, .int 0])) :: (((u 0), .inl (a.2.2 1, 160, .inl (fun _ => 0))) :: (wn_X1 a (u 1) (fun i => u (2 + i)) ++ [])))
set_option maxRecDepth 100000 in
set_option maxHeartbeats 8000000 in
theorem ok_X5_init : tq_MI yX5_init cX5_init 1 2 7 202 5 [.null, .null, .int 0, .int 0, .int 0, .int 0, .int 0, .int 0, .int 0, .int 0] wn_X5 := by
  refine tq_mkC (by decide) rfl (by decide) ?_
  intro X h C hQ hR
  refine gn_aload_n (pc := 0) C dX5_init_0 0 rfl rfl ?_
  refine gn_objInit (pc := 1) C (by decide) (tq_mem (tb_1 (List.mem_of_getElem? (i := 102) rfl)) rfl) (tq_mem (tb_1 (List.mem_of_getElem? (i := 23) rfl)) rfl) (tq_mem (tb_1 (List.mem_of_getElem? (i := 24) rfl)) rfl) dX5_init_1 ?_
  refine gn_aload_n (pc := 4) C dX5_init_4 0 rfl rfl ?_
  refine gn_sipush (pc := 5) (v := 160) C dX5_init_5 (by decide) ?_
  refine gn_newa (pc := 8) C dX5_init_8 rfl (tq_mem (tb_1 (List.mem_of_getElem? (i := 139) rfl)) rfl) 1 rfl 160 (160, .inl (fun _ => 0)) (fun cA => rfl) (by decide) (by decide) (by decide) (by rw [hQ]; decide) (by rw [hQ]; decide) (fun q1 => ?_)
  refine gn_putF (pc := 10) C dX5_init_10 rfl itX5 tyX5 tyX5_ok nmX5 0 (by decide) (tq_mem (tb_1 (List.mem_of_getElem? (i := 105) rfl)) rfl) rfl rfl (ty := tyX5 0) (by decide +kernel) rfl rfl (Nat.le_of_ble_eq_true rfl) [.ref q1, .null, .int 0, .int 0, .int 0, .int 0, .int 0, .int 0, .int 0, .int 0] rfl ?_
  refine gn_aload_n (pc := 13) C dX5_init_13 0 rfl rfl ?_
  refine gn_new (pc := 14) (ci := 1) C dX5_init_14 (tq_mem (tb_1 (List.mem_of_getElem? (i := 103) rfl)) rfl) (tq_mem (tb_1 (List.mem_of_getElem? (i := 26) rfl)) rfl) (tq_mem (tb_1 (List.mem_of_getElem? (i := 2) rfl)) rfl) itX1 tyX1 tyX1_ok rfl [.null, .null, .null, .null, .null, .int 0, .int 0, .int 0, .int 0, .int 0, .int 0, .int 0, .int 0, .int 0] df_X1 (by rw [hQ]; decide) (by rw [hQ]; decide) (fun q2 => ?_)
  refine gn_dup (pc := 17) C dX5_init_17 rfl ?_
  refine gn_initN (pc := 18) C (ok_X1_init) (tq_Nn C ("TearsQueue$Tape", 17, "TearsQueue$Evening") (List.mem_of_getElem? (i := 6) rfl)) (tq_mem (tb_1 (List.mem_of_getElem? (i := 2) rfl)) rfl) (tq_mem (tb_1 (List.mem_of_getElem? (i := 28) rfl)) rfl) (tq_mem (tb_1 (List.mem_of_getElem? (i := 29) rfl)) rfl) (by decide +kernel) rfl (by decide) rfl (by rw [hQ]; decide) (by rw [hQ]; decide) dX5_init_18 (fun u3 => ?_)
  refine gn_putF (pc := 21) C dX5_init_21 rfl itX5 tyX5 tyX5_ok nmX5 1 (by decide) (tq_mem (tb_1 (List.mem_of_getElem? (i := 106) rfl)) rfl) rfl rfl (ty := tyX5 1) (by decide +kernel) rfl rfl (Nat.le_of_ble_eq_true rfl) [.ref q1, .ref q2, .int 0, .int 0, .int 0, .int 0, .int 0, .int 0, .int 0, .int 0] rfl ?_
  exact hR (fun i => if i = 0 then q1 else if i = 1 then q2 else if i < 7 then u3 (i - 2) else 0) _ _ dX5_init_24
