theorem tq_Nn {X : tq_Cx} {cc : ByteArray} {nL k : Nat} {own : String} (C : tq_D X cc nL own k) : ∀ q ∈ tq_nl, va_Nw (.methodLinkNest q.1 q.2.1 ⟨q.2.2, "<init>", "()V"⟩ "TearsQueue") X.2.2.2.2.1 := by
  obtain ⟨p, l, e, R, s, m, args, below, meth, c, A, a, z, Q⟩ := X
  exact C.2.2.2.2.2.2.2.2.2.2.1
theorem tq_AOX1 {X : tq_Cx} {cc : ByteArray} {nL k : Nat} {own : String} (C : tq_D X cc nL own k) : va_AO "TearsQueue$Evening" X.2.2.2.2.1 := by
  obtain ⟨p, l, e, R, s, m, args, below, meth, c, A, a, z, Q⟩ := X
  exact C.2.2.2.2.2.2.2.2.2.2.2.1
theorem tq_AOX3 {X : tq_Cx} {cc : ByteArray} {nL k : Nat} {own : String} (C : tq_D X cc nL own k) : va_AO "TearsQueue$Sheet" X.2.2.2.2.1 := by
  obtain ⟨p, l, e, R, s, m, args, below, meth, c, A, a, z, Q⟩ := X
  exact C.2.2.2.2.2.2.2.2.2.2.2.2
theorem df_X1 : ∀ j, j < 14 → defaultValue (tyX1 j) = vp_V [.null, .null, .null, .null, .null, .int 0, .int 0, .int 0, .int 0, .int 0, .int 0, .int 0, .int 0, .int 0] j := by decide +kernel
theorem df_X3 : ∀ j, j < 4 → defaultValue (tyX3 j) = vp_V [.null, .int 0, .int 0, .int 0] j := by decide +kernel
theorem df_X4 : ∀ j, j < 3 → defaultValue (tyX4 j) = vp_V [.null, .null, .int 0] j := by decide +kernel
theorem df_X5 : ∀ j, j < 10 → defaultValue (tyX5 j) = vp_V [.null, .null, .int 0, .int 0, .int 0, .int 0, .int 0, .int 0, .int 0, .int 0] j := by decide +kernel
theorem df_X2 : ∀ j, j < 6 → defaultValue (tyX2 j) = vp_V [.null, .null, .null, .int 0, .int 0, .int 0] j := by decide +kernel
theorem df_X0 : ∀ j, j < 3 → defaultValue (tyX0 j) = vp_V [.null, .null, .long 0] j := by decide +kernel
theorem df_X6 : ∀ j, j < 11 → defaultValue (tyX6 j) = vp_V [.null, .null, .null, .null, .null, .null, .null, .null, .null, .null, .int 0] j := by decide +kernel
theorem df_X7 : ∀ j, j < 29 → defaultValue (tyX7 j) = vp_V [.null, .null, .int 0, .null, .int 0, .int 0, .int 0, .null, .int 0, .int 0, .int 0, .int 0, .int 0, .int 0, .int 0, .int 0, .null, .null, .int 0, .int 0, .int 0, .null, .int 0, .null, .null, .null, .null, .null, .int 0] j := by decide +kernel
def wn_X1 (a : tq_La) (h : Nat) (u : Nat → Nat) : va_W := ((h, .inr (1, [.ref (u 0), .ref (u 1), .ref (u 2), .ref (u 3), .ref (u 4), .int 0, .int 0, .int 0, .int 2, .int 4, .int 0, .int 0, .int 0, .int (-4)])) :: (((u 0), .inl (a.2.2 0, 5, .inl (fun _ => 0))) :: (((u 1), .inl (a.2.2 0, 5, .inl (fun _ => 0))) :: (((u 2), .inl (a.2.2 0, 5, .inl (fun _ => 0))) :: (((u 3), .inl (a.2.2 0, 8, .inl (fun _ => 0))) :: (((u 4), .inl (a.2.2 0, 5, .inl (fun _ => 0))) :: []))))))
set_option maxRecDepth 100000 in
set_option maxHeartbeats 8000000 in
theorem ok_X1_init : tq_MI yX1_init cX1_init 1 1 5 28 1 [.null, .null, .null, .null, .null, .int 0, .int 0, .int 0, .int 0, .int 0, .int 0, .int 0, .int 0, .int 0] wn_X1 := by
  refine tq_mkC (by decide) rfl (by decide) ?_
  intro X h C hQ hR
  refine gn_aload_n (pc := 0) C dX1_init_0 0 rfl rfl ?_
  refine gn_objInit (pc := 1) C (by decide) (tq_mem (by decide +kernel) rfl) (tq_mem (by decide +kernel) rfl) (tq_mem (by decide +kernel) rfl) dX1_init_1 ?_
  refine gn_aload_n (pc := 4) C dX1_init_4 0 rfl rfl ?_
  refine gn_iconst (pc := 5) (v := 5) C dX1_init_5 (by decide) ?_
  refine gn_newa (pc := 6) C dX1_init_6 rfl (tq_mem (by decide +kernel) rfl) 0 rfl 5 (5, .inl (fun _ => 0)) (fun cA => rfl) (by decide) (by decide) (by decide) (by rw [hQ]; decide) (by rw [hQ]; decide) (fun q1 => ?_)
  refine gn_putF (pc := 8) C dX1_init_8 rfl itX1 tyX1 tyX1_ok nmX1 0 (by decide) (tq_mem (by decide +kernel) rfl) rfl rfl (ty := tyX1 0) (by decide +kernel) rfl rfl (Nat.le_of_ble_eq_true rfl) [.ref q1, .null, .null, .null, .null, .int 0, .int 0, .int 0, .int 0, .int 0, .int 0, .int 0, .int 0, .int 0] rfl ?_
  refine gn_aload_n (pc := 11) C dX1_init_11 0 rfl rfl ?_
  refine gn_iconst (pc := 12) (v := 5) C dX1_init_12 (by decide) ?_
  refine gn_newa (pc := 13) C dX1_init_13 rfl (tq_mem (by decide +kernel) rfl) 0 rfl 5 (5, .inl (fun _ => 0)) (fun cA => rfl) (by decide) (by decide) (by decide) (by rw [hQ]; decide) (by rw [hQ]; decide) (fun q2 => ?_)
  refine gn_putF (pc := 15) C dX1_init_15 rfl itX1 tyX1 tyX1_ok nmX1 1 (by decide) (tq_mem (by decide +kernel) rfl) rfl rfl (ty := tyX1 1) (by decide +kernel) rfl rfl (Nat.le_of_ble_eq_true rfl) [.ref q1, .ref q2, .null, .null, .null, .int 0, .int 0, .int 0, .int 0, .int 0, .int 0, .int 0, .int 0, .int 0] rfl ?_
  refine gn_aload_n (pc := 18) C dX1_init_18 0 rfl rfl ?_
  refine gn_iconst (pc := 19) (v := 5) C dX1_init_19 (by decide) ?_
  refine gn_newa (pc := 20) C dX1_init_20 rfl (tq_mem (by decide +kernel) rfl) 0 rfl 5 (5, .inl (fun _ => 0)) (fun cA => rfl) (by decide) (by decide) (by decide) (by rw [hQ]; decide) (by rw [hQ]; decide) (fun q3 => ?_)
  refine gn_putF (pc := 22) C dX1_init_22 rfl itX1 tyX1 tyX1_ok nmX1 2 (by decide) (tq_mem (by decide +kernel) rfl) rfl rfl (ty := tyX1 2) (by decide +kernel) rfl rfl (Nat.le_of_ble_eq_true rfl) [.ref q1, .ref q2, .ref q3, .null, .null, .int 0, .int 0, .int 0, .int 0, .int 0, .int 0, .int 0, .int 0, .int 0] rfl ?_
  refine gn_aload_n (pc := 25) C dX1_init_25 0 rfl rfl ?_
  refine gn_bipush (pc := 26) (v := 8) C dX1_init_26 (by decide) ?_
  refine gn_newa (pc := 28) C dX1_init_28 rfl (tq_mem (by decide +kernel) rfl) 0 rfl 8 (8, .inl (fun _ => 0)) (fun cA => rfl) (by decide) (by decide) (by decide) (by rw [hQ]; decide) (by rw [hQ]; decide) (fun q4 => ?_)
  refine gn_putF (pc := 30) C dX1_init_30 rfl itX1 tyX1 tyX1_ok nmX1 3 (by decide) (tq_mem (by decide +kernel) rfl) rfl rfl (ty := tyX1 3) (by decide +kernel) rfl rfl (Nat.le_of_ble_eq_true rfl) [.ref q1, .ref q2, .ref q3, .ref q4, .null, .int 0, .int 0, .int 0, .int 0, .int 0, .int 0, .int 0, .int 0, .int 0] rfl ?_
  refine gn_aload_n (pc := 33) C dX1_init_33 0 rfl rfl ?_
  refine gn_iconst (pc := 34) (v := 5) C dX1_init_34 (by decide) ?_
  refine gn_newa (pc := 35) C dX1_init_35 rfl (tq_mem (by decide +kernel) rfl) 0 rfl 5 (5, .inl (fun _ => 0)) (fun cA => rfl) (by decide) (by decide) (by decide) (by rw [hQ]; decide) (by rw [hQ]; decide) (fun q5 => ?_)
  refine gn_putF (pc := 37) C dX1_init_37 rfl itX1 tyX1 tyX1_ok nmX1 4 (by decide) (tq_mem (by decide +kernel) rfl) rfl rfl (ty := tyX1 4) (by decide +kernel) rfl rfl (Nat.le_of_ble_eq_true rfl) [.ref q1, .ref q2, .ref q3, .ref q4, .ref q5, .int 0, .int 0, .int 0, .int 0, .int 0, .int 0, .int 0, .int 0, .int 0] rfl ?_
  refine gn_aload_n (pc := 40) C dX1_init_40 0 rfl rfl ?_
  refine gn_iconst (pc := 41) (v := 2) C dX1_init_41 (by decide) ?_
  refine gn_put (pc := 42) C dX1_init_42 rfl itX1 tyX1 tyX1_ok nmX1 8 (by decide) (tq_mem (by decide +kernel) rfl) rfl (ty := tyX1 8) (by decide +kernel) rfl rfl (Nat.le_of_ble_eq_true rfl) [.ref q1, .ref q2, .ref q3, .ref q4, .ref q5, .int 0, .int 0, .int 0, .int 2, .int 0, .int 0, .int 0, .int 0, .int 0] rfl ?_
  refine gn_aload_n (pc := 45) C dX1_init_45 0 rfl rfl ?_
  refine gn_iconst (pc := 46) (v := 4) C dX1_init_46 (by decide) ?_
  refine gn_put (pc := 47) C dX1_init_47 rfl itX1 tyX1 tyX1_ok nmX1 9 (by decide) (tq_mem (by decide +kernel) rfl) rfl (ty := tyX1 9) (by decide +kernel) rfl rfl (Nat.le_of_ble_eq_true rfl) [.ref q1, .ref q2, .ref q3, .ref q4, .ref q5, .int 0, .int 0, .int 0, .int 2, .int 4, .int 0, .int 0, .int 0, .int 0] rfl ?_
  refine gn_aload_n (pc := 50) C dX1_init_50 0 rfl rfl ?_
  refine gn_bipush (pc := 51) (v := (-4)) C dX1_init_51 (by decide) ?_
  refine gn_put (pc := 53) C dX1_init_53 rfl itX1 tyX1 tyX1_ok nmX1 13 (by decide) (tq_mem (by decide +kernel) rfl) rfl (ty := tyX1 13) (by decide +kernel) rfl rfl (Nat.le_of_ble_eq_true rfl) [.ref q1, .ref q2, .ref q3, .ref q4, .ref q5, .int 0, .int 0, .int 0, .int 2, .int 4, .int 0, .int 0, .int 0, .int (-4)] rfl ?_
  exact hR (fun i => if i = 0 then q1 else if i = 1 then q2 else if i = 2 then q3 else if i = 3 then q4 else if i = 4 then q5 else 0) _ _ dX1_init_56
def wn_X3 (a : tq_La) (h : Nat) (u : Nat → Nat) : va_W := ((h, .inr (3, [.ref (u 0), .int 0, .int 0, .int 0])) :: (((u 0), .inl (a.2.2 0, 40, .inl (fun _ => 0))) :: []))
set_option maxRecDepth 100000 in
set_option maxHeartbeats 8000000 in
theorem ok_X3_init : tq_MI yX3_init cX3_init 1 1 1 40 3 [.null, .int 0, .int 0, .int 0] wn_X3 := by
  refine tq_mkC (by decide) rfl (by decide) ?_
  intro X h C hQ hR
  refine gn_aload_n (pc := 0) C dX3_init_0 0 rfl rfl ?_
  refine gn_objInit (pc := 1) C (by decide) (tq_mem (by decide +kernel) rfl) (tq_mem (by decide +kernel) rfl) (tq_mem (by decide +kernel) rfl) dX3_init_1 ?_
  refine gn_aload_n (pc := 4) C dX3_init_4 0 rfl rfl ?_
  refine gn_bipush (pc := 5) (v := 40) C dX3_init_5 (by decide) ?_
  refine gn_newa (pc := 7) C dX3_init_7 rfl (tq_mem (by decide +kernel) rfl) 0 rfl 40 (40, .inl (fun _ => 0)) (fun cA => rfl) (by decide) (by decide) (by decide) (by rw [hQ]; decide) (by rw [hQ]; decide) (fun q1 => ?_)
  refine gn_putF (pc := 9) C dX3_init_9 rfl itX3 tyX3 tyX3_ok nmX3 0 (by decide) (tq_mem (by decide +kernel) rfl) rfl rfl (ty := tyX3 0) (by decide +kernel) rfl rfl (Nat.le_of_ble_eq_true rfl) [.ref q1, .int 0, .int 0, .int 0] rfl ?_
  exact hR (fun i => if i = 0 then q1 else 0) _ _ dX3_init_12
def wn_X4 (a : tq_La) (h : Nat) (u : Nat → Nat) : va_W := ((h, .inr (4, [.ref (u 0), .ref (u 1), .int 0])) :: (((u 0), .inl (a.2.2 0, 6, .inl (fun _ => 0))) :: (((u 1), .inl (a.2.2 2, 6, .inl (fun _ => 0))) :: [])))
set_option maxRecDepth 100000 in
set_option maxHeartbeats 8000000 in
theorem ok_X4_init : tq_MI yX4_init cX4_init 1 1 2 12 4 [.null, .null, .int 0] wn_X4 := by
  refine tq_mkC (by decide) rfl (by decide) ?_
  intro X h C hQ hR
  refine gn_aload_n (pc := 0) C dX4_init_0 0 rfl rfl ?_
  refine gn_objInit (pc := 1) C (by decide) (tq_mem (by decide +kernel) rfl) (tq_mem (by decide +kernel) rfl) (tq_mem (by decide +kernel) rfl) dX4_init_1 ?_
  refine gn_aload_n (pc := 4) C dX4_init_4 0 rfl rfl ?_
  refine gn_bipush (pc := 5) (v := 6) C dX4_init_5 (by decide) ?_
  refine gn_newa (pc := 7) C dX4_init_7 rfl (tq_mem (by decide +kernel) rfl) 0 rfl 6 (6, .inl (fun _ => 0)) (fun cA => rfl) (by decide) (by decide) (by decide) (by rw [hQ]; decide) (by rw [hQ]; decide) (fun q1 => ?_)
  refine gn_putF (pc := 9) C dX4_init_9 rfl itX4 tyX4 tyX4_ok nmX4 0 (by decide) (tq_mem (by decide +kernel) rfl) rfl rfl (ty := tyX4 0) (by decide +kernel) rfl rfl (Nat.le_of_ble_eq_true rfl) [.ref q1, .null, .int 0] rfl ?_
  refine gn_aload_n (pc := 12) C dX4_init_12 0 rfl rfl ?_
  refine gn_bipush (pc := 13) (v := 6) C dX4_init_13 (by decide) ?_
  refine gn_newa (pc := 15) C dX4_init_15 rfl (tq_mem (by decide +kernel) rfl) 2 rfl 6 (6, .inl (fun _ => 0)) (fun cA => rfl) (by decide) (by decide) (by decide) (by rw [hQ]; decide) (by rw [hQ]; decide) (fun q2 => ?_)
  refine gn_putF (pc := 17) C dX4_init_17 rfl itX4 tyX4 tyX4_ok nmX4 1 (by decide) (tq_mem (by decide +kernel) rfl) rfl rfl (ty := tyX4 1) (by decide +kernel) rfl rfl (Nat.le_of_ble_eq_true rfl) [.ref q1, .ref q2, .int 0] rfl ?_
  exact hR (fun i => if i = 0 then q1 else if i = 1 then q2 else 0) _ _ dX4_init_20
def wn_X5 (a : tq_La) (h : Nat) (u : Nat → Nat) : va_W := ((h, .inr (5, [.ref (u 0), .ref (u 1), .int 0, .int 0, .int 0, .int 0, .int 0, .int 0, .int 0, .int 0])) :: (((u 0), .inl (a.2.2 1, 160, .inl (fun _ => 0))) :: (wn_X1 a (u 1) (fun i => u (2 + i)) ++ [])))
set_option maxRecDepth 100000 in
set_option maxHeartbeats 8000000 in
theorem ok_X5_init : tq_MI yX5_init cX5_init 1 2 7 202 5 [.null, .null, .int 0, .int 0, .int 0, .int 0, .int 0, .int 0, .int 0, .int 0] wn_X5 := by
  refine tq_mkC (by decide) rfl (by decide) ?_
  intro X h C hQ hR
  refine gn_aload_n (pc := 0) C dX5_init_0 0 rfl rfl ?_
  refine gn_objInit (pc := 1) C (by decide) (tq_mem (by decide +kernel) rfl) (tq_mem (by decide +kernel) rfl) (tq_mem (by decide +kernel) rfl) dX5_init_1 ?_
  refine gn_aload_n (pc := 4) C dX5_init_4 0 rfl rfl ?_
  refine gn_sipush (pc := 5) (v := 160) C dX5_init_5 (by decide) ?_
  refine gn_newa (pc := 8) C dX5_init_8 rfl (tq_mem (by decide +kernel) rfl) 1 rfl 160 (160, .inl (fun _ => 0)) (fun cA => rfl) (by decide) (by decide) (by decide) (by rw [hQ]; decide) (by rw [hQ]; decide) (fun q1 => ?_)
  refine gn_putF (pc := 10) C dX5_init_10 rfl itX5 tyX5 tyX5_ok nmX5 0 (by decide) (tq_mem (by decide +kernel) rfl) rfl rfl (ty := tyX5 0) (by decide +kernel) rfl rfl (Nat.le_of_ble_eq_true rfl) [.ref q1, .null, .int 0, .int 0, .int 0, .int 0, .int 0, .int 0, .int 0, .int 0] rfl ?_
  refine gn_aload_n (pc := 13) C dX5_init_13 0 rfl rfl ?_
  refine gn_new (pc := 14) (ci := 1) C dX5_init_14 (tq_mem (by decide +kernel) rfl) (tq_mem (by decide +kernel) rfl) (tq_mem (by decide +kernel) rfl) itX1 tyX1 tyX1_ok rfl [.null, .null, .null, .null, .null, .int 0, .int 0, .int 0, .int 0, .int 0, .int 0, .int 0, .int 0, .int 0] df_X1 (by rw [hQ]; decide) (by rw [hQ]; decide) (fun q2 => ?_)
  refine gn_dup (pc := 17) C dX5_init_17 rfl ?_
  refine gn_initN (pc := 18) C (ok_X1_init) ((tq_Nn C) _ (List.mem_of_getElem? (i := 6) rfl)) (tq_mem (by decide +kernel) rfl) (tq_mem (by decide +kernel) rfl) (tq_mem (by decide +kernel) rfl) (by decide +kernel) rfl (by decide) rfl (by rw [hQ]; decide) (by rw [hQ]; decide) dX5_init_18 (fun u3 => ?_)
  refine gn_putF (pc := 21) C dX5_init_21 rfl itX5 tyX5 tyX5_ok nmX5 1 (by decide) (tq_mem (by decide +kernel) rfl) rfl rfl (ty := tyX5 1) (by decide +kernel) rfl rfl (Nat.le_of_ble_eq_true rfl) [.ref q1, .ref q2, .int 0, .int 0, .int 0, .int 0, .int 0, .int 0, .int 0, .int 0] rfl ?_
  exact hR (fun i => if i = 0 then q1 else if i = 1 then q2 else if i < 7 then u3 (i - 2) else 0) _ _ dX5_init_24
def wn_X2 (a : tq_La) (h : Nat) (u : Nat → Nat) : va_W := ((h, .inr (2, [.ref (u 0), .ref (u 1), .ref (u 2), .int 0, .int 0, .int 0])) :: (((u 0), .inl (a.2.2 4, 5, .inr (.inr (.inr (.inr (va_up (va_up (va_up (va_up (va_up (fun _ => none) 0 (some (u 3))) 1 (some (u 9))) 2 (some (u 15))) 3 (some (u 21))) 4 (some (u 27)))))))) :: (((u 1), .inl (a.2.2 0, 4, .inl (fun _ => 0))) :: (((u 2), .inl (a.2.2 0, 4, .inl (fun _ => 0))) :: (wn_X1 a (u 3) (fun i => u (4 + i)) ++ (wn_X1 a (u 9) (fun i => u (10 + i)) ++ (wn_X1 a (u 15) (fun i => u (16 + i)) ++ (wn_X1 a (u 21) (fun i => u (22 + i)) ++ (wn_X1 a (u 27) (fun i => u (28 + i)) ++ [])))))))))
set_option maxRecDepth 100000 in
set_option maxHeartbeats 8000000 in
theorem ok_X2_init : tq_MI yX2_init cX2_init 2 2 33 223 2 [.null, .null, .null, .int 0, .int 0, .int 0] wn_X2 := by
  refine tq_mkC (by decide) rfl (by decide) ?_
  intro X h C hQ hR
  refine gn_aload_n (pc := 0) C dX2_init_0 0 rfl rfl ?_
  refine gn_objInit (pc := 1) C (by decide) (tq_mem (by decide +kernel) rfl) (tq_mem (by decide +kernel) rfl) (tq_mem (by decide +kernel) rfl) dX2_init_1 ?_
  refine gn_aload_n (pc := 4) C dX2_init_4 0 rfl rfl ?_
  refine gn_iconst (pc := 5) (v := 5) C dX2_init_5 (by decide) ?_
  refine gn_anew (pc := 6) C dX2_init_6 (tq_mem (by decide +kernel) rfl) (tq_AOX1 C) 4 rfl 5 (by decide) (by decide) (by decide) (by rw [hQ]; decide) (by rw [hQ]; decide) (fun q1 => ?_)
  refine gn_putF (pc := 9) C dX2_init_9 rfl itX2 tyX2 tyX2_ok nmX2 0 (by decide) (tq_mem (by decide +kernel) rfl) rfl rfl (ty := tyX2 0) (by decide +kernel) rfl rfl (Nat.le_of_ble_eq_true rfl) [.ref q1, .null, .null, .int 0, .int 0, .int 0] rfl ?_
  refine gn_aload_n (pc := 12) C dX2_init_12 0 rfl rfl ?_
  refine gn_iconst (pc := 13) (v := 4) C dX2_init_13 (by decide) ?_
  refine gn_newa (pc := 14) C dX2_init_14 rfl (tq_mem (by decide +kernel) rfl) 0 rfl 4 (4, .inl (fun _ => 0)) (fun cA => rfl) (by decide) (by decide) (by decide) (by rw [hQ]; decide) (by rw [hQ]; decide) (fun q2 => ?_)
  refine gn_putF (pc := 16) C dX2_init_16 rfl itX2 tyX2 tyX2_ok nmX2 1 (by decide) (tq_mem (by decide +kernel) rfl) rfl rfl (ty := tyX2 1) (by decide +kernel) rfl rfl (Nat.le_of_ble_eq_true rfl) [.ref q1, .ref q2, .null, .int 0, .int 0, .int 0] rfl ?_
  refine gn_aload_n (pc := 19) C dX2_init_19 0 rfl rfl ?_
  refine gn_iconst (pc := 20) (v := 4) C dX2_init_20 (by decide) ?_
  refine gn_newa (pc := 21) C dX2_init_21 rfl (tq_mem (by decide +kernel) rfl) 0 rfl 4 (4, .inl (fun _ => 0)) (fun cA => rfl) (by decide) (by decide) (by decide) (by rw [hQ]; decide) (by rw [hQ]; decide) (fun q3 => ?_)
  refine gn_putF (pc := 23) C dX2_init_23 rfl itX2 tyX2 tyX2_ok nmX2 2 (by decide) (tq_mem (by decide +kernel) rfl) rfl rfl (ty := tyX2 2) (by decide +kernel) rfl rfl (Nat.le_of_ble_eq_true rfl) [.ref q1, .ref q2, .ref q3, .int 0, .int 0, .int 0] rfl ?_
  refine gn_iconst (pc := 26) (v := 0) C dX2_init_26 (by decide) ?_
  refine gn_istore_n (pc := 27) C dX2_init_27 [(1, .int 0), (0, .ref h)] rfl (by decide) rfl ?_
  refine gn_iload_n (pc := 28) C dX2_init_28 0 rfl rfl ?_
  refine gn_iconst (pc := 29) (v := 4) C dX2_init_29 (by decide) ?_
  refine gn_ic_gt (pc := 30) C dX2_init_30 52 (by decide) (fun c9 => absurd c9 (by decide)) (fun c9 => ?_)
  refine gn_aload_n (pc := 33) C dX2_init_33 1 rfl rfl ?_
  refine gn_get (pc := 34) C dX2_init_34 rfl itX2 0 (by decide) (tq_mem (by decide +kernel) rfl) rfl ?_
  refine gn_iload_n (pc := 37) C dX2_init_37 0 rfl rfl ?_
  refine gn_new (pc := 38) (ci := 1) C dX2_init_38 (tq_mem (by decide +kernel) rfl) (tq_mem (by decide +kernel) rfl) (tq_mem (by decide +kernel) rfl) itX1 tyX1 tyX1_ok rfl [.null, .null, .null, .null, .null, .int 0, .int 0, .int 0, .int 0, .int 0, .int 0, .int 0, .int 0, .int 0] df_X1 (by rw [hQ]; decide) (by rw [hQ]; decide) (fun q4 => ?_)
  refine gn_dup (pc := 41) C dX2_init_41 rfl ?_
  refine gn_initN (pc := 42) C (ok_X1_init) ((tq_Nn C) _ (List.mem_of_getElem? (i := 5) rfl)) (tq_mem (by decide +kernel) rfl) (tq_mem (by decide +kernel) rfl) (tq_mem (by decide +kernel) rfl) (by decide +kernel) rfl (by decide) rfl (by rw [hQ]; decide) (by rw [hQ]; decide) dX2_init_42 (fun u5 => ?_)
  refine gn_aast (pc := 45) C dX2_init_45 1 4 rfl rfl rfl rfl (vp_in_nI (n := 0) (by decide) (by decide)) ((h, .inr (2, [.ref q1, .ref q2, .ref q3, .int 0, .int 0, .int 0])) :: ((q1, .inl ((tq_la X).2.2 4, 5, .inr (.inr (.inr (.inr (va_up (fun _ => none) 0 (some q4))))))) :: ((q2, .inl ((tq_la X).2.2 0, 4, .inl (fun _ => 0))) :: ((q3, .inl ((tq_la X).2.2 0, 4, .inl (fun _ => 0))) :: ((wn_X1 (tq_la X) q4 u5 ++ [])))))) rfl ?_
  refine gn_iinc (pc := 46) (j := 0) (v := 1) C dX2_init_46 [(1, .int 1), (0, .ref h)] rfl (by decide) (by decide) rfl ?_
  refine gn_goto (pc := 49) C dX2_init_49 28 (by decide) ?_
  refine gn_iload_n (pc := 28) C dX2_init_28 0 rfl rfl ?_
  refine gn_iconst (pc := 29) (v := 4) C dX2_init_29 (by decide) ?_
  refine gn_ic_gt (pc := 30) C dX2_init_30 52 (by decide) (fun c9 => absurd c9 (by decide)) (fun c9 => ?_)
  refine gn_aload_n (pc := 33) C dX2_init_33 1 rfl rfl ?_
  refine gn_get (pc := 34) C dX2_init_34 rfl itX2 0 (by decide) (tq_mem (by decide +kernel) rfl) rfl ?_
  refine gn_iload_n (pc := 37) C dX2_init_37 0 rfl rfl ?_
  refine gn_new (pc := 38) (ci := 1) C dX2_init_38 (tq_mem (by decide +kernel) rfl) (tq_mem (by decide +kernel) rfl) (tq_mem (by decide +kernel) rfl) itX1 tyX1 tyX1_ok rfl [.null, .null, .null, .null, .null, .int 0, .int 0, .int 0, .int 0, .int 0, .int 0, .int 0, .int 0, .int 0] df_X1 (by rw [hQ]; decide) (by rw [hQ]; decide) (fun q6 => ?_)
  refine gn_dup (pc := 41) C dX2_init_41 rfl ?_
  refine gn_initN (pc := 42) C (ok_X1_init) ((tq_Nn C) _ (List.mem_of_getElem? (i := 5) rfl)) (tq_mem (by decide +kernel) rfl) (tq_mem (by decide +kernel) rfl) (tq_mem (by decide +kernel) rfl) (by decide +kernel) rfl (by decide) rfl (by rw [hQ]; decide) (by rw [hQ]; decide) dX2_init_42 (fun u7 => ?_)
  refine gn_aast (pc := 45) C dX2_init_45 1 10 rfl rfl rfl rfl (vp_in_nI (n := 1) (by decide) (by decide)) ((h, .inr (2, [.ref q1, .ref q2, .ref q3, .int 0, .int 0, .int 0])) :: ((q1, .inl ((tq_la X).2.2 4, 5, .inr (.inr (.inr (.inr (va_up (va_up (fun _ => none) 0 (some q4)) 1 (some q6))))))) :: ((q2, .inl ((tq_la X).2.2 0, 4, .inl (fun _ => 0))) :: ((q3, .inl ((tq_la X).2.2 0, 4, .inl (fun _ => 0))) :: ((wn_X1 (tq_la X) q4 u5 ++ ((wn_X1 (tq_la X) q6 u7 ++ [])))))))) rfl ?_
  refine gn_iinc (pc := 46) (j := 0) (v := 2) C dX2_init_46 [(1, .int 2), (0, .ref h)] rfl (by decide) (by decide) rfl ?_
  refine gn_goto (pc := 49) C dX2_init_49 28 (by decide) ?_
  refine gn_iload_n (pc := 28) C dX2_init_28 0 rfl rfl ?_
  refine gn_iconst (pc := 29) (v := 4) C dX2_init_29 (by decide) ?_
  refine gn_ic_gt (pc := 30) C dX2_init_30 52 (by decide) (fun c9 => absurd c9 (by decide)) (fun c9 => ?_)
  refine gn_aload_n (pc := 33) C dX2_init_33 1 rfl rfl ?_
  refine gn_get (pc := 34) C dX2_init_34 rfl itX2 0 (by decide) (tq_mem (by decide +kernel) rfl) rfl ?_
  refine gn_iload_n (pc := 37) C dX2_init_37 0 rfl rfl ?_
  refine gn_new (pc := 38) (ci := 1) C dX2_init_38 (tq_mem (by decide +kernel) rfl) (tq_mem (by decide +kernel) rfl) (tq_mem (by decide +kernel) rfl) itX1 tyX1 tyX1_ok rfl [.null, .null, .null, .null, .null, .int 0, .int 0, .int 0, .int 0, .int 0, .int 0, .int 0, .int 0, .int 0] df_X1 (by rw [hQ]; decide) (by rw [hQ]; decide) (fun q8 => ?_)
  refine gn_dup (pc := 41) C dX2_init_41 rfl ?_
  refine gn_initN (pc := 42) C (ok_X1_init) ((tq_Nn C) _ (List.mem_of_getElem? (i := 5) rfl)) (tq_mem (by decide +kernel) rfl) (tq_mem (by decide +kernel) rfl) (tq_mem (by decide +kernel) rfl) (by decide +kernel) rfl (by decide) rfl (by rw [hQ]; decide) (by rw [hQ]; decide) dX2_init_42 (fun u9 => ?_)
  refine gn_aast (pc := 45) C dX2_init_45 1 16 rfl rfl rfl rfl (vp_in_nI (n := 2) (by decide) (by decide)) ((h, .inr (2, [.ref q1, .ref q2, .ref q3, .int 0, .int 0, .int 0])) :: ((q1, .inl ((tq_la X).2.2 4, 5, .inr (.inr (.inr (.inr (va_up (va_up (va_up (fun _ => none) 0 (some q4)) 1 (some q6)) 2 (some q8))))))) :: ((q2, .inl ((tq_la X).2.2 0, 4, .inl (fun _ => 0))) :: ((q3, .inl ((tq_la X).2.2 0, 4, .inl (fun _ => 0))) :: ((wn_X1 (tq_la X) q4 u5 ++ ((wn_X1 (tq_la X) q6 u7 ++ ((wn_X1 (tq_la X) q8 u9 ++ [])))))))))) rfl ?_
  refine gn_iinc (pc := 46) (j := 0) (v := 3) C dX2_init_46 [(1, .int 3), (0, .ref h)] rfl (by decide) (by decide) rfl ?_
  refine gn_goto (pc := 49) C dX2_init_49 28 (by decide) ?_
  refine gn_iload_n (pc := 28) C dX2_init_28 0 rfl rfl ?_
  refine gn_iconst (pc := 29) (v := 4) C dX2_init_29 (by decide) ?_
  refine gn_ic_gt (pc := 30) C dX2_init_30 52 (by decide) (fun c9 => absurd c9 (by decide)) (fun c9 => ?_)
  refine gn_aload_n (pc := 33) C dX2_init_33 1 rfl rfl ?_
  refine gn_get (pc := 34) C dX2_init_34 rfl itX2 0 (by decide) (tq_mem (by decide +kernel) rfl) rfl ?_
  refine gn_iload_n (pc := 37) C dX2_init_37 0 rfl rfl ?_
  refine gn_new (pc := 38) (ci := 1) C dX2_init_38 (tq_mem (by decide +kernel) rfl) (tq_mem (by decide +kernel) rfl) (tq_mem (by decide +kernel) rfl) itX1 tyX1 tyX1_ok rfl [.null, .null, .null, .null, .null, .int 0, .int 0, .int 0, .int 0, .int 0, .int 0, .int 0, .int 0, .int 0] df_X1 (by rw [hQ]; decide) (by rw [hQ]; decide) (fun q10 => ?_)
  refine gn_dup (pc := 41) C dX2_init_41 rfl ?_
  refine gn_initN (pc := 42) C (ok_X1_init) ((tq_Nn C) _ (List.mem_of_getElem? (i := 5) rfl)) (tq_mem (by decide +kernel) rfl) (tq_mem (by decide +kernel) rfl) (tq_mem (by decide +kernel) rfl) (by decide +kernel) rfl (by decide) rfl (by rw [hQ]; decide) (by rw [hQ]; decide) dX2_init_42 (fun u11 => ?_)
  refine gn_aast (pc := 45) C dX2_init_45 1 22 rfl rfl rfl rfl (vp_in_nI (n := 3) (by decide) (by decide)) ((h, .inr (2, [.ref q1, .ref q2, .ref q3, .int 0, .int 0, .int 0])) :: ((q1, .inl ((tq_la X).2.2 4, 5, .inr (.inr (.inr (.inr (va_up (va_up (va_up (va_up (fun _ => none) 0 (some q4)) 1 (some q6)) 2 (some q8)) 3 (some q10))))))) :: ((q2, .inl ((tq_la X).2.2 0, 4, .inl (fun _ => 0))) :: ((q3, .inl ((tq_la X).2.2 0, 4, .inl (fun _ => 0))) :: ((wn_X1 (tq_la X) q4 u5 ++ ((wn_X1 (tq_la X) q6 u7 ++ ((wn_X1 (tq_la X) q8 u9 ++ ((wn_X1 (tq_la X) q10 u11 ++ [])))))))))))) rfl ?_
  refine gn_iinc (pc := 46) (j := 0) (v := 4) C dX2_init_46 [(1, .int 4), (0, .ref h)] rfl (by decide) (by decide) rfl ?_
  refine gn_goto (pc := 49) C dX2_init_49 28 (by decide) ?_
  refine gn_iload_n (pc := 28) C dX2_init_28 0 rfl rfl ?_
  refine gn_iconst (pc := 29) (v := 4) C dX2_init_29 (by decide) ?_
  refine gn_ic_gt (pc := 30) C dX2_init_30 52 (by decide) (fun c9 => absurd c9 (by decide)) (fun c9 => ?_)
  refine gn_aload_n (pc := 33) C dX2_init_33 1 rfl rfl ?_
  refine gn_get (pc := 34) C dX2_init_34 rfl itX2 0 (by decide) (tq_mem (by decide +kernel) rfl) rfl ?_
  refine gn_iload_n (pc := 37) C dX2_init_37 0 rfl rfl ?_
  refine gn_new (pc := 38) (ci := 1) C dX2_init_38 (tq_mem (by decide +kernel) rfl) (tq_mem (by decide +kernel) rfl) (tq_mem (by decide +kernel) rfl) itX1 tyX1 tyX1_ok rfl [.null, .null, .null, .null, .null, .int 0, .int 0, .int 0, .int 0, .int 0, .int 0, .int 0, .int 0, .int 0] df_X1 (by rw [hQ]; decide) (by rw [hQ]; decide) (fun q12 => ?_)
  refine gn_dup (pc := 41) C dX2_init_41 rfl ?_
  refine gn_initN (pc := 42) C (ok_X1_init) ((tq_Nn C) _ (List.mem_of_getElem? (i := 5) rfl)) (tq_mem (by decide +kernel) rfl) (tq_mem (by decide +kernel) rfl) (tq_mem (by decide +kernel) rfl) (by decide +kernel) rfl (by decide) rfl (by rw [hQ]; decide) (by rw [hQ]; decide) dX2_init_42 (fun u13 => ?_)
  refine gn_aast (pc := 45) C dX2_init_45 1 28 rfl rfl rfl rfl (vp_in_nI (n := 4) (by decide) (by decide)) ((h, .inr (2, [.ref q1, .ref q2, .ref q3, .int 0, .int 0, .int 0])) :: ((q1, .inl ((tq_la X).2.2 4, 5, .inr (.inr (.inr (.inr (va_up (va_up (va_up (va_up (va_up (fun _ => none) 0 (some q4)) 1 (some q6)) 2 (some q8)) 3 (some q10)) 4 (some q12))))))) :: ((q2, .inl ((tq_la X).2.2 0, 4, .inl (fun _ => 0))) :: ((q3, .inl ((tq_la X).2.2 0, 4, .inl (fun _ => 0))) :: ((wn_X1 (tq_la X) q4 u5 ++ ((wn_X1 (tq_la X) q6 u7 ++ ((wn_X1 (tq_la X) q8 u9 ++ ((wn_X1 (tq_la X) q10 u11 ++ ((wn_X1 (tq_la X) q12 u13 ++ [])))))))))))))) rfl ?_
  refine gn_iinc (pc := 46) (j := 0) (v := 5) C dX2_init_46 [(1, .int 5), (0, .ref h)] rfl (by decide) (by decide) rfl ?_
  refine gn_goto (pc := 49) C dX2_init_49 28 (by decide) ?_
  refine gn_iload_n (pc := 28) C dX2_init_28 0 rfl rfl ?_
  refine gn_iconst (pc := 29) (v := 4) C dX2_init_29 (by decide) ?_
  refine gn_ic_gt (pc := 30) C dX2_init_30 52 (by decide) (fun c9 => ?_) (fun c9 => absurd (by decide) c9)
  exact hR (fun i => if i = 0 then q1 else if i = 1 then q2 else if i = 2 then q3 else if i = 3 then q4 else if i < 9 then u5 (i - 4) else if i = 9 then q6 else if i < 15 then u7 (i - 10) else if i = 15 then q8 else if i < 21 then u9 (i - 16) else if i = 21 then q10 else if i < 27 then u11 (i - 22) else if i = 27 then q12 else if i < 33 then u13 (i - 28) else 0) _ _ dX2_init_52
def wn_X0 (a : tq_La) (h : Nat) (u : Nat → Nat) : va_W := ((h, .inr (0, [.ref (u 0), .ref (u 1), .long 0])) :: (((u 0), .inl (a.2.2 4, 9, .inr (.inr (.inr (.inr (va_up (va_up (va_up (va_up (va_up (va_up (va_up (va_up (va_up (fun _ => none) 0 (some (u 2))) 1 (some (u 8))) 2 (some (u 14))) 3 (some (u 20))) 4 (some (u 26))) 5 (some (u 32))) 6 (some (u 38))) 7 (some (u 44))) 8 (some (u 50)))))))) :: (((u 1), .inl (a.2.2 3, 5, .inr (.inl (fun _ => 0)))) :: (wn_X1 a (u 2) (fun i => u (3 + i)) ++ (wn_X1 a (u 8) (fun i => u (9 + i)) ++ (wn_X1 a (u 14) (fun i => u (15 + i)) ++ (wn_X1 a (u 20) (fun i => u (21 + i)) ++ (wn_X1 a (u 26) (fun i => u (27 + i)) ++ (wn_X1 a (u 32) (fun i => u (33 + i)) ++ (wn_X1 a (u 38) (fun i => u (39 + i)) ++ (wn_X1 a (u 44) (fun i => u (45 + i)) ++ (wn_X1 a (u 50) (fun i => u (51 + i)) ++ []))))))))))))
set_option maxRecDepth 100000 in
set_option maxHeartbeats 8000000 in
theorem ok_X0_init : tq_MI yX0_init cX0_init 2 2 56 392 0 [.null, .null, .long 0] wn_X0 := by
  refine tq_mkC (by decide) rfl (by decide) ?_
  intro X h C hQ hR
  refine gn_aload_n (pc := 0) C dX0_init_0 0 rfl rfl ?_
  refine gn_objInit (pc := 1) C (by decide) (tq_mem (by decide +kernel) rfl) (tq_mem (by decide +kernel) rfl) (tq_mem (by decide +kernel) rfl) dX0_init_1 ?_
  refine gn_aload_n (pc := 4) C dX0_init_4 0 rfl rfl ?_
  refine gn_bipush (pc := 5) (v := 9) C dX0_init_5 (by decide) ?_
  refine gn_anew (pc := 7) C dX0_init_7 (tq_mem (by decide +kernel) rfl) (tq_AOX1 C) 4 rfl 9 (by decide) (by decide) (by decide) (by rw [hQ]; decide) (by rw [hQ]; decide) (fun q1 => ?_)
  refine gn_putF (pc := 10) C dX0_init_10 rfl itX0 tyX0 tyX0_ok nmX0 0 (by decide) (tq_mem (by decide +kernel) rfl) rfl rfl (ty := tyX0 0) (by decide +kernel) rfl rfl (Nat.le_of_ble_eq_true rfl) [.ref q1, .null, .long 0] rfl ?_
  refine gn_aload_n (pc := 13) C dX0_init_13 0 rfl rfl ?_
  refine gn_iconst (pc := 14) (v := 5) C dX0_init_14 (by decide) ?_
  refine gn_newa (pc := 15) C dX0_init_15 rfl (tq_mem (by decide +kernel) rfl) 3 rfl 5 (5, .inr (.inl (fun _ => 0))) (fun cA => rfl) (by decide) (by decide) (by decide) (by rw [hQ]; decide) (by rw [hQ]; decide) (fun q2 => ?_)
  refine gn_putF (pc := 17) C dX0_init_17 rfl itX0 tyX0 tyX0_ok nmX0 1 (by decide) (tq_mem (by decide +kernel) rfl) rfl rfl (ty := tyX0 1) (by decide +kernel) rfl rfl (Nat.le_of_ble_eq_true rfl) [.ref q1, .ref q2, .long 0] rfl ?_
  refine gn_iconst (pc := 20) (v := 0) C dX0_init_20 (by decide) ?_
  refine gn_istore_n (pc := 21) C dX0_init_21 [(1, .int 0), (0, .ref h)] rfl (by decide) rfl ?_
  refine gn_iload_n (pc := 22) C dX0_init_22 0 rfl rfl ?_
  refine gn_bipush (pc := 23) (v := 8) C dX0_init_23 (by decide) ?_
  refine gn_ic_gt (pc := 25) C dX0_init_25 47 (by decide) (fun c9 => absurd c9 (by decide)) (fun c9 => ?_)
  refine gn_aload_n (pc := 28) C dX0_init_28 1 rfl rfl ?_
  refine gn_get (pc := 29) C dX0_init_29 rfl itX0 0 (by decide) (tq_mem (by decide +kernel) rfl) rfl ?_
  refine gn_iload_n (pc := 32) C dX0_init_32 0 rfl rfl ?_
  refine gn_new (pc := 33) (ci := 1) C dX0_init_33 (tq_mem (by decide +kernel) rfl) (tq_mem (by decide +kernel) rfl) (tq_mem (by decide +kernel) rfl) itX1 tyX1 tyX1_ok rfl [.null, .null, .null, .null, .null, .int 0, .int 0, .int 0, .int 0, .int 0, .int 0, .int 0, .int 0, .int 0] df_X1 (by rw [hQ]; decide) (by rw [hQ]; decide) (fun q3 => ?_)
  refine gn_dup (pc := 36) C dX0_init_36 rfl ?_
  refine gn_initN (pc := 37) C (ok_X1_init) ((tq_Nn C) _ (List.mem_of_getElem? (i := 4) rfl)) (tq_mem (by decide +kernel) rfl) (tq_mem (by decide +kernel) rfl) (tq_mem (by decide +kernel) rfl) (by decide +kernel) rfl (by decide) rfl (by rw [hQ]; decide) (by rw [hQ]; decide) dX0_init_37 (fun u4 => ?_)
  refine gn_aast (pc := 40) C dX0_init_40 1 3 rfl rfl rfl rfl (vp_in_nI (n := 0) (by decide) (by decide)) ((h, .inr (0, [.ref q1, .ref q2, .long 0])) :: ((q1, .inl ((tq_la X).2.2 4, 9, .inr (.inr (.inr (.inr (va_up (fun _ => none) 0 (some q3))))))) :: ((q2, .inl ((tq_la X).2.2 3, 5, .inr (.inl (fun _ => 0)))) :: ((wn_X1 (tq_la X) q3 u4 ++ []))))) rfl ?_
  refine gn_iinc (pc := 41) (j := 0) (v := 1) C dX0_init_41 [(1, .int 1), (0, .ref h)] rfl (by decide) (by decide) rfl ?_
  refine gn_goto (pc := 44) C dX0_init_44 22 (by decide) ?_
  refine gn_iload_n (pc := 22) C dX0_init_22 0 rfl rfl ?_
  refine gn_bipush (pc := 23) (v := 8) C dX0_init_23 (by decide) ?_
  refine gn_ic_gt (pc := 25) C dX0_init_25 47 (by decide) (fun c9 => absurd c9 (by decide)) (fun c9 => ?_)
  refine gn_aload_n (pc := 28) C dX0_init_28 1 rfl rfl ?_
  refine gn_get (pc := 29) C dX0_init_29 rfl itX0 0 (by decide) (tq_mem (by decide +kernel) rfl) rfl ?_
  refine gn_iload_n (pc := 32) C dX0_init_32 0 rfl rfl ?_
  refine gn_new (pc := 33) (ci := 1) C dX0_init_33 (tq_mem (by decide +kernel) rfl) (tq_mem (by decide +kernel) rfl) (tq_mem (by decide +kernel) rfl) itX1 tyX1 tyX1_ok rfl [.null, .null, .null, .null, .null, .int 0, .int 0, .int 0, .int 0, .int 0, .int 0, .int 0, .int 0, .int 0] df_X1 (by rw [hQ]; decide) (by rw [hQ]; decide) (fun q5 => ?_)
  refine gn_dup (pc := 36) C dX0_init_36 rfl ?_
  refine gn_initN (pc := 37) C (ok_X1_init) ((tq_Nn C) _ (List.mem_of_getElem? (i := 4) rfl)) (tq_mem (by decide +kernel) rfl) (tq_mem (by decide +kernel) rfl) (tq_mem (by decide +kernel) rfl) (by decide +kernel) rfl (by decide) rfl (by rw [hQ]; decide) (by rw [hQ]; decide) dX0_init_37 (fun u6 => ?_)
  refine gn_aast (pc := 40) C dX0_init_40 1 9 rfl rfl rfl rfl (vp_in_nI (n := 1) (by decide) (by decide)) ((h, .inr (0, [.ref q1, .ref q2, .long 0])) :: ((q1, .inl ((tq_la X).2.2 4, 9, .inr (.inr (.inr (.inr (va_up (va_up (fun _ => none) 0 (some q3)) 1 (some q5))))))) :: ((q2, .inl ((tq_la X).2.2 3, 5, .inr (.inl (fun _ => 0)))) :: ((wn_X1 (tq_la X) q3 u4 ++ ((wn_X1 (tq_la X) q5 u6 ++ []))))))) rfl ?_
  refine gn_iinc (pc := 41) (j := 0) (v := 2) C dX0_init_41 [(1, .int 2), (0, .ref h)] rfl (by decide) (by decide) rfl ?_
  refine gn_goto (pc := 44) C dX0_init_44 22 (by decide) ?_
  refine gn_iload_n (pc := 22) C dX0_init_22 0 rfl rfl ?_
  refine gn_bipush (pc := 23) (v := 8) C dX0_init_23 (by decide) ?_
  refine gn_ic_gt (pc := 25) C dX0_init_25 47 (by decide) (fun c9 => absurd c9 (by decide)) (fun c9 => ?_)
  refine gn_aload_n (pc := 28) C dX0_init_28 1 rfl rfl ?_
  refine gn_get (pc := 29) C dX0_init_29 rfl itX0 0 (by decide) (tq_mem (by decide +kernel) rfl) rfl ?_
  refine gn_iload_n (pc := 32) C dX0_init_32 0 rfl rfl ?_
  refine gn_new (pc := 33) (ci := 1) C dX0_init_33 (tq_mem (by decide +kernel) rfl) (tq_mem (by decide +kernel) rfl) (tq_mem (by decide +kernel) rfl) itX1 tyX1 tyX1_ok rfl [.null, .null, .null, .null, .null, .int 0, .int 0, .int 0, .int 0, .int 0, .int 0, .int 0, .int 0, .int 0] df_X1 (by rw [hQ]; decide) (by rw [hQ]; decide) (fun q7 => ?_)
  refine gn_dup (pc := 36) C dX0_init_36 rfl ?_
  refine gn_initN (pc := 37) C (ok_X1_init) ((tq_Nn C) _ (List.mem_of_getElem? (i := 4) rfl)) (tq_mem (by decide +kernel) rfl) (tq_mem (by decide +kernel) rfl) (tq_mem (by decide +kernel) rfl) (by decide +kernel) rfl (by decide) rfl (by rw [hQ]; decide) (by rw [hQ]; decide) dX0_init_37 (fun u8 => ?_)
  refine gn_aast (pc := 40) C dX0_init_40 1 15 rfl rfl rfl rfl (vp_in_nI (n := 2) (by decide) (by decide)) ((h, .inr (0, [.ref q1, .ref q2, .long 0])) :: ((q1, .inl ((tq_la X).2.2 4, 9, .inr (.inr (.inr (.inr (va_up (va_up (va_up (fun _ => none) 0 (some q3)) 1 (some q5)) 2 (some q7))))))) :: ((q2, .inl ((tq_la X).2.2 3, 5, .inr (.inl (fun _ => 0)))) :: ((wn_X1 (tq_la X) q3 u4 ++ ((wn_X1 (tq_la X) q5 u6 ++ ((wn_X1 (tq_la X) q7 u8 ++ []))))))))) rfl ?_
  refine gn_iinc (pc := 41) (j := 0) (v := 3) C dX0_init_41 [(1, .int 3), (0, .ref h)] rfl (by decide) (by decide) rfl ?_
  refine gn_goto (pc := 44) C dX0_init_44 22 (by decide) ?_
  refine gn_iload_n (pc := 22) C dX0_init_22 0 rfl rfl ?_
  refine gn_bipush (pc := 23) (v := 8) C dX0_init_23 (by decide) ?_
  refine gn_ic_gt (pc := 25) C dX0_init_25 47 (by decide) (fun c9 => absurd c9 (by decide)) (fun c9 => ?_)
  refine gn_aload_n (pc := 28) C dX0_init_28 1 rfl rfl ?_
  refine gn_get (pc := 29) C dX0_init_29 rfl itX0 0 (by decide) (tq_mem (by decide +kernel) rfl) rfl ?_
  refine gn_iload_n (pc := 32) C dX0_init_32 0 rfl rfl ?_
  refine gn_new (pc := 33) (ci := 1) C dX0_init_33 (tq_mem (by decide +kernel) rfl) (tq_mem (by decide +kernel) rfl) (tq_mem (by decide +kernel) rfl) itX1 tyX1 tyX1_ok rfl [.null, .null, .null, .null, .null, .int 0, .int 0, .int 0, .int 0, .int 0, .int 0, .int 0, .int 0, .int 0] df_X1 (by rw [hQ]; decide) (by rw [hQ]; decide) (fun q9 => ?_)
  refine gn_dup (pc := 36) C dX0_init_36 rfl ?_
  refine gn_initN (pc := 37) C (ok_X1_init) ((tq_Nn C) _ (List.mem_of_getElem? (i := 4) rfl)) (tq_mem (by decide +kernel) rfl) (tq_mem (by decide +kernel) rfl) (tq_mem (by decide +kernel) rfl) (by decide +kernel) rfl (by decide) rfl (by rw [hQ]; decide) (by rw [hQ]; decide) dX0_init_37 (fun u10 => ?_)
  refine gn_aast (pc := 40) C dX0_init_40 1 21 rfl rfl rfl rfl (vp_in_nI (n := 3) (by decide) (by decide)) ((h, .inr (0, [.ref q1, .ref q2, .long 0])) :: ((q1, .inl ((tq_la X).2.2 4, 9, .inr (.inr (.inr (.inr (va_up (va_up (va_up (va_up (fun _ => none) 0 (some q3)) 1 (some q5)) 2 (some q7)) 3 (some q9))))))) :: ((q2, .inl ((tq_la X).2.2 3, 5, .inr (.inl (fun _ => 0)))) :: ((wn_X1 (tq_la X) q3 u4 ++ ((wn_X1 (tq_la X) q5 u6 ++ ((wn_X1 (tq_la X) q7 u8 ++ ((wn_X1 (tq_la X) q9 u10 ++ []))))))))))) rfl ?_
  refine gn_iinc (pc := 41) (j := 0) (v := 4) C dX0_init_41 [(1, .int 4), (0, .ref h)] rfl (by decide) (by decide) rfl ?_
  refine gn_goto (pc := 44) C dX0_init_44 22 (by decide) ?_
  refine gn_iload_n (pc := 22) C dX0_init_22 0 rfl rfl ?_
  refine gn_bipush (pc := 23) (v := 8) C dX0_init_23 (by decide) ?_
  refine gn_ic_gt (pc := 25) C dX0_init_25 47 (by decide) (fun c9 => absurd c9 (by decide)) (fun c9 => ?_)
  refine gn_aload_n (pc := 28) C dX0_init_28 1 rfl rfl ?_
  refine gn_get (pc := 29) C dX0_init_29 rfl itX0 0 (by decide) (tq_mem (by decide +kernel) rfl) rfl ?_
  refine gn_iload_n (pc := 32) C dX0_init_32 0 rfl rfl ?_
  refine gn_new (pc := 33) (ci := 1) C dX0_init_33 (tq_mem (by decide +kernel) rfl) (tq_mem (by decide +kernel) rfl) (tq_mem (by decide +kernel) rfl) itX1 tyX1 tyX1_ok rfl [.null, .null, .null, .null, .null, .int 0, .int 0, .int 0, .int 0, .int 0, .int 0, .int 0, .int 0, .int 0] df_X1 (by rw [hQ]; decide) (by rw [hQ]; decide) (fun q11 => ?_)
  refine gn_dup (pc := 36) C dX0_init_36 rfl ?_
  refine gn_initN (pc := 37) C (ok_X1_init) ((tq_Nn C) _ (List.mem_of_getElem? (i := 4) rfl)) (tq_mem (by decide +kernel) rfl) (tq_mem (by decide +kernel) rfl) (tq_mem (by decide +kernel) rfl) (by decide +kernel) rfl (by decide) rfl (by rw [hQ]; decide) (by rw [hQ]; decide) dX0_init_37 (fun u12 => ?_)
  refine gn_aast (pc := 40) C dX0_init_40 1 27 rfl rfl rfl rfl (vp_in_nI (n := 4) (by decide) (by decide)) ((h, .inr (0, [.ref q1, .ref q2, .long 0])) :: ((q1, .inl ((tq_la X).2.2 4, 9, .inr (.inr (.inr (.inr (va_up (va_up (va_up (va_up (va_up (fun _ => none) 0 (some q3)) 1 (some q5)) 2 (some q7)) 3 (some q9)) 4 (some q11))))))) :: ((q2, .inl ((tq_la X).2.2 3, 5, .inr (.inl (fun _ => 0)))) :: ((wn_X1 (tq_la X) q3 u4 ++ ((wn_X1 (tq_la X) q5 u6 ++ ((wn_X1 (tq_la X) q7 u8 ++ ((wn_X1 (tq_la X) q9 u10 ++ ((wn_X1 (tq_la X) q11 u12 ++ []))))))))))))) rfl ?_
  refine gn_iinc (pc := 41) (j := 0) (v := 5) C dX0_init_41 [(1, .int 5), (0, .ref h)] rfl (by decide) (by decide) rfl ?_
  refine gn_goto (pc := 44) C dX0_init_44 22 (by decide) ?_
  refine gn_iload_n (pc := 22) C dX0_init_22 0 rfl rfl ?_
  refine gn_bipush (pc := 23) (v := 8) C dX0_init_23 (by decide) ?_
  refine gn_ic_gt (pc := 25) C dX0_init_25 47 (by decide) (fun c9 => absurd c9 (by decide)) (fun c9 => ?_)
  refine gn_aload_n (pc := 28) C dX0_init_28 1 rfl rfl ?_
  refine gn_get (pc := 29) C dX0_init_29 rfl itX0 0 (by decide) (tq_mem (by decide +kernel) rfl) rfl ?_
  refine gn_iload_n (pc := 32) C dX0_init_32 0 rfl rfl ?_
  refine gn_new (pc := 33) (ci := 1) C dX0_init_33 (tq_mem (by decide +kernel) rfl) (tq_mem (by decide +kernel) rfl) (tq_mem (by decide +kernel) rfl) itX1 tyX1 tyX1_ok rfl [.null, .null, .null, .null, .null, .int 0, .int 0, .int 0, .int 0, .int 0, .int 0, .int 0, .int 0, .int 0] df_X1 (by rw [hQ]; decide) (by rw [hQ]; decide) (fun q13 => ?_)
  refine gn_dup (pc := 36) C dX0_init_36 rfl ?_
  refine gn_initN (pc := 37) C (ok_X1_init) ((tq_Nn C) _ (List.mem_of_getElem? (i := 4) rfl)) (tq_mem (by decide +kernel) rfl) (tq_mem (by decide +kernel) rfl) (tq_mem (by decide +kernel) rfl) (by decide +kernel) rfl (by decide) rfl (by rw [hQ]; decide) (by rw [hQ]; decide) dX0_init_37 (fun u14 => ?_)
  refine gn_aast (pc := 40) C dX0_init_40 1 33 rfl rfl rfl rfl (vp_in_nI (n := 5) (by decide) (by decide)) ((h, .inr (0, [.ref q1, .ref q2, .long 0])) :: ((q1, .inl ((tq_la X).2.2 4, 9, .inr (.inr (.inr (.inr (va_up (va_up (va_up (va_up (va_up (va_up (fun _ => none) 0 (some q3)) 1 (some q5)) 2 (some q7)) 3 (some q9)) 4 (some q11)) 5 (some q13))))))) :: ((q2, .inl ((tq_la X).2.2 3, 5, .inr (.inl (fun _ => 0)))) :: ((wn_X1 (tq_la X) q3 u4 ++ ((wn_X1 (tq_la X) q5 u6 ++ ((wn_X1 (tq_la X) q7 u8 ++ ((wn_X1 (tq_la X) q9 u10 ++ ((wn_X1 (tq_la X) q11 u12 ++ ((wn_X1 (tq_la X) q13 u14 ++ []))))))))))))))) rfl ?_
  refine gn_iinc (pc := 41) (j := 0) (v := 6) C dX0_init_41 [(1, .int 6), (0, .ref h)] rfl (by decide) (by decide) rfl ?_
  refine gn_goto (pc := 44) C dX0_init_44 22 (by decide) ?_
  refine gn_iload_n (pc := 22) C dX0_init_22 0 rfl rfl ?_
  refine gn_bipush (pc := 23) (v := 8) C dX0_init_23 (by decide) ?_
  refine gn_ic_gt (pc := 25) C dX0_init_25 47 (by decide) (fun c9 => absurd c9 (by decide)) (fun c9 => ?_)
  refine gn_aload_n (pc := 28) C dX0_init_28 1 rfl rfl ?_
  refine gn_get (pc := 29) C dX0_init_29 rfl itX0 0 (by decide) (tq_mem (by decide +kernel) rfl) rfl ?_
  refine gn_iload_n (pc := 32) C dX0_init_32 0 rfl rfl ?_
  refine gn_new (pc := 33) (ci := 1) C dX0_init_33 (tq_mem (by decide +kernel) rfl) (tq_mem (by decide +kernel) rfl) (tq_mem (by decide +kernel) rfl) itX1 tyX1 tyX1_ok rfl [.null, .null, .null, .null, .null, .int 0, .int 0, .int 0, .int 0, .int 0, .int 0, .int 0, .int 0, .int 0] df_X1 (by rw [hQ]; decide) (by rw [hQ]; decide) (fun q15 => ?_)
  refine gn_dup (pc := 36) C dX0_init_36 rfl ?_
  refine gn_initN (pc := 37) C (ok_X1_init) ((tq_Nn C) _ (List.mem_of_getElem? (i := 4) rfl)) (tq_mem (by decide +kernel) rfl) (tq_mem (by decide +kernel) rfl) (tq_mem (by decide +kernel) rfl) (by decide +kernel) rfl (by decide) rfl (by rw [hQ]; decide) (by rw [hQ]; decide) dX0_init_37 (fun u16 => ?_)
  refine gn_aast (pc := 40) C dX0_init_40 1 39 rfl rfl rfl rfl (vp_in_nI (n := 6) (by decide) (by decide)) ((h, .inr (0, [.ref q1, .ref q2, .long 0])) :: ((q1, .inl ((tq_la X).2.2 4, 9, .inr (.inr (.inr (.inr (va_up (va_up (va_up (va_up (va_up (va_up (va_up (fun _ => none) 0 (some q3)) 1 (some q5)) 2 (some q7)) 3 (some q9)) 4 (some q11)) 5 (some q13)) 6 (some q15))))))) :: ((q2, .inl ((tq_la X).2.2 3, 5, .inr (.inl (fun _ => 0)))) :: ((wn_X1 (tq_la X) q3 u4 ++ ((wn_X1 (tq_la X) q5 u6 ++ ((wn_X1 (tq_la X) q7 u8 ++ ((wn_X1 (tq_la X) q9 u10 ++ ((wn_X1 (tq_la X) q11 u12 ++ ((wn_X1 (tq_la X) q13 u14 ++ ((wn_X1 (tq_la X) q15 u16 ++ []))))))))))))))))) rfl ?_
  refine gn_iinc (pc := 41) (j := 0) (v := 7) C dX0_init_41 [(1, .int 7), (0, .ref h)] rfl (by decide) (by decide) rfl ?_
  refine gn_goto (pc := 44) C dX0_init_44 22 (by decide) ?_
  refine gn_iload_n (pc := 22) C dX0_init_22 0 rfl rfl ?_
  refine gn_bipush (pc := 23) (v := 8) C dX0_init_23 (by decide) ?_
  refine gn_ic_gt (pc := 25) C dX0_init_25 47 (by decide) (fun c9 => absurd c9 (by decide)) (fun c9 => ?_)
  refine gn_aload_n (pc := 28) C dX0_init_28 1 rfl rfl ?_
  refine gn_get (pc := 29) C dX0_init_29 rfl itX0 0 (by decide) (tq_mem (by decide +kernel) rfl) rfl ?_
  refine gn_iload_n (pc := 32) C dX0_init_32 0 rfl rfl ?_
  refine gn_new (pc := 33) (ci := 1) C dX0_init_33 (tq_mem (by decide +kernel) rfl) (tq_mem (by decide +kernel) rfl) (tq_mem (by decide +kernel) rfl) itX1 tyX1 tyX1_ok rfl [.null, .null, .null, .null, .null, .int 0, .int 0, .int 0, .int 0, .int 0, .int 0, .int 0, .int 0, .int 0] df_X1 (by rw [hQ]; decide) (by rw [hQ]; decide) (fun q17 => ?_)
  refine gn_dup (pc := 36) C dX0_init_36 rfl ?_
  refine gn_initN (pc := 37) C (ok_X1_init) ((tq_Nn C) _ (List.mem_of_getElem? (i := 4) rfl)) (tq_mem (by decide +kernel) rfl) (tq_mem (by decide +kernel) rfl) (tq_mem (by decide +kernel) rfl) (by decide +kernel) rfl (by decide) rfl (by rw [hQ]; decide) (by rw [hQ]; decide) dX0_init_37 (fun u18 => ?_)
  refine gn_aast (pc := 40) C dX0_init_40 1 45 rfl rfl rfl rfl (vp_in_nI (n := 7) (by decide) (by decide)) ((h, .inr (0, [.ref q1, .ref q2, .long 0])) :: ((q1, .inl ((tq_la X).2.2 4, 9, .inr (.inr (.inr (.inr (va_up (va_up (va_up (va_up (va_up (va_up (va_up (va_up (fun _ => none) 0 (some q3)) 1 (some q5)) 2 (some q7)) 3 (some q9)) 4 (some q11)) 5 (some q13)) 6 (some q15)) 7 (some q17))))))) :: ((q2, .inl ((tq_la X).2.2 3, 5, .inr (.inl (fun _ => 0)))) :: ((wn_X1 (tq_la X) q3 u4 ++ ((wn_X1 (tq_la X) q5 u6 ++ ((wn_X1 (tq_la X) q7 u8 ++ ((wn_X1 (tq_la X) q9 u10 ++ ((wn_X1 (tq_la X) q11 u12 ++ ((wn_X1 (tq_la X) q13 u14 ++ ((wn_X1 (tq_la X) q15 u16 ++ ((wn_X1 (tq_la X) q17 u18 ++ []))))))))))))))))))) rfl ?_
  refine gn_iinc (pc := 41) (j := 0) (v := 8) C dX0_init_41 [(1, .int 8), (0, .ref h)] rfl (by decide) (by decide) rfl ?_
  refine gn_goto (pc := 44) C dX0_init_44 22 (by decide) ?_
  refine gn_iload_n (pc := 22) C dX0_init_22 0 rfl rfl ?_
  refine gn_bipush (pc := 23) (v := 8) C dX0_init_23 (by decide) ?_
  refine gn_ic_gt (pc := 25) C dX0_init_25 47 (by decide) (fun c9 => absurd c9 (by decide)) (fun c9 => ?_)
  refine gn_aload_n (pc := 28) C dX0_init_28 1 rfl rfl ?_
  refine gn_get (pc := 29) C dX0_init_29 rfl itX0 0 (by decide) (tq_mem (by decide +kernel) rfl) rfl ?_
  refine gn_iload_n (pc := 32) C dX0_init_32 0 rfl rfl ?_
  refine gn_new (pc := 33) (ci := 1) C dX0_init_33 (tq_mem (by decide +kernel) rfl) (tq_mem (by decide +kernel) rfl) (tq_mem (by decide +kernel) rfl) itX1 tyX1 tyX1_ok rfl [.null, .null, .null, .null, .null, .int 0, .int 0, .int 0, .int 0, .int 0, .int 0, .int 0, .int 0, .int 0] df_X1 (by rw [hQ]; decide) (by rw [hQ]; decide) (fun q19 => ?_)
  refine gn_dup (pc := 36) C dX0_init_36 rfl ?_
  refine gn_initN (pc := 37) C (ok_X1_init) ((tq_Nn C) _ (List.mem_of_getElem? (i := 4) rfl)) (tq_mem (by decide +kernel) rfl) (tq_mem (by decide +kernel) rfl) (tq_mem (by decide +kernel) rfl) (by decide +kernel) rfl (by decide) rfl (by rw [hQ]; decide) (by rw [hQ]; decide) dX0_init_37 (fun u20 => ?_)
  refine gn_aast (pc := 40) C dX0_init_40 1 51 rfl rfl rfl rfl (vp_in_nI (n := 8) (by decide) (by decide)) ((h, .inr (0, [.ref q1, .ref q2, .long 0])) :: ((q1, .inl ((tq_la X).2.2 4, 9, .inr (.inr (.inr (.inr (va_up (va_up (va_up (va_up (va_up (va_up (va_up (va_up (va_up (fun _ => none) 0 (some q3)) 1 (some q5)) 2 (some q7)) 3 (some q9)) 4 (some q11)) 5 (some q13)) 6 (some q15)) 7 (some q17)) 8 (some q19))))))) :: ((q2, .inl ((tq_la X).2.2 3, 5, .inr (.inl (fun _ => 0)))) :: ((wn_X1 (tq_la X) q3 u4 ++ ((wn_X1 (tq_la X) q5 u6 ++ ((wn_X1 (tq_la X) q7 u8 ++ ((wn_X1 (tq_la X) q9 u10 ++ ((wn_X1 (tq_la X) q11 u12 ++ ((wn_X1 (tq_la X) q13 u14 ++ ((wn_X1 (tq_la X) q15 u16 ++ ((wn_X1 (tq_la X) q17 u18 ++ ((wn_X1 (tq_la X) q19 u20 ++ []))))))))))))))))))))) rfl ?_
  refine gn_iinc (pc := 41) (j := 0) (v := 9) C dX0_init_41 [(1, .int 9), (0, .ref h)] rfl (by decide) (by decide) rfl ?_
  refine gn_goto (pc := 44) C dX0_init_44 22 (by decide) ?_
  refine gn_iload_n (pc := 22) C dX0_init_22 0 rfl rfl ?_
  refine gn_bipush (pc := 23) (v := 8) C dX0_init_23 (by decide) ?_
  refine gn_ic_gt (pc := 25) C dX0_init_25 47 (by decide) (fun c9 => ?_) (fun c9 => absurd (by decide) c9)
  exact hR (fun i => if i = 0 then q1 else if i = 1 then q2 else if i = 2 then q3 else if i < 8 then u4 (i - 3) else if i = 8 then q5 else if i < 14 then u6 (i - 9) else if i = 14 then q7 else if i < 20 then u8 (i - 15) else if i = 20 then q9 else if i < 26 then u10 (i - 21) else if i = 26 then q11 else if i < 32 then u12 (i - 27) else if i = 32 then q13 else if i < 38 then u14 (i - 33) else if i = 38 then q15 else if i < 44 then u16 (i - 39) else if i = 44 then q17 else if i < 50 then u18 (i - 45) else if i = 50 then q19 else if i < 56 then u20 (i - 51) else 0) _ _ dX0_init_47
def wn_X6 (a : tq_La) (h : Nat) (u : Nat → Nat) : va_W := ((h, .inr (6, [.ref (u 0), .ref (u 6), .ref (u 12), .ref (u 20), .ref (u 23), .ref (u 57), .ref (u 114), .ref (u 115), .ref (u 116), .ref (u 117), .int 0])) :: (wn_X1 a (u 0) (fun i => u (1 + i)) ++ (wn_X1 a (u 6) (fun i => u (7 + i)) ++ (wn_X5 a (u 12) (fun i => u (13 + i)) ++ (wn_X4 a (u 20) (fun i => u (21 + i)) ++ (wn_X2 a (u 23) (fun i => u (24 + i)) ++ (wn_X0 a (u 57) (fun i => u (58 + i)) ++ (((u 114), .inl (a.2.2 4, 2, .inr (.inr (.inr (.inr (va_up (va_up (fun _ => none) 0 (some (u 118))) 1 (some (u 124)))))))) :: (((u 115), .inl (a.2.2 2, 2, .inl (fun _ => 0))) :: (((u 116), .inl (a.2.2 5, 4, .inr (.inr (.inr (.inr (va_up (va_up (va_up (va_up (fun _ => none) 0 (some (u 130))) 1 (some (u 132))) 2 (some (u 134))) 3 (some (u 136)))))))) :: (((u 117), .inl (a.2.2 0, 21, .inl (fun _ => 0))) :: (wn_X1 a (u 118) (fun i => u (119 + i)) ++ (wn_X1 a (u 124) (fun i => u (125 + i)) ++ (wn_X3 a (u 130) (fun i => u (131 + i)) ++ (wn_X3 a (u 132) (fun i => u (133 + i)) ++ (wn_X3 a (u 134) (fun i => u (135 + i)) ++ (wn_X3 a (u 136) (fun i => u (137 + i)) ++ [])))))))))))))))))
set_option maxRecDepth 100000 in
set_option maxHeartbeats 8000000 in
theorem ok_X6_init : tq_MI yX6_init cX6_init 2 3 138 1224 6 [.null, .null, .null, .null, .null, .null, .null, .null, .null, .null, .int 0] wn_X6 := by
  refine tq_mkC (by decide) rfl (by decide) ?_
  intro X h C hQ hR
  refine gn_aload_n (pc := 0) C dX6_init_0 0 rfl rfl ?_
  refine gn_objInit (pc := 1) C (by decide) (tq_mem (by decide +kernel) rfl) (tq_mem (by decide +kernel) rfl) (tq_mem (by decide +kernel) rfl) dX6_init_1 ?_
  refine gn_aload_n (pc := 4) C dX6_init_4 0 rfl rfl ?_
  refine gn_new (pc := 5) (ci := 1) C dX6_init_5 (tq_mem (by decide +kernel) rfl) (tq_mem (by decide +kernel) rfl) (tq_mem (by decide +kernel) rfl) itX1 tyX1 tyX1_ok rfl [.null, .null, .null, .null, .null, .int 0, .int 0, .int 0, .int 0, .int 0, .int 0, .int 0, .int 0, .int 0] df_X1 (by rw [hQ]; decide) (by rw [hQ]; decide) (fun q1 => ?_)
  refine gn_dup (pc := 8) C dX6_init_8 rfl ?_
  refine gn_initN (pc := 9) C (ok_X1_init) ((tq_Nn C) _ (List.mem_of_getElem? (i := 3) rfl)) (tq_mem (by decide +kernel) rfl) (tq_mem (by decide +kernel) rfl) (tq_mem (by decide +kernel) rfl) (by decide +kernel) rfl (by decide) rfl (by rw [hQ]; decide) (by rw [hQ]; decide) dX6_init_9 (fun u2 => ?_)
  refine gn_putF (pc := 12) C dX6_init_12 rfl itX6 tyX6 tyX6_ok nmX6 0 (by decide) (tq_mem (by decide +kernel) rfl) rfl rfl (ty := tyX6 0) (by decide +kernel) rfl rfl (Nat.le_of_ble_eq_true rfl) [.ref q1, .null, .null, .null, .null, .null, .null, .null, .null, .null, .int 0] rfl ?_
  refine gn_aload_n (pc := 15) C dX6_init_15 0 rfl rfl ?_
  refine gn_new (pc := 16) (ci := 1) C dX6_init_16 (tq_mem (by decide +kernel) rfl) (tq_mem (by decide +kernel) rfl) (tq_mem (by decide +kernel) rfl) itX1 tyX1 tyX1_ok rfl [.null, .null, .null, .null, .null, .int 0, .int 0, .int 0, .int 0, .int 0, .int 0, .int 0, .int 0, .int 0] df_X1 (by rw [hQ]; decide) (by rw [hQ]; decide) (fun q3 => ?_)
  refine gn_dup (pc := 19) C dX6_init_19 rfl ?_
  refine gn_initN (pc := 20) C (ok_X1_init) ((tq_Nn C) _ (List.mem_of_getElem? (i := 3) rfl)) (tq_mem (by decide +kernel) rfl) (tq_mem (by decide +kernel) rfl) (tq_mem (by decide +kernel) rfl) (by decide +kernel) rfl (by decide) rfl (by rw [hQ]; decide) (by rw [hQ]; decide) dX6_init_20 (fun u4 => ?_)
  refine gn_putF (pc := 23) C dX6_init_23 rfl itX6 tyX6 tyX6_ok nmX6 1 (by decide) (tq_mem (by decide +kernel) rfl) rfl rfl (ty := tyX6 1) (by decide +kernel) rfl rfl (Nat.le_of_ble_eq_true rfl) [.ref q1, .ref q3, .null, .null, .null, .null, .null, .null, .null, .null, .int 0] rfl ?_
  refine gn_aload_n (pc := 26) C dX6_init_26 0 rfl rfl ?_
  refine gn_new (pc := 27) (ci := 5) C dX6_init_27 (tq_mem (by decide +kernel) rfl) (tq_mem (by decide +kernel) rfl) (tq_mem (by decide +kernel) rfl) itX5 tyX5 tyX5_ok rfl [.null, .null, .int 0, .int 0, .int 0, .int 0, .int 0, .int 0, .int 0, .int 0] df_X5 (by rw [hQ]; decide) (by rw [hQ]; decide) (fun q5 => ?_)
  refine gn_dup (pc := 30) C dX6_init_30 rfl ?_
  refine gn_initN (pc := 31) C (ok_X5_init) ((tq_Nn C) _ (List.mem_of_getElem? (i := 0) rfl)) (tq_mem (by decide +kernel) rfl) (tq_mem (by decide +kernel) rfl) (tq_mem (by decide +kernel) rfl) (by decide +kernel) rfl (by decide) rfl (by rw [hQ]; decide) (by rw [hQ]; decide) dX6_init_31 (fun u6 => ?_)
  refine gn_putF (pc := 34) C dX6_init_34 rfl itX6 tyX6 tyX6_ok nmX6 2 (by decide) (tq_mem (by decide +kernel) rfl) rfl rfl (ty := tyX6 2) (by decide +kernel) rfl rfl (Nat.le_of_ble_eq_true rfl) [.ref q1, .ref q3, .ref q5, .null, .null, .null, .null, .null, .null, .null, .int 0] rfl ?_
  refine gn_aload_n (pc := 37) C dX6_init_37 0 rfl rfl ?_
  refine gn_new (pc := 38) (ci := 4) C dX6_init_38 (tq_mem (by decide +kernel) rfl) (tq_mem (by decide +kernel) rfl) (tq_mem (by decide +kernel) rfl) itX4 tyX4 tyX4_ok rfl [.null, .null, .int 0] df_X4 (by rw [hQ]; decide) (by rw [hQ]; decide) (fun q7 => ?_)
  refine gn_dup (pc := 41) C dX6_init_41 rfl ?_
  refine gn_initN (pc := 42) C (ok_X4_init) ((tq_Nn C) _ (List.mem_of_getElem? (i := 1) rfl)) (tq_mem (by decide +kernel) rfl) (tq_mem (by decide +kernel) rfl) (tq_mem (by decide +kernel) rfl) (by decide +kernel) rfl (by decide) rfl (by rw [hQ]; decide) (by rw [hQ]; decide) dX6_init_42 (fun u8 => ?_)
  refine gn_putF (pc := 45) C dX6_init_45 rfl itX6 tyX6 tyX6_ok nmX6 3 (by decide) (tq_mem (by decide +kernel) rfl) rfl rfl (ty := tyX6 3) (by decide +kernel) rfl rfl (Nat.le_of_ble_eq_true rfl) [.ref q1, .ref q3, .ref q5, .ref q7, .null, .null, .null, .null, .null, .null, .int 0] rfl ?_
  refine gn_aload_n (pc := 48) C dX6_init_48 0 rfl rfl ?_
  refine gn_new (pc := 49) (ci := 2) C dX6_init_49 (tq_mem (by decide +kernel) rfl) (tq_mem (by decide +kernel) rfl) (tq_mem (by decide +kernel) rfl) itX2 tyX2 tyX2_ok rfl [.null, .null, .null, .int 0, .int 0, .int 0] df_X2 (by rw [hQ]; decide) (by rw [hQ]; decide) (fun q9 => ?_)
  refine gn_dup (pc := 52) C dX6_init_52 rfl ?_
  refine gn_init (pc := 53) C (ok_X2_init) (tq_mem (by decide +kernel) rfl) (tq_mem (by decide +kernel) rfl) (tq_mem (by decide +kernel) rfl) (tq_mem (by decide +kernel) rfl) (by decide +kernel) rfl (by decide) rfl (by rw [hQ]; decide) (by rw [hQ]; decide) dX6_init_53 (fun u10 => ?_)
  refine gn_putF (pc := 56) C dX6_init_56 rfl itX6 tyX6 tyX6_ok nmX6 4 (by decide) (tq_mem (by decide +kernel) rfl) rfl rfl (ty := tyX6 4) (by decide +kernel) rfl rfl (Nat.le_of_ble_eq_true rfl) [.ref q1, .ref q3, .ref q5, .ref q7, .ref q9, .null, .null, .null, .null, .null, .int 0] rfl ?_
  refine gn_aload_n (pc := 59) C dX6_init_59 0 rfl rfl ?_
  refine gn_new (pc := 60) (ci := 0) C dX6_init_60 (tq_mem (by decide +kernel) rfl) (tq_mem (by decide +kernel) rfl) (tq_mem (by decide +kernel) rfl) itX0 tyX0 tyX0_ok rfl [.null, .null, .long 0] df_X0 (by rw [hQ]; decide) (by rw [hQ]; decide) (fun q11 => ?_)
  refine gn_dup (pc := 63) C dX6_init_63 rfl ?_
  refine gn_init (pc := 64) C (ok_X0_init) (tq_mem (by decide +kernel) rfl) (tq_mem (by decide +kernel) rfl) (tq_mem (by decide +kernel) rfl) (tq_mem (by decide +kernel) rfl) (by decide +kernel) rfl (by decide) rfl (by rw [hQ]; decide) (by rw [hQ]; decide) dX6_init_64 (fun u12 => ?_)
  refine gn_putF (pc := 67) C dX6_init_67 rfl itX6 tyX6 tyX6_ok nmX6 5 (by decide) (tq_mem (by decide +kernel) rfl) rfl rfl (ty := tyX6 5) (by decide +kernel) rfl rfl (Nat.le_of_ble_eq_true rfl) [.ref q1, .ref q3, .ref q5, .ref q7, .ref q9, .ref q11, .null, .null, .null, .null, .int 0] rfl ?_
  refine gn_aload_n (pc := 70) C dX6_init_70 0 rfl rfl ?_
  refine gn_iconst (pc := 71) (v := 2) C dX6_init_71 (by decide) ?_
  refine gn_anew (pc := 72) C dX6_init_72 (tq_mem (by decide +kernel) rfl) (tq_AOX1 C) 4 rfl 2 (by decide) (by decide) (by decide) (by rw [hQ]; decide) (by rw [hQ]; decide) (fun q13 => ?_)
  refine gn_putF (pc := 75) C dX6_init_75 rfl itX6 tyX6 tyX6_ok nmX6 6 (by decide) (tq_mem (by decide +kernel) rfl) rfl rfl (ty := tyX6 6) (by decide +kernel) rfl rfl (Nat.le_of_ble_eq_true rfl) [.ref q1, .ref q3, .ref q5, .ref q7, .ref q9, .ref q11, .ref q13, .null, .null, .null, .int 0] rfl ?_
  refine gn_aload_n (pc := 78) C dX6_init_78 0 rfl rfl ?_
  refine gn_iconst (pc := 79) (v := 2) C dX6_init_79 (by decide) ?_
  refine gn_newa (pc := 80) C dX6_init_80 rfl (tq_mem (by decide +kernel) rfl) 2 rfl 2 (2, .inl (fun _ => 0)) (fun cA => rfl) (by decide) (by decide) (by decide) (by rw [hQ]; decide) (by rw [hQ]; decide) (fun q14 => ?_)
  refine gn_putF (pc := 82) C dX6_init_82 rfl itX6 tyX6 tyX6_ok nmX6 7 (by decide) (tq_mem (by decide +kernel) rfl) rfl rfl (ty := tyX6 7) (by decide +kernel) rfl rfl (Nat.le_of_ble_eq_true rfl) [.ref q1, .ref q3, .ref q5, .ref q7, .ref q9, .ref q11, .ref q13, .ref q14, .null, .null, .int 0] rfl ?_
  refine gn_aload_n (pc := 85) C dX6_init_85 0 rfl rfl ?_
  refine gn_iconst (pc := 86) (v := 4) C dX6_init_86 (by decide) ?_
  refine gn_anew (pc := 87) C dX6_init_87 (tq_mem (by decide +kernel) rfl) (tq_AOX3 C) 5 rfl 4 (by decide) (by decide) (by decide) (by rw [hQ]; decide) (by rw [hQ]; decide) (fun q15 => ?_)
  refine gn_putF (pc := 90) C dX6_init_90 rfl itX6 tyX6 tyX6_ok nmX6 8 (by decide) (tq_mem (by decide +kernel) rfl) rfl rfl (ty := tyX6 8) (by decide +kernel) rfl rfl (Nat.le_of_ble_eq_true rfl) [.ref q1, .ref q3, .ref q5, .ref q7, .ref q9, .ref q11, .ref q13, .ref q14, .ref q15, .null, .int 0] rfl ?_
  refine gn_aload_n (pc := 93) C dX6_init_93 0 rfl rfl ?_
  refine gn_bipush (pc := 94) (v := 21) C dX6_init_94 (by decide) ?_
  refine gn_newa (pc := 96) C dX6_init_96 rfl (tq_mem (by decide +kernel) rfl) 0 rfl 21 (21, .inl (fun _ => 0)) (fun cA => rfl) (by decide) (by decide) (by decide) (by rw [hQ]; decide) (by rw [hQ]; decide) (fun q16 => ?_)
  refine gn_putF (pc := 98) C dX6_init_98 rfl itX6 tyX6 tyX6_ok nmX6 9 (by decide) (tq_mem (by decide +kernel) rfl) rfl rfl (ty := tyX6 9) (by decide +kernel) rfl rfl (Nat.le_of_ble_eq_true rfl) [.ref q1, .ref q3, .ref q5, .ref q7, .ref q9, .ref q11, .ref q13, .ref q14, .ref q15, .ref q16, .int 0] rfl ?_
  refine gn_iconst (pc := 101) (v := 0) C dX6_init_101 (by decide) ?_
  refine gn_istore_n (pc := 102) C dX6_init_102 [(1, .int 0), (0, .ref h)] rfl (by decide) rfl ?_
  refine gn_iload_n (pc := 103) C dX6_init_103 0 rfl rfl ?_
  refine gn_iconst (pc := 104) (v := 2) C dX6_init_104 (by decide) ?_
  refine gn_ic_ge (pc := 105) C dX6_init_105 127 (by decide) (fun c9 => absurd c9 (by decide)) (fun c9 => ?_)
  refine gn_aload_n (pc := 108) C dX6_init_108 1 rfl rfl ?_
  refine gn_get (pc := 109) C dX6_init_109 rfl itX6 6 (by decide) (tq_mem (by decide +kernel) rfl) rfl ?_
  refine gn_iload_n (pc := 112) C dX6_init_112 0 rfl rfl ?_
  refine gn_new (pc := 113) (ci := 1) C dX6_init_113 (tq_mem (by decide +kernel) rfl) (tq_mem (by decide +kernel) rfl) (tq_mem (by decide +kernel) rfl) itX1 tyX1 tyX1_ok rfl [.null, .null, .null, .null, .null, .int 0, .int 0, .int 0, .int 0, .int 0, .int 0, .int 0, .int 0, .int 0] df_X1 (by rw [hQ]; decide) (by rw [hQ]; decide) (fun q17 => ?_)
  refine gn_dup (pc := 116) C dX6_init_116 rfl ?_
  refine gn_initN (pc := 117) C (ok_X1_init) ((tq_Nn C) _ (List.mem_of_getElem? (i := 3) rfl)) (tq_mem (by decide +kernel) rfl) (tq_mem (by decide +kernel) rfl) (tq_mem (by decide +kernel) rfl) (by decide +kernel) rfl (by decide) rfl (by rw [hQ]; decide) (by rw [hQ]; decide) dX6_init_117 (fun u18 => ?_)
  refine gn_aast (pc := 120) C dX6_init_120 115 119 rfl rfl rfl rfl (vp_in_nI (n := 0) (by decide) (by decide)) ((h, .inr (6, [.ref q1, .ref q3, .ref q5, .ref q7, .ref q9, .ref q11, .ref q13, .ref q14, .ref q15, .ref q16, .int 0])) :: ((wn_X1 (tq_la X) q1 u2 ++ ((wn_X1 (tq_la X) q3 u4 ++ ((wn_X5 (tq_la X) q5 u6 ++ ((wn_X4 (tq_la X) q7 u8 ++ ((wn_X2 (tq_la X) q9 u10 ++ ((wn_X0 (tq_la X) q11 u12 ++ ((q13, .inl ((tq_la X).2.2 4, 2, .inr (.inr (.inr (.inr (va_up (fun _ => none) 0 (some q17))))))) :: ((q14, .inl ((tq_la X).2.2 2, 2, .inl (fun _ => 0))) :: ((q15, .inl ((tq_la X).2.2 5, 4, .inr (.inr (.inr (.inr (fun _ => none)))))) :: ((q16, .inl ((tq_la X).2.2 0, 21, .inl (fun _ => 0))) :: ((wn_X1 (tq_la X) q17 u18 ++ []))))))))))))))))))) rfl ?_
  refine gn_iinc (pc := 121) (j := 0) (v := 1) C dX6_init_121 [(1, .int 1), (0, .ref h)] rfl (by decide) (by decide) rfl ?_
  refine gn_goto (pc := 124) C dX6_init_124 103 (by decide) ?_
  refine gn_iload_n (pc := 103) C dX6_init_103 0 rfl rfl ?_
  refine gn_iconst (pc := 104) (v := 2) C dX6_init_104 (by decide) ?_
  refine gn_ic_ge (pc := 105) C dX6_init_105 127 (by decide) (fun c9 => absurd c9 (by decide)) (fun c9 => ?_)
  refine gn_aload_n (pc := 108) C dX6_init_108 1 rfl rfl ?_
  refine gn_get (pc := 109) C dX6_init_109 rfl itX6 6 (by decide) (tq_mem (by decide +kernel) rfl) rfl ?_
  refine gn_iload_n (pc := 112) C dX6_init_112 0 rfl rfl ?_
  refine gn_new (pc := 113) (ci := 1) C dX6_init_113 (tq_mem (by decide +kernel) rfl) (tq_mem (by decide +kernel) rfl) (tq_mem (by decide +kernel) rfl) itX1 tyX1 tyX1_ok rfl [.null, .null, .null, .null, .null, .int 0, .int 0, .int 0, .int 0, .int 0, .int 0, .int 0, .int 0, .int 0] df_X1 (by rw [hQ]; decide) (by rw [hQ]; decide) (fun q19 => ?_)
  refine gn_dup (pc := 116) C dX6_init_116 rfl ?_
  refine gn_initN (pc := 117) C (ok_X1_init) ((tq_Nn C) _ (List.mem_of_getElem? (i := 3) rfl)) (tq_mem (by decide +kernel) rfl) (tq_mem (by decide +kernel) rfl) (tq_mem (by decide +kernel) rfl) (by decide +kernel) rfl (by decide) rfl (by rw [hQ]; decide) (by rw [hQ]; decide) dX6_init_117 (fun u20 => ?_)
  refine gn_aast (pc := 120) C dX6_init_120 115 125 rfl rfl rfl rfl (vp_in_nI (n := 1) (by decide) (by decide)) ((h, .inr (6, [.ref q1, .ref q3, .ref q5, .ref q7, .ref q9, .ref q11, .ref q13, .ref q14, .ref q15, .ref q16, .int 0])) :: ((wn_X1 (tq_la X) q1 u2 ++ ((wn_X1 (tq_la X) q3 u4 ++ ((wn_X5 (tq_la X) q5 u6 ++ ((wn_X4 (tq_la X) q7 u8 ++ ((wn_X2 (tq_la X) q9 u10 ++ ((wn_X0 (tq_la X) q11 u12 ++ ((q13, .inl ((tq_la X).2.2 4, 2, .inr (.inr (.inr (.inr (va_up (va_up (fun _ => none) 0 (some q17)) 1 (some q19))))))) :: ((q14, .inl ((tq_la X).2.2 2, 2, .inl (fun _ => 0))) :: ((q15, .inl ((tq_la X).2.2 5, 4, .inr (.inr (.inr (.inr (fun _ => none)))))) :: ((q16, .inl ((tq_la X).2.2 0, 21, .inl (fun _ => 0))) :: ((wn_X1 (tq_la X) q17 u18 ++ ((wn_X1 (tq_la X) q19 u20 ++ []))))))))))))))))))))) rfl ?_
  refine gn_iinc (pc := 121) (j := 0) (v := 2) C dX6_init_121 [(1, .int 2), (0, .ref h)] rfl (by decide) (by decide) rfl ?_
  refine gn_goto (pc := 124) C dX6_init_124 103 (by decide) ?_
  refine gn_iload_n (pc := 103) C dX6_init_103 0 rfl rfl ?_
  refine gn_iconst (pc := 104) (v := 2) C dX6_init_104 (by decide) ?_
  refine gn_ic_ge (pc := 105) C dX6_init_105 127 (by decide) (fun c9 => ?_) (fun c9 => absurd (by decide) c9)
  refine gn_iconst (pc := 127) (v := 0) C dX6_init_127 (by decide) ?_
  refine gn_istore_n (pc := 128) C dX6_init_128 [(1, .int 0), (0, .ref h)] rfl (by decide) rfl ?_
  refine gn_iload_n (pc := 129) C dX6_init_129 0 rfl rfl ?_
  refine gn_iconst (pc := 130) (v := 4) C dX6_init_130 (by decide) ?_
  refine gn_ic_ge (pc := 131) C dX6_init_131 153 (by decide) (fun c9 => absurd c9 (by decide)) (fun c9 => ?_)
  refine gn_aload_n (pc := 134) C dX6_init_134 1 rfl rfl ?_
  refine gn_get (pc := 135) C dX6_init_135 rfl itX6 8 (by decide) (tq_mem (by decide +kernel) rfl) rfl ?_
  refine gn_iload_n (pc := 138) C dX6_init_138 0 rfl rfl ?_
  refine gn_new (pc := 139) (ci := 3) C dX6_init_139 (tq_mem (by decide +kernel) rfl) (tq_mem (by decide +kernel) rfl) (tq_mem (by decide +kernel) rfl) itX3 tyX3 tyX3_ok rfl [.null, .int 0, .int 0, .int 0] df_X3 (by rw [hQ]; decide) (by rw [hQ]; decide) (fun q21 => ?_)
  refine gn_dup (pc := 142) C dX6_init_142 rfl ?_
  refine gn_initN (pc := 143) C (ok_X3_init) ((tq_Nn C) _ (List.mem_of_getElem? (i := 2) rfl)) (tq_mem (by decide +kernel) rfl) (tq_mem (by decide +kernel) rfl) (tq_mem (by decide +kernel) rfl) (by decide +kernel) rfl (by decide) rfl (by rw [hQ]; decide) (by rw [hQ]; decide) dX6_init_143 (fun u22 => ?_)
  refine gn_aast (pc := 146) C dX6_init_146 117 131 rfl rfl rfl rfl (vp_in_nI (n := 0) (by decide) (by decide)) ((h, .inr (6, [.ref q1, .ref q3, .ref q5, .ref q7, .ref q9, .ref q11, .ref q13, .ref q14, .ref q15, .ref q16, .int 0])) :: ((wn_X1 (tq_la X) q1 u2 ++ ((wn_X1 (tq_la X) q3 u4 ++ ((wn_X5 (tq_la X) q5 u6 ++ ((wn_X4 (tq_la X) q7 u8 ++ ((wn_X2 (tq_la X) q9 u10 ++ ((wn_X0 (tq_la X) q11 u12 ++ ((q13, .inl ((tq_la X).2.2 4, 2, .inr (.inr (.inr (.inr (va_up (va_up (fun _ => none) 0 (some q17)) 1 (some q19))))))) :: ((q14, .inl ((tq_la X).2.2 2, 2, .inl (fun _ => 0))) :: ((q15, .inl ((tq_la X).2.2 5, 4, .inr (.inr (.inr (.inr (va_up (fun _ => none) 0 (some q21))))))) :: ((q16, .inl ((tq_la X).2.2 0, 21, .inl (fun _ => 0))) :: ((wn_X1 (tq_la X) q17 u18 ++ ((wn_X1 (tq_la X) q19 u20 ++ ((wn_X3 (tq_la X) q21 u22 ++ []))))))))))))))))))))))) rfl ?_
  refine gn_iinc (pc := 147) (j := 0) (v := 1) C dX6_init_147 [(1, .int 1), (0, .ref h)] rfl (by decide) (by decide) rfl ?_
  refine gn_goto (pc := 150) C dX6_init_150 129 (by decide) ?_
  refine gn_iload_n (pc := 129) C dX6_init_129 0 rfl rfl ?_
  refine gn_iconst (pc := 130) (v := 4) C dX6_init_130 (by decide) ?_
  refine gn_ic_ge (pc := 131) C dX6_init_131 153 (by decide) (fun c9 => absurd c9 (by decide)) (fun c9 => ?_)
  refine gn_aload_n (pc := 134) C dX6_init_134 1 rfl rfl ?_
  refine gn_get (pc := 135) C dX6_init_135 rfl itX6 8 (by decide) (tq_mem (by decide +kernel) rfl) rfl ?_
  refine gn_iload_n (pc := 138) C dX6_init_138 0 rfl rfl ?_
  refine gn_new (pc := 139) (ci := 3) C dX6_init_139 (tq_mem (by decide +kernel) rfl) (tq_mem (by decide +kernel) rfl) (tq_mem (by decide +kernel) rfl) itX3 tyX3 tyX3_ok rfl [.null, .int 0, .int 0, .int 0] df_X3 (by rw [hQ]; decide) (by rw [hQ]; decide) (fun q23 => ?_)
  refine gn_dup (pc := 142) C dX6_init_142 rfl ?_
  refine gn_initN (pc := 143) C (ok_X3_init) ((tq_Nn C) _ (List.mem_of_getElem? (i := 2) rfl)) (tq_mem (by decide +kernel) rfl) (tq_mem (by decide +kernel) rfl) (tq_mem (by decide +kernel) rfl) (by decide +kernel) rfl (by decide) rfl (by rw [hQ]; decide) (by rw [hQ]; decide) dX6_init_143 (fun u24 => ?_)
  refine gn_aast (pc := 146) C dX6_init_146 117 133 rfl rfl rfl rfl (vp_in_nI (n := 1) (by decide) (by decide)) ((h, .inr (6, [.ref q1, .ref q3, .ref q5, .ref q7, .ref q9, .ref q11, .ref q13, .ref q14, .ref q15, .ref q16, .int 0])) :: ((wn_X1 (tq_la X) q1 u2 ++ ((wn_X1 (tq_la X) q3 u4 ++ ((wn_X5 (tq_la X) q5 u6 ++ ((wn_X4 (tq_la X) q7 u8 ++ ((wn_X2 (tq_la X) q9 u10 ++ ((wn_X0 (tq_la X) q11 u12 ++ ((q13, .inl ((tq_la X).2.2 4, 2, .inr (.inr (.inr (.inr (va_up (va_up (fun _ => none) 0 (some q17)) 1 (some q19))))))) :: ((q14, .inl ((tq_la X).2.2 2, 2, .inl (fun _ => 0))) :: ((q15, .inl ((tq_la X).2.2 5, 4, .inr (.inr (.inr (.inr (va_up (va_up (fun _ => none) 0 (some q21)) 1 (some q23))))))) :: ((q16, .inl ((tq_la X).2.2 0, 21, .inl (fun _ => 0))) :: ((wn_X1 (tq_la X) q17 u18 ++ ((wn_X1 (tq_la X) q19 u20 ++ ((wn_X3 (tq_la X) q21 u22 ++ ((wn_X3 (tq_la X) q23 u24 ++ []))))))))))))))))))))))))) rfl ?_
  refine gn_iinc (pc := 147) (j := 0) (v := 2) C dX6_init_147 [(1, .int 2), (0, .ref h)] rfl (by decide) (by decide) rfl ?_
  refine gn_goto (pc := 150) C dX6_init_150 129 (by decide) ?_
  refine gn_iload_n (pc := 129) C dX6_init_129 0 rfl rfl ?_
  refine gn_iconst (pc := 130) (v := 4) C dX6_init_130 (by decide) ?_
  refine gn_ic_ge (pc := 131) C dX6_init_131 153 (by decide) (fun c9 => absurd c9 (by decide)) (fun c9 => ?_)
  refine gn_aload_n (pc := 134) C dX6_init_134 1 rfl rfl ?_
  refine gn_get (pc := 135) C dX6_init_135 rfl itX6 8 (by decide) (tq_mem (by decide +kernel) rfl) rfl ?_
  refine gn_iload_n (pc := 138) C dX6_init_138 0 rfl rfl ?_
  refine gn_new (pc := 139) (ci := 3) C dX6_init_139 (tq_mem (by decide +kernel) rfl) (tq_mem (by decide +kernel) rfl) (tq_mem (by decide +kernel) rfl) itX3 tyX3 tyX3_ok rfl [.null, .int 0, .int 0, .int 0] df_X3 (by rw [hQ]; decide) (by rw [hQ]; decide) (fun q25 => ?_)
  refine gn_dup (pc := 142) C dX6_init_142 rfl ?_
  refine gn_initN (pc := 143) C (ok_X3_init) ((tq_Nn C) _ (List.mem_of_getElem? (i := 2) rfl)) (tq_mem (by decide +kernel) rfl) (tq_mem (by decide +kernel) rfl) (tq_mem (by decide +kernel) rfl) (by decide +kernel) rfl (by decide) rfl (by rw [hQ]; decide) (by rw [hQ]; decide) dX6_init_143 (fun u26 => ?_)
  refine gn_aast (pc := 146) C dX6_init_146 117 135 rfl rfl rfl rfl (vp_in_nI (n := 2) (by decide) (by decide)) ((h, .inr (6, [.ref q1, .ref q3, .ref q5, .ref q7, .ref q9, .ref q11, .ref q13, .ref q14, .ref q15, .ref q16, .int 0])) :: ((wn_X1 (tq_la X) q1 u2 ++ ((wn_X1 (tq_la X) q3 u4 ++ ((wn_X5 (tq_la X) q5 u6 ++ ((wn_X4 (tq_la X) q7 u8 ++ ((wn_X2 (tq_la X) q9 u10 ++ ((wn_X0 (tq_la X) q11 u12 ++ ((q13, .inl ((tq_la X).2.2 4, 2, .inr (.inr (.inr (.inr (va_up (va_up (fun _ => none) 0 (some q17)) 1 (some q19))))))) :: ((q14, .inl ((tq_la X).2.2 2, 2, .inl (fun _ => 0))) :: ((q15, .inl ((tq_la X).2.2 5, 4, .inr (.inr (.inr (.inr (va_up (va_up (va_up (fun _ => none) 0 (some q21)) 1 (some q23)) 2 (some q25))))))) :: ((q16, .inl ((tq_la X).2.2 0, 21, .inl (fun _ => 0))) :: ((wn_X1 (tq_la X) q17 u18 ++ ((wn_X1 (tq_la X) q19 u20 ++ ((wn_X3 (tq_la X) q21 u22 ++ ((wn_X3 (tq_la X) q23 u24 ++ ((wn_X3 (tq_la X) q25 u26 ++ []))))))))))))))))))))))))))) rfl ?_
  refine gn_iinc (pc := 147) (j := 0) (v := 3) C dX6_init_147 [(1, .int 3), (0, .ref h)] rfl (by decide) (by decide) rfl ?_
  refine gn_goto (pc := 150) C dX6_init_150 129 (by decide) ?_
  refine gn_iload_n (pc := 129) C dX6_init_129 0 rfl rfl ?_
  refine gn_iconst (pc := 130) (v := 4) C dX6_init_130 (by decide) ?_
  refine gn_ic_ge (pc := 131) C dX6_init_131 153 (by decide) (fun c9 => absurd c9 (by decide)) (fun c9 => ?_)
  refine gn_aload_n (pc := 134) C dX6_init_134 1 rfl rfl ?_
  refine gn_get (pc := 135) C dX6_init_135 rfl itX6 8 (by decide) (tq_mem (by decide +kernel) rfl) rfl ?_
  refine gn_iload_n (pc := 138) C dX6_init_138 0 rfl rfl ?_
  refine gn_new (pc := 139) (ci := 3) C dX6_init_139 (tq_mem (by decide +kernel) rfl) (tq_mem (by decide +kernel) rfl) (tq_mem (by decide +kernel) rfl) itX3 tyX3 tyX3_ok rfl [.null, .int 0, .int 0, .int 0] df_X3 (by rw [hQ]; decide) (by rw [hQ]; decide) (fun q27 => ?_)
  refine gn_dup (pc := 142) C dX6_init_142 rfl ?_
  refine gn_initN (pc := 143) C (ok_X3_init) ((tq_Nn C) _ (List.mem_of_getElem? (i := 2) rfl)) (tq_mem (by decide +kernel) rfl) (tq_mem (by decide +kernel) rfl) (tq_mem (by decide +kernel) rfl) (by decide +kernel) rfl (by decide) rfl (by rw [hQ]; decide) (by rw [hQ]; decide) dX6_init_143 (fun u28 => ?_)
  refine gn_aast (pc := 146) C dX6_init_146 117 137 rfl rfl rfl rfl (vp_in_nI (n := 3) (by decide) (by decide)) ((h, .inr (6, [.ref q1, .ref q3, .ref q5, .ref q7, .ref q9, .ref q11, .ref q13, .ref q14, .ref q15, .ref q16, .int 0])) :: ((wn_X1 (tq_la X) q1 u2 ++ ((wn_X1 (tq_la X) q3 u4 ++ ((wn_X5 (tq_la X) q5 u6 ++ ((wn_X4 (tq_la X) q7 u8 ++ ((wn_X2 (tq_la X) q9 u10 ++ ((wn_X0 (tq_la X) q11 u12 ++ ((q13, .inl ((tq_la X).2.2 4, 2, .inr (.inr (.inr (.inr (va_up (va_up (fun _ => none) 0 (some q17)) 1 (some q19))))))) :: ((q14, .inl ((tq_la X).2.2 2, 2, .inl (fun _ => 0))) :: ((q15, .inl ((tq_la X).2.2 5, 4, .inr (.inr (.inr (.inr (va_up (va_up (va_up (va_up (fun _ => none) 0 (some q21)) 1 (some q23)) 2 (some q25)) 3 (some q27))))))) :: ((q16, .inl ((tq_la X).2.2 0, 21, .inl (fun _ => 0))) :: ((wn_X1 (tq_la X) q17 u18 ++ ((wn_X1 (tq_la X) q19 u20 ++ ((wn_X3 (tq_la X) q21 u22 ++ ((wn_X3 (tq_la X) q23 u24 ++ ((wn_X3 (tq_la X) q25 u26 ++ ((wn_X3 (tq_la X) q27 u28 ++ []))))))))))))))))))))))))))))) rfl ?_
  refine gn_iinc (pc := 147) (j := 0) (v := 4) C dX6_init_147 [(1, .int 4), (0, .ref h)] rfl (by decide) (by decide) rfl ?_
  refine gn_goto (pc := 150) C dX6_init_150 129 (by decide) ?_
  refine gn_iload_n (pc := 129) C dX6_init_129 0 rfl rfl ?_
  refine gn_iconst (pc := 130) (v := 4) C dX6_init_130 (by decide) ?_
  refine gn_ic_ge (pc := 131) C dX6_init_131 153 (by decide) (fun c9 => ?_) (fun c9 => absurd (by decide) c9)
  exact hR (fun i => if i = 0 then q1 else if i < 6 then u2 (i - 1) else if i = 6 then q3 else if i < 12 then u4 (i - 7) else if i = 12 then q5 else if i < 20 then u6 (i - 13) else if i = 20 then q7 else if i < 23 then u8 (i - 21) else if i = 23 then q9 else if i < 57 then u10 (i - 24) else if i = 57 then q11 else if i < 114 then u12 (i - 58) else if i = 114 then q13 else if i = 115 then q14 else if i = 116 then q15 else if i = 117 then q16 else if i = 118 then q17 else if i < 124 then u18 (i - 119) else if i = 124 then q19 else if i < 130 then u20 (i - 125) else if i = 130 then q21 else if i < 132 then u22 (i - 131) else if i = 132 then q23 else if i < 134 then u24 (i - 133) else if i = 134 then q25 else if i < 136 then u26 (i - 135) else if i = 136 then q27 else if i < 138 then u28 (i - 137) else 0) _ _ dX6_init_153
def wn_X7 (a : tq_La) (h : Nat) (u : Nat → Nat) : va_W := ((h, .inr (7, [.ref (u 0), .ref (u 1), .int 0, .ref (u 2), .int 0, .int 0, .int 0, .ref (u 3), .int 0, .int 0, .int 0, .int 0, .int 0, .int 0, .int 0, .int 0, .ref (u 4), .ref (u 5), .int 0, .int 0, .int 0, .ref (u 6), .int 0, .ref (u 7), .ref (u 8), .ref (u 9), .ref (u 10), .ref (u 11), .int 0])) :: (((u 0), .inl (a.2.2 0, 168, .inl (fun _ => 0))) :: (((u 1), .inl (a.2.2 0, 4, .inl (upd (upd (upd (upd (fun _ => 0) 0 10) 1 5) 2 4) 3 20))) :: (((u 2), .inl (a.2.2 0, 28, .inl (fun _ => 0))) :: (((u 3), .inl (a.2.2 0, 160, .inl (fun _ => 0))) :: (((u 4), .inl (a.2.2 0, 8, .inl (upd (upd (upd (upd (upd (upd (upd (upd (fun _ => 0) 0 0) 1 5) 2 9) 3 13) 4 16) 5 20) 6 25) 7 29))) :: (((u 5), .inl (a.2.2 0, 29, .inl (upd (upd (upd (upd (upd (upd (upd (upd (upd (upd (upd (upd (upd (upd (upd (upd (upd (upd (upd (upd (upd (upd (upd (upd (upd (upd (upd (upd (upd (fun _ => 0) 0 112) 1 108) 2 97) 3 105) 4 110) 5 115) 6 111) 7 102) 8 116) 9 115) 10 104) 11 97) 12 109) 13 100) 14 114) 15 121) 16 114) 17 111) 18 111) 19 109) 20 116) 21 104) 22 105) 23 110) 24 107) 25 112) 26 108) 27 97) 28 110))) :: (((u 6), .inl (a.2.2 0, 12, .inl (fun _ => 0))) :: (((u 7), .inl (a.2.2 0, 21, .inl (fun _ => 0))) :: (((u 8), .inl (a.2.2 2, 2, .inl (fun _ => 0))) :: (((u 9), .inl (a.2.2 0, 4, .inl (upd (upd (upd (upd (fun _ => 0) 0 (-4)) 1 (-4)) 2 (-4)) 3 (-4)))) :: (((u 10), .inl (a.2.2 0, 4, .inl (fun _ => 0))) :: (((u 11), .inl (a.2.2 0, 160, .inl (fun _ => 0))) :: [])))))))))))))
set_option maxRecDepth 100000 in
set_option maxHeartbeats 8000000 in
theorem ok_X7_init : tq_MI yX7_init cX7_init 1 1 12 600 7 [.null, .null, .int 0, .null, .int 0, .int 0, .int 0, .null, .int 0, .int 0, .int 0, .int 0, .int 0, .int 0, .int 0, .int 0, .null, .null, .int 0, .int 0, .int 0, .null, .int 0, .null, .null, .null, .null, .null, .int 0] wn_X7 := by
  refine tq_mkC (by decide) rfl (by decide) ?_
  intro X h C hQ hR
  refine gn_aload_n (pc := 0) C dX7_init_0 0 rfl rfl ?_
  refine gn_objInit (pc := 1) C (by decide) (tq_mem (by decide +kernel) rfl) (tq_mem (by decide +kernel) rfl) (tq_mem (by decide +kernel) rfl) dX7_init_1 ?_
  refine gn_aload_n (pc := 4) C dX7_init_4 0 rfl rfl ?_
  refine gn_sipush (pc := 5) (v := 168) C dX7_init_5 (by decide) ?_
  refine gn_newa (pc := 8) C dX7_init_8 rfl (tq_mem (by decide +kernel) rfl) 0 rfl 168 (168, .inl (fun _ => 0)) (fun cA => rfl) (by decide) (by decide) (by decide) (by rw [hQ]; decide) (by rw [hQ]; decide) (fun q1 => ?_)
  refine gn_putF (pc := 10) C dX7_init_10 rfl itX7 tyX7 tyX7_ok nmX7 0 (by decide) (tq_mem (by decide +kernel) rfl) rfl rfl (ty := tyX7 0) (by decide +kernel) rfl rfl (Nat.le_of_ble_eq_true rfl) [.ref q1, .null, .int 0, .null, .int 0, .int 0, .int 0, .null, .int 0, .int 0, .int 0, .int 0, .int 0, .int 0, .int 0, .int 0, .null, .null, .int 0, .int 0, .int 0, .null, .int 0, .null, .null, .null, .null, .null, .int 0] rfl ?_
  refine gn_aload_n (pc := 13) C dX7_init_13 0 rfl rfl ?_
  refine gn_iconst (pc := 14) (v := 4) C dX7_init_14 (by decide) ?_
  refine gn_newa (pc := 15) C dX7_init_15 rfl (tq_mem (by decide +kernel) rfl) 0 rfl 4 (4, .inl (fun _ => 0)) (fun cA => rfl) (by decide) (by decide) (by decide) (by rw [hQ]; decide) (by rw [hQ]; decide) (fun q2 => ?_)
  refine gn_dup (pc := 17) C dX7_init_17 rfl ?_
  refine gn_iconst (pc := 18) (v := 0) C dX7_init_18 (by decide) ?_
  refine gn_bipush (pc := 19) (v := 10) C dX7_init_19 (by decide) ?_
  refine gn_iast (pc := 21) C dX7_init_21 2 rfl (vp_in_nI (n := 0) (by decide) (by decide)) ((h, .inr (7, [.ref q1, .null, .int 0, .null, .int 0, .int 0, .int 0, .null, .int 0, .int 0, .int 0, .int 0, .int 0, .int 0, .int 0, .int 0, .null, .null, .int 0, .int 0, .int 0, .null, .int 0, .null, .null, .null, .null, .null, .int 0])) :: ((q1, .inl ((tq_la X).2.2 0, 168, .inl (fun _ => 0))) :: ((q2, .inl ((tq_la X).2.2 0, 4, .inl (upd (fun _ => 0) 0 10))) :: []))) rfl ?_
  refine gn_dup (pc := 22) C dX7_init_22 rfl ?_
  refine gn_iconst (pc := 23) (v := 1) C dX7_init_23 (by decide) ?_
  refine gn_iconst (pc := 24) (v := 5) C dX7_init_24 (by decide) ?_
  refine gn_iast (pc := 25) C dX7_init_25 2 rfl (vp_in_nI (n := 1) (by decide) (by decide)) ((h, .inr (7, [.ref q1, .null, .int 0, .null, .int 0, .int 0, .int 0, .null, .int 0, .int 0, .int 0, .int 0, .int 0, .int 0, .int 0, .int 0, .null, .null, .int 0, .int 0, .int 0, .null, .int 0, .null, .null, .null, .null, .null, .int 0])) :: ((q1, .inl ((tq_la X).2.2 0, 168, .inl (fun _ => 0))) :: ((q2, .inl ((tq_la X).2.2 0, 4, .inl (upd (upd (fun _ => 0) 0 10) 1 5))) :: []))) rfl ?_
  refine gn_dup (pc := 26) C dX7_init_26 rfl ?_
  refine gn_iconst (pc := 27) (v := 2) C dX7_init_27 (by decide) ?_
  refine gn_iconst (pc := 28) (v := 4) C dX7_init_28 (by decide) ?_
  refine gn_iast (pc := 29) C dX7_init_29 2 rfl (vp_in_nI (n := 2) (by decide) (by decide)) ((h, .inr (7, [.ref q1, .null, .int 0, .null, .int 0, .int 0, .int 0, .null, .int 0, .int 0, .int 0, .int 0, .int 0, .int 0, .int 0, .int 0, .null, .null, .int 0, .int 0, .int 0, .null, .int 0, .null, .null, .null, .null, .null, .int 0])) :: ((q1, .inl ((tq_la X).2.2 0, 168, .inl (fun _ => 0))) :: ((q2, .inl ((tq_la X).2.2 0, 4, .inl (upd (upd (upd (fun _ => 0) 0 10) 1 5) 2 4))) :: []))) rfl ?_
  refine gn_dup (pc := 30) C dX7_init_30 rfl ?_
  refine gn_iconst (pc := 31) (v := 3) C dX7_init_31 (by decide) ?_
  refine gn_bipush (pc := 32) (v := 20) C dX7_init_32 (by decide) ?_
  refine gn_iast (pc := 34) C dX7_init_34 2 rfl (vp_in_nI (n := 3) (by decide) (by decide)) ((h, .inr (7, [.ref q1, .null, .int 0, .null, .int 0, .int 0, .int 0, .null, .int 0, .int 0, .int 0, .int 0, .int 0, .int 0, .int 0, .int 0, .null, .null, .int 0, .int 0, .int 0, .null, .int 0, .null, .null, .null, .null, .null, .int 0])) :: ((q1, .inl ((tq_la X).2.2 0, 168, .inl (fun _ => 0))) :: ((q2, .inl ((tq_la X).2.2 0, 4, .inl (upd (upd (upd (upd (fun _ => 0) 0 10) 1 5) 2 4) 3 20))) :: []))) rfl ?_
  refine gn_putF (pc := 35) C dX7_init_35 rfl itX7 tyX7 tyX7_ok nmX7 1 (by decide) (tq_mem (by decide +kernel) rfl) rfl rfl (ty := tyX7 1) (by decide +kernel) rfl rfl (Nat.le_of_ble_eq_true rfl) [.ref q1, .ref q2, .int 0, .null, .int 0, .int 0, .int 0, .null, .int 0, .int 0, .int 0, .int 0, .int 0, .int 0, .int 0, .int 0, .null, .null, .int 0, .int 0, .int 0, .null, .int 0, .null, .null, .null, .null, .null, .int 0] rfl ?_
  refine gn_aload_n (pc := 38) C dX7_init_38 0 rfl rfl ?_
  refine gn_bipush (pc := 39) (v := 28) C dX7_init_39 (by decide) ?_
  refine gn_newa (pc := 41) C dX7_init_41 rfl (tq_mem (by decide +kernel) rfl) 0 rfl 28 (28, .inl (fun _ => 0)) (fun cA => rfl) (by decide) (by decide) (by decide) (by rw [hQ]; decide) (by rw [hQ]; decide) (fun q3 => ?_)
  refine gn_putF (pc := 43) C dX7_init_43 rfl itX7 tyX7 tyX7_ok nmX7 3 (by decide) (tq_mem (by decide +kernel) rfl) rfl rfl (ty := tyX7 3) (by decide +kernel) rfl rfl (Nat.le_of_ble_eq_true rfl) [.ref q1, .ref q2, .int 0, .ref q3, .int 0, .int 0, .int 0, .null, .int 0, .int 0, .int 0, .int 0, .int 0, .int 0, .int 0, .int 0, .null, .null, .int 0, .int 0, .int 0, .null, .int 0, .null, .null, .null, .null, .null, .int 0] rfl ?_
  refine gn_aload_n (pc := 46) C dX7_init_46 0 rfl rfl ?_
  refine gn_sipush (pc := 47) (v := 160) C dX7_init_47 (by decide) ?_
  refine gn_newa (pc := 50) C dX7_init_50 rfl (tq_mem (by decide +kernel) rfl) 0 rfl 160 (160, .inl (fun _ => 0)) (fun cA => rfl) (by decide) (by decide) (by decide) (by rw [hQ]; decide) (by rw [hQ]; decide) (fun q4 => ?_)
  refine gn_putF (pc := 52) C dX7_init_52 rfl itX7 tyX7 tyX7_ok nmX7 7 (by decide) (tq_mem (by decide +kernel) rfl) rfl rfl (ty := tyX7 7) (by decide +kernel) rfl rfl (Nat.le_of_ble_eq_true rfl) [.ref q1, .ref q2, .int 0, .ref q3, .int 0, .int 0, .int 0, .ref q4, .int 0, .int 0, .int 0, .int 0, .int 0, .int 0, .int 0, .int 0, .null, .null, .int 0, .int 0, .int 0, .null, .int 0, .null, .null, .null, .null, .null, .int 0] rfl ?_
  refine gn_aload_n (pc := 55) C dX7_init_55 0 rfl rfl ?_
  refine gn_bipush (pc := 56) (v := 8) C dX7_init_56 (by decide) ?_
  refine gn_newa (pc := 58) C dX7_init_58 rfl (tq_mem (by decide +kernel) rfl) 0 rfl 8 (8, .inl (fun _ => 0)) (fun cA => rfl) (by decide) (by decide) (by decide) (by rw [hQ]; decide) (by rw [hQ]; decide) (fun q5 => ?_)
  refine gn_dup (pc := 60) C dX7_init_60 rfl ?_
  refine gn_iconst (pc := 61) (v := 0) C dX7_init_61 (by decide) ?_
  refine gn_iconst (pc := 62) (v := 0) C dX7_init_62 (by decide) ?_
  refine gn_iast (pc := 63) C dX7_init_63 5 rfl (vp_in_nI (n := 0) (by decide) (by decide)) ((h, .inr (7, [.ref q1, .ref q2, .int 0, .ref q3, .int 0, .int 0, .int 0, .ref q4, .int 0, .int 0, .int 0, .int 0, .int 0, .int 0, .int 0, .int 0, .null, .null, .int 0, .int 0, .int 0, .null, .int 0, .null, .null, .null, .null, .null, .int 0])) :: ((q1, .inl ((tq_la X).2.2 0, 168, .inl (fun _ => 0))) :: ((q2, .inl ((tq_la X).2.2 0, 4, .inl (upd (upd (upd (upd (fun _ => 0) 0 10) 1 5) 2 4) 3 20))) :: ((q3, .inl ((tq_la X).2.2 0, 28, .inl (fun _ => 0))) :: ((q4, .inl ((tq_la X).2.2 0, 160, .inl (fun _ => 0))) :: ((q5, .inl ((tq_la X).2.2 0, 8, .inl (upd (fun _ => 0) 0 0))) :: [])))))) rfl ?_
  refine gn_dup (pc := 64) C dX7_init_64 rfl ?_
  refine gn_iconst (pc := 65) (v := 1) C dX7_init_65 (by decide) ?_
  refine gn_iconst (pc := 66) (v := 5) C dX7_init_66 (by decide) ?_
  refine gn_iast (pc := 67) C dX7_init_67 5 rfl (vp_in_nI (n := 1) (by decide) (by decide)) ((h, .inr (7, [.ref q1, .ref q2, .int 0, .ref q3, .int 0, .int 0, .int 0, .ref q4, .int 0, .int 0, .int 0, .int 0, .int 0, .int 0, .int 0, .int 0, .null, .null, .int 0, .int 0, .int 0, .null, .int 0, .null, .null, .null, .null, .null, .int 0])) :: ((q1, .inl ((tq_la X).2.2 0, 168, .inl (fun _ => 0))) :: ((q2, .inl ((tq_la X).2.2 0, 4, .inl (upd (upd (upd (upd (fun _ => 0) 0 10) 1 5) 2 4) 3 20))) :: ((q3, .inl ((tq_la X).2.2 0, 28, .inl (fun _ => 0))) :: ((q4, .inl ((tq_la X).2.2 0, 160, .inl (fun _ => 0))) :: ((q5, .inl ((tq_la X).2.2 0, 8, .inl (upd (upd (fun _ => 0) 0 0) 1 5))) :: [])))))) rfl ?_
  refine gn_dup (pc := 68) C dX7_init_68 rfl ?_
  refine gn_iconst (pc := 69) (v := 2) C dX7_init_69 (by decide) ?_
  refine gn_bipush (pc := 70) (v := 9) C dX7_init_70 (by decide) ?_
  refine gn_iast (pc := 72) C dX7_init_72 5 rfl (vp_in_nI (n := 2) (by decide) (by decide)) ((h, .inr (7, [.ref q1, .ref q2, .int 0, .ref q3, .int 0, .int 0, .int 0, .ref q4, .int 0, .int 0, .int 0, .int 0, .int 0, .int 0, .int 0, .int 0, .null, .null, .int 0, .int 0, .int 0, .null, .int 0, .null, .null, .null, .null, .null, .int 0])) :: ((q1, .inl ((tq_la X).2.2 0, 168, .inl (fun _ => 0))) :: ((q2, .inl ((tq_la X).2.2 0, 4, .inl (upd (upd (upd (upd (fun _ => 0) 0 10) 1 5) 2 4) 3 20))) :: ((q3, .inl ((tq_la X).2.2 0, 28, .inl (fun _ => 0))) :: ((q4, .inl ((tq_la X).2.2 0, 160, .inl (fun _ => 0))) :: ((q5, .inl ((tq_la X).2.2 0, 8, .inl (upd (upd (upd (fun _ => 0) 0 0) 1 5) 2 9))) :: [])))))) rfl ?_
  refine gn_dup (pc := 73) C dX7_init_73 rfl ?_
  refine gn_iconst (pc := 74) (v := 3) C dX7_init_74 (by decide) ?_
  refine gn_bipush (pc := 75) (v := 13) C dX7_init_75 (by decide) ?_
  refine gn_iast (pc := 77) C dX7_init_77 5 rfl (vp_in_nI (n := 3) (by decide) (by decide)) ((h, .inr (7, [.ref q1, .ref q2, .int 0, .ref q3, .int 0, .int 0, .int 0, .ref q4, .int 0, .int 0, .int 0, .int 0, .int 0, .int 0, .int 0, .int 0, .null, .null, .int 0, .int 0, .int 0, .null, .int 0, .null, .null, .null, .null, .null, .int 0])) :: ((q1, .inl ((tq_la X).2.2 0, 168, .inl (fun _ => 0))) :: ((q2, .inl ((tq_la X).2.2 0, 4, .inl (upd (upd (upd (upd (fun _ => 0) 0 10) 1 5) 2 4) 3 20))) :: ((q3, .inl ((tq_la X).2.2 0, 28, .inl (fun _ => 0))) :: ((q4, .inl ((tq_la X).2.2 0, 160, .inl (fun _ => 0))) :: ((q5, .inl ((tq_la X).2.2 0, 8, .inl (upd (upd (upd (upd (fun _ => 0) 0 0) 1 5) 2 9) 3 13))) :: [])))))) rfl ?_
  refine gn_dup (pc := 78) C dX7_init_78 rfl ?_
  refine gn_iconst (pc := 79) (v := 4) C dX7_init_79 (by decide) ?_
  refine gn_bipush (pc := 80) (v := 16) C dX7_init_80 (by decide) ?_
  refine gn_iast (pc := 82) C dX7_init_82 5 rfl (vp_in_nI (n := 4) (by decide) (by decide)) ((h, .inr (7, [.ref q1, .ref q2, .int 0, .ref q3, .int 0, .int 0, .int 0, .ref q4, .int 0, .int 0, .int 0, .int 0, .int 0, .int 0, .int 0, .int 0, .null, .null, .int 0, .int 0, .int 0, .null, .int 0, .null, .null, .null, .null, .null, .int 0])) :: ((q1, .inl ((tq_la X).2.2 0, 168, .inl (fun _ => 0))) :: ((q2, .inl ((tq_la X).2.2 0, 4, .inl (upd (upd (upd (upd (fun _ => 0) 0 10) 1 5) 2 4) 3 20))) :: ((q3, .inl ((tq_la X).2.2 0, 28, .inl (fun _ => 0))) :: ((q4, .inl ((tq_la X).2.2 0, 160, .inl (fun _ => 0))) :: ((q5, .inl ((tq_la X).2.2 0, 8, .inl (upd (upd (upd (upd (upd (fun _ => 0) 0 0) 1 5) 2 9) 3 13) 4 16))) :: [])))))) rfl ?_
  refine gn_dup (pc := 83) C dX7_init_83 rfl ?_
  refine gn_iconst (pc := 84) (v := 5) C dX7_init_84 (by decide) ?_
  refine gn_bipush (pc := 85) (v := 20) C dX7_init_85 (by decide) ?_
  refine gn_iast (pc := 87) C dX7_init_87 5 rfl (vp_in_nI (n := 5) (by decide) (by decide)) ((h, .inr (7, [.ref q1, .ref q2, .int 0, .ref q3, .int 0, .int 0, .int 0, .ref q4, .int 0, .int 0, .int 0, .int 0, .int 0, .int 0, .int 0, .int 0, .null, .null, .int 0, .int 0, .int 0, .null, .int 0, .null, .null, .null, .null, .null, .int 0])) :: ((q1, .inl ((tq_la X).2.2 0, 168, .inl (fun _ => 0))) :: ((q2, .inl ((tq_la X).2.2 0, 4, .inl (upd (upd (upd (upd (fun _ => 0) 0 10) 1 5) 2 4) 3 20))) :: ((q3, .inl ((tq_la X).2.2 0, 28, .inl (fun _ => 0))) :: ((q4, .inl ((tq_la X).2.2 0, 160, .inl (fun _ => 0))) :: ((q5, .inl ((tq_la X).2.2 0, 8, .inl (upd (upd (upd (upd (upd (upd (fun _ => 0) 0 0) 1 5) 2 9) 3 13) 4 16) 5 20))) :: [])))))) rfl ?_
  refine gn_dup (pc := 88) C dX7_init_88 rfl ?_
  refine gn_bipush (pc := 89) (v := 6) C dX7_init_89 (by decide) ?_
  refine gn_bipush (pc := 91) (v := 25) C dX7_init_91 (by decide) ?_
  refine gn_iast (pc := 93) C dX7_init_93 5 rfl (vp_in_nI (n := 6) (by decide) (by decide)) ((h, .inr (7, [.ref q1, .ref q2, .int 0, .ref q3, .int 0, .int 0, .int 0, .ref q4, .int 0, .int 0, .int 0, .int 0, .int 0, .int 0, .int 0, .int 0, .null, .null, .int 0, .int 0, .int 0, .null, .int 0, .null, .null, .null, .null, .null, .int 0])) :: ((q1, .inl ((tq_la X).2.2 0, 168, .inl (fun _ => 0))) :: ((q2, .inl ((tq_la X).2.2 0, 4, .inl (upd (upd (upd (upd (fun _ => 0) 0 10) 1 5) 2 4) 3 20))) :: ((q3, .inl ((tq_la X).2.2 0, 28, .inl (fun _ => 0))) :: ((q4, .inl ((tq_la X).2.2 0, 160, .inl (fun _ => 0))) :: ((q5, .inl ((tq_la X).2.2 0, 8, .inl (upd (upd (upd (upd (upd (upd (upd (fun _ => 0) 0 0) 1 5) 2 9) 3 13) 4 16) 5 20) 6 25))) :: [])))))) rfl ?_
  refine gn_dup (pc := 94) C dX7_init_94 rfl ?_
  refine gn_bipush (pc := 95) (v := 7) C dX7_init_95 (by decide) ?_
  refine gn_bipush (pc := 97) (v := 29) C dX7_init_97 (by decide) ?_
  refine gn_iast (pc := 99) C dX7_init_99 5 rfl (vp_in_nI (n := 7) (by decide) (by decide)) ((h, .inr (7, [.ref q1, .ref q2, .int 0, .ref q3, .int 0, .int 0, .int 0, .ref q4, .int 0, .int 0, .int 0, .int 0, .int 0, .int 0, .int 0, .int 0, .null, .null, .int 0, .int 0, .int 0, .null, .int 0, .null, .null, .null, .null, .null, .int 0])) :: ((q1, .inl ((tq_la X).2.2 0, 168, .inl (fun _ => 0))) :: ((q2, .inl ((tq_la X).2.2 0, 4, .inl (upd (upd (upd (upd (fun _ => 0) 0 10) 1 5) 2 4) 3 20))) :: ((q3, .inl ((tq_la X).2.2 0, 28, .inl (fun _ => 0))) :: ((q4, .inl ((tq_la X).2.2 0, 160, .inl (fun _ => 0))) :: ((q5, .inl ((tq_la X).2.2 0, 8, .inl (upd (upd (upd (upd (upd (upd (upd (upd (fun _ => 0) 0 0) 1 5) 2 9) 3 13) 4 16) 5 20) 6 25) 7 29))) :: [])))))) rfl ?_
  refine gn_putF (pc := 100) C dX7_init_100 rfl itX7 tyX7 tyX7_ok nmX7 16 (by decide) (tq_mem (by decide +kernel) rfl) rfl rfl (ty := tyX7 16) (by decide +kernel) rfl rfl (Nat.le_of_ble_eq_true rfl) [.ref q1, .ref q2, .int 0, .ref q3, .int 0, .int 0, .int 0, .ref q4, .int 0, .int 0, .int 0, .int 0, .int 0, .int 0, .int 0, .int 0, .ref q5, .null, .int 0, .int 0, .int 0, .null, .int 0, .null, .null, .null, .null, .null, .int 0] rfl ?_
  refine gn_aload_n (pc := 103) C dX7_init_103 0 rfl rfl ?_
  refine gn_bipush (pc := 104) (v := 29) C dX7_init_104 (by decide) ?_
  refine gn_newa (pc := 106) C dX7_init_106 rfl (tq_mem (by decide +kernel) rfl) 0 rfl 29 (29, .inl (fun _ => 0)) (fun cA => rfl) (by decide) (by decide) (by decide) (by rw [hQ]; decide) (by rw [hQ]; decide) (fun q6 => ?_)
  refine gn_dup (pc := 108) C dX7_init_108 rfl ?_
  refine gn_iconst (pc := 109) (v := 0) C dX7_init_109 (by decide) ?_
  refine gn_bipush (pc := 110) (v := 112) C dX7_init_110 (by decide) ?_
  refine gn_iast (pc := 112) C dX7_init_112 6 rfl (vp_in_nI (n := 0) (by decide) (by decide)) ((h, .inr (7, [.ref q1, .ref q2, .int 0, .ref q3, .int 0, .int 0, .int 0, .ref q4, .int 0, .int 0, .int 0, .int 0, .int 0, .int 0, .int 0, .int 0, .ref q5, .null, .int 0, .int 0, .int 0, .null, .int 0, .null, .null, .null, .null, .null, .int 0])) :: ((q1, .inl ((tq_la X).2.2 0, 168, .inl (fun _ => 0))) :: ((q2, .inl ((tq_la X).2.2 0, 4, .inl (upd (upd (upd (upd (fun _ => 0) 0 10) 1 5) 2 4) 3 20))) :: ((q3, .inl ((tq_la X).2.2 0, 28, .inl (fun _ => 0))) :: ((q4, .inl ((tq_la X).2.2 0, 160, .inl (fun _ => 0))) :: ((q5, .inl ((tq_la X).2.2 0, 8, .inl (upd (upd (upd (upd (upd (upd (upd (upd (fun _ => 0) 0 0) 1 5) 2 9) 3 13) 4 16) 5 20) 6 25) 7 29))) :: ((q6, .inl ((tq_la X).2.2 0, 29, .inl (upd (fun _ => 0) 0 112))) :: []))))))) rfl ?_
  refine gn_dup (pc := 113) C dX7_init_113 rfl ?_
  refine gn_iconst (pc := 114) (v := 1) C dX7_init_114 (by decide) ?_
  refine gn_bipush (pc := 115) (v := 108) C dX7_init_115 (by decide) ?_
  refine gn_iast (pc := 117) C dX7_init_117 6 rfl (vp_in_nI (n := 1) (by decide) (by decide)) ((h, .inr (7, [.ref q1, .ref q2, .int 0, .ref q3, .int 0, .int 0, .int 0, .ref q4, .int 0, .int 0, .int 0, .int 0, .int 0, .int 0, .int 0, .int 0, .ref q5, .null, .int 0, .int 0, .int 0, .null, .int 0, .null, .null, .null, .null, .null, .int 0])) :: ((q1, .inl ((tq_la X).2.2 0, 168, .inl (fun _ => 0))) :: ((q2, .inl ((tq_la X).2.2 0, 4, .inl (upd (upd (upd (upd (fun _ => 0) 0 10) 1 5) 2 4) 3 20))) :: ((q3, .inl ((tq_la X).2.2 0, 28, .inl (fun _ => 0))) :: ((q4, .inl ((tq_la X).2.2 0, 160, .inl (fun _ => 0))) :: ((q5, .inl ((tq_la X).2.2 0, 8, .inl (upd (upd (upd (upd (upd (upd (upd (upd (fun _ => 0) 0 0) 1 5) 2 9) 3 13) 4 16) 5 20) 6 25) 7 29))) :: ((q6, .inl ((tq_la X).2.2 0, 29, .inl (upd (upd (fun _ => 0) 0 112) 1 108))) :: []))))))) rfl ?_
  refine gn_dup (pc := 118) C dX7_init_118 rfl ?_
  refine gn_iconst (pc := 119) (v := 2) C dX7_init_119 (by decide) ?_
  refine gn_bipush (pc := 120) (v := 97) C dX7_init_120 (by decide) ?_
  refine gn_iast (pc := 122) C dX7_init_122 6 rfl (vp_in_nI (n := 2) (by decide) (by decide)) ((h, .inr (7, [.ref q1, .ref q2, .int 0, .ref q3, .int 0, .int 0, .int 0, .ref q4, .int 0, .int 0, .int 0, .int 0, .int 0, .int 0, .int 0, .int 0, .ref q5, .null, .int 0, .int 0, .int 0, .null, .int 0, .null, .null, .null, .null, .null, .int 0])) :: ((q1, .inl ((tq_la X).2.2 0, 168, .inl (fun _ => 0))) :: ((q2, .inl ((tq_la X).2.2 0, 4, .inl (upd (upd (upd (upd (fun _ => 0) 0 10) 1 5) 2 4) 3 20))) :: ((q3, .inl ((tq_la X).2.2 0, 28, .inl (fun _ => 0))) :: ((q4, .inl ((tq_la X).2.2 0, 160, .inl (fun _ => 0))) :: ((q5, .inl ((tq_la X).2.2 0, 8, .inl (upd (upd (upd (upd (upd (upd (upd (upd (fun _ => 0) 0 0) 1 5) 2 9) 3 13) 4 16) 5 20) 6 25) 7 29))) :: ((q6, .inl ((tq_la X).2.2 0, 29, .inl (upd (upd (upd (fun _ => 0) 0 112) 1 108) 2 97))) :: []))))))) rfl ?_
  refine gn_dup (pc := 123) C dX7_init_123 rfl ?_
  refine gn_iconst (pc := 124) (v := 3) C dX7_init_124 (by decide) ?_
  refine gn_bipush (pc := 125) (v := 105) C dX7_init_125 (by decide) ?_
  refine gn_iast (pc := 127) C dX7_init_127 6 rfl (vp_in_nI (n := 3) (by decide) (by decide)) ((h, .inr (7, [.ref q1, .ref q2, .int 0, .ref q3, .int 0, .int 0, .int 0, .ref q4, .int 0, .int 0, .int 0, .int 0, .int 0, .int 0, .int 0, .int 0, .ref q5, .null, .int 0, .int 0, .int 0, .null, .int 0, .null, .null, .null, .null, .null, .int 0])) :: ((q1, .inl ((tq_la X).2.2 0, 168, .inl (fun _ => 0))) :: ((q2, .inl ((tq_la X).2.2 0, 4, .inl (upd (upd (upd (upd (fun _ => 0) 0 10) 1 5) 2 4) 3 20))) :: ((q3, .inl ((tq_la X).2.2 0, 28, .inl (fun _ => 0))) :: ((q4, .inl ((tq_la X).2.2 0, 160, .inl (fun _ => 0))) :: ((q5, .inl ((tq_la X).2.2 0, 8, .inl (upd (upd (upd (upd (upd (upd (upd (upd (fun _ => 0) 0 0) 1 5) 2 9) 3 13) 4 16) 5 20) 6 25) 7 29))) :: ((q6, .inl ((tq_la X).2.2 0, 29, .inl (upd (upd (upd (upd (fun _ => 0) 0 112) 1 108) 2 97) 3 105))) :: []))))))) rfl ?_
  refine gn_dup (pc := 128) C dX7_init_128 rfl ?_
  refine gn_iconst (pc := 129) (v := 4) C dX7_init_129 (by decide) ?_
  refine gn_bipush (pc := 130) (v := 110) C dX7_init_130 (by decide) ?_
  refine gn_iast (pc := 132) C dX7_init_132 6 rfl (vp_in_nI (n := 4) (by decide) (by decide)) ((h, .inr (7, [.ref q1, .ref q2, .int 0, .ref q3, .int 0, .int 0, .int 0, .ref q4, .int 0, .int 0, .int 0, .int 0, .int 0, .int 0, .int 0, .int 0, .ref q5, .null, .int 0, .int 0, .int 0, .null, .int 0, .null, .null, .null, .null, .null, .int 0])) :: ((q1, .inl ((tq_la X).2.2 0, 168, .inl (fun _ => 0))) :: ((q2, .inl ((tq_la X).2.2 0, 4, .inl (upd (upd (upd (upd (fun _ => 0) 0 10) 1 5) 2 4) 3 20))) :: ((q3, .inl ((tq_la X).2.2 0, 28, .inl (fun _ => 0))) :: ((q4, .inl ((tq_la X).2.2 0, 160, .inl (fun _ => 0))) :: ((q5, .inl ((tq_la X).2.2 0, 8, .inl (upd (upd (upd (upd (upd (upd (upd (upd (fun _ => 0) 0 0) 1 5) 2 9) 3 13) 4 16) 5 20) 6 25) 7 29))) :: ((q6, .inl ((tq_la X).2.2 0, 29, .inl (upd (upd (upd (upd (upd (fun _ => 0) 0 112) 1 108) 2 97) 3 105) 4 110))) :: []))))))) rfl ?_
  refine gn_dup (pc := 133) C dX7_init_133 rfl ?_
  refine gn_iconst (pc := 134) (v := 5) C dX7_init_134 (by decide) ?_
  refine gn_bipush (pc := 135) (v := 115) C dX7_init_135 (by decide) ?_
  refine gn_iast (pc := 137) C dX7_init_137 6 rfl (vp_in_nI (n := 5) (by decide) (by decide)) ((h, .inr (7, [.ref q1, .ref q2, .int 0, .ref q3, .int 0, .int 0, .int 0, .ref q4, .int 0, .int 0, .int 0, .int 0, .int 0, .int 0, .int 0, .int 0, .ref q5, .null, .int 0, .int 0, .int 0, .null, .int 0, .null, .null, .null, .null, .null, .int 0])) :: ((q1, .inl ((tq_la X).2.2 0, 168, .inl (fun _ => 0))) :: ((q2, .inl ((tq_la X).2.2 0, 4, .inl (upd (upd (upd (upd (fun _ => 0) 0 10) 1 5) 2 4) 3 20))) :: ((q3, .inl ((tq_la X).2.2 0, 28, .inl (fun _ => 0))) :: ((q4, .inl ((tq_la X).2.2 0, 160, .inl (fun _ => 0))) :: ((q5, .inl ((tq_la X).2.2 0, 8, .inl (upd (upd (upd (upd (upd (upd (upd (upd (fun _ => 0) 0 0) 1 5) 2 9) 3 13) 4 16) 5 20) 6 25) 7 29))) :: ((q6, .inl ((tq_la X).2.2 0, 29, .inl (upd (upd (upd (upd (upd (upd (fun _ => 0) 0 112) 1 108) 2 97) 3 105) 4 110) 5 115))) :: []))))))) rfl ?_
  refine gn_dup (pc := 138) C dX7_init_138 rfl ?_
  refine gn_bipush (pc := 139) (v := 6) C dX7_init_139 (by decide) ?_
  refine gn_bipush (pc := 141) (v := 111) C dX7_init_141 (by decide) ?_
  refine gn_iast (pc := 143) C dX7_init_143 6 rfl (vp_in_nI (n := 6) (by decide) (by decide)) ((h, .inr (7, [.ref q1, .ref q2, .int 0, .ref q3, .int 0, .int 0, .int 0, .ref q4, .int 0, .int 0, .int 0, .int 0, .int 0, .int 0, .int 0, .int 0, .ref q5, .null, .int 0, .int 0, .int 0, .null, .int 0, .null, .null, .null, .null, .null, .int 0])) :: ((q1, .inl ((tq_la X).2.2 0, 168, .inl (fun _ => 0))) :: ((q2, .inl ((tq_la X).2.2 0, 4, .inl (upd (upd (upd (upd (fun _ => 0) 0 10) 1 5) 2 4) 3 20))) :: ((q3, .inl ((tq_la X).2.2 0, 28, .inl (fun _ => 0))) :: ((q4, .inl ((tq_la X).2.2 0, 160, .inl (fun _ => 0))) :: ((q5, .inl ((tq_la X).2.2 0, 8, .inl (upd (upd (upd (upd (upd (upd (upd (upd (fun _ => 0) 0 0) 1 5) 2 9) 3 13) 4 16) 5 20) 6 25) 7 29))) :: ((q6, .inl ((tq_la X).2.2 0, 29, .inl (upd (upd (upd (upd (upd (upd (upd (fun _ => 0) 0 112) 1 108) 2 97) 3 105) 4 110) 5 115) 6 111))) :: []))))))) rfl ?_
  refine gn_dup (pc := 144) C dX7_init_144 rfl ?_
  refine gn_bipush (pc := 145) (v := 7) C dX7_init_145 (by decide) ?_
  refine gn_bipush (pc := 147) (v := 102) C dX7_init_147 (by decide) ?_
  refine gn_iast (pc := 149) C dX7_init_149 6 rfl (vp_in_nI (n := 7) (by decide) (by decide)) ((h, .inr (7, [.ref q1, .ref q2, .int 0, .ref q3, .int 0, .int 0, .int 0, .ref q4, .int 0, .int 0, .int 0, .int 0, .int 0, .int 0, .int 0, .int 0, .ref q5, .null, .int 0, .int 0, .int 0, .null, .int 0, .null, .null, .null, .null, .null, .int 0])) :: ((q1, .inl ((tq_la X).2.2 0, 168, .inl (fun _ => 0))) :: ((q2, .inl ((tq_la X).2.2 0, 4, .inl (upd (upd (upd (upd (fun _ => 0) 0 10) 1 5) 2 4) 3 20))) :: ((q3, .inl ((tq_la X).2.2 0, 28, .inl (fun _ => 0))) :: ((q4, .inl ((tq_la X).2.2 0, 160, .inl (fun _ => 0))) :: ((q5, .inl ((tq_la X).2.2 0, 8, .inl (upd (upd (upd (upd (upd (upd (upd (upd (fun _ => 0) 0 0) 1 5) 2 9) 3 13) 4 16) 5 20) 6 25) 7 29))) :: ((q6, .inl ((tq_la X).2.2 0, 29, .inl (upd (upd (upd (upd (upd (upd (upd (upd (fun _ => 0) 0 112) 1 108) 2 97) 3 105) 4 110) 5 115) 6 111) 7 102))) :: []))))))) rfl ?_
  refine gn_dup (pc := 150) C dX7_init_150 rfl ?_
  refine gn_bipush (pc := 151) (v := 8) C dX7_init_151 (by decide) ?_
  refine gn_bipush (pc := 153) (v := 116) C dX7_init_153 (by decide) ?_
  refine gn_iast (pc := 155) C dX7_init_155 6 rfl (vp_in_nI (n := 8) (by decide) (by decide)) ((h, .inr (7, [.ref q1, .ref q2, .int 0, .ref q3, .int 0, .int 0, .int 0, .ref q4, .int 0, .int 0, .int 0, .int 0, .int 0, .int 0, .int 0, .int 0, .ref q5, .null, .int 0, .int 0, .int 0, .null, .int 0, .null, .null, .null, .null, .null, .int 0])) :: ((q1, .inl ((tq_la X).2.2 0, 168, .inl (fun _ => 0))) :: ((q2, .inl ((tq_la X).2.2 0, 4, .inl (upd (upd (upd (upd (fun _ => 0) 0 10) 1 5) 2 4) 3 20))) :: ((q3, .inl ((tq_la X).2.2 0, 28, .inl (fun _ => 0))) :: ((q4, .inl ((tq_la X).2.2 0, 160, .inl (fun _ => 0))) :: ((q5, .inl ((tq_la X).2.2 0, 8, .inl (upd (upd (upd (upd (upd (upd (upd (upd (fun _ => 0) 0 0) 1 5) 2 9) 3 13) 4 16) 5 20) 6 25) 7 29))) :: ((q6, .inl ((tq_la X).2.2 0, 29, .inl (upd (upd (upd (upd (upd (upd (upd (upd (upd (fun _ => 0) 0 112) 1 108) 2 97) 3 105) 4 110) 5 115) 6 111) 7 102) 8 116))) :: []))))))) rfl ?_
  refine gn_dup (pc := 156) C dX7_init_156 rfl ?_
  refine gn_bipush (pc := 157) (v := 9) C dX7_init_157 (by decide) ?_
  refine gn_bipush (pc := 159) (v := 115) C dX7_init_159 (by decide) ?_
  refine gn_iast (pc := 161) C dX7_init_161 6 rfl (vp_in_nI (n := 9) (by decide) (by decide)) ((h, .inr (7, [.ref q1, .ref q2, .int 0, .ref q3, .int 0, .int 0, .int 0, .ref q4, .int 0, .int 0, .int 0, .int 0, .int 0, .int 0, .int 0, .int 0, .ref q5, .null, .int 0, .int 0, .int 0, .null, .int 0, .null, .null, .null, .null, .null, .int 0])) :: ((q1, .inl ((tq_la X).2.2 0, 168, .inl (fun _ => 0))) :: ((q2, .inl ((tq_la X).2.2 0, 4, .inl (upd (upd (upd (upd (fun _ => 0) 0 10) 1 5) 2 4) 3 20))) :: ((q3, .inl ((tq_la X).2.2 0, 28, .inl (fun _ => 0))) :: ((q4, .inl ((tq_la X).2.2 0, 160, .inl (fun _ => 0))) :: ((q5, .inl ((tq_la X).2.2 0, 8, .inl (upd (upd (upd (upd (upd (upd (upd (upd (fun _ => 0) 0 0) 1 5) 2 9) 3 13) 4 16) 5 20) 6 25) 7 29))) :: ((q6, .inl ((tq_la X).2.2 0, 29, .inl (upd (upd (upd (upd (upd (upd (upd (upd (upd (upd (fun _ => 0) 0 112) 1 108) 2 97) 3 105) 4 110) 5 115) 6 111) 7 102) 8 116) 9 115))) :: []))))))) rfl ?_
  refine gn_dup (pc := 162) C dX7_init_162 rfl ?_
  refine gn_bipush (pc := 163) (v := 10) C dX7_init_163 (by decide) ?_
  refine gn_bipush (pc := 165) (v := 104) C dX7_init_165 (by decide) ?_
  refine gn_iast (pc := 167) C dX7_init_167 6 rfl (vp_in_nI (n := 10) (by decide) (by decide)) ((h, .inr (7, [.ref q1, .ref q2, .int 0, .ref q3, .int 0, .int 0, .int 0, .ref q4, .int 0, .int 0, .int 0, .int 0, .int 0, .int 0, .int 0, .int 0, .ref q5, .null, .int 0, .int 0, .int 0, .null, .int 0, .null, .null, .null, .null, .null, .int 0])) :: ((q1, .inl ((tq_la X).2.2 0, 168, .inl (fun _ => 0))) :: ((q2, .inl ((tq_la X).2.2 0, 4, .inl (upd (upd (upd (upd (fun _ => 0) 0 10) 1 5) 2 4) 3 20))) :: ((q3, .inl ((tq_la X).2.2 0, 28, .inl (fun _ => 0))) :: ((q4, .inl ((tq_la X).2.2 0, 160, .inl (fun _ => 0))) :: ((q5, .inl ((tq_la X).2.2 0, 8, .inl (upd (upd (upd (upd (upd (upd (upd (upd (fun _ => 0) 0 0) 1 5) 2 9) 3 13) 4 16) 5 20) 6 25) 7 29))) :: ((q6, .inl ((tq_la X).2.2 0, 29, .inl (upd (upd (upd (upd (upd (upd (upd (upd (upd (upd (upd (fun _ => 0) 0 112) 1 108) 2 97) 3 105) 4 110) 5 115) 6 111) 7 102) 8 116) 9 115) 10 104))) :: []))))))) rfl ?_
  refine gn_dup (pc := 168) C dX7_init_168 rfl ?_
  refine gn_bipush (pc := 169) (v := 11) C dX7_init_169 (by decide) ?_
  refine gn_bipush (pc := 171) (v := 97) C dX7_init_171 (by decide) ?_
  refine gn_iast (pc := 173) C dX7_init_173 6 rfl (vp_in_nI (n := 11) (by decide) (by decide)) ((h, .inr (7, [.ref q1, .ref q2, .int 0, .ref q3, .int 0, .int 0, .int 0, .ref q4, .int 0, .int 0, .int 0, .int 0, .int 0, .int 0, .int 0, .int 0, .ref q5, .null, .int 0, .int 0, .int 0, .null, .int 0, .null, .null, .null, .null, .null, .int 0])) :: ((q1, .inl ((tq_la X).2.2 0, 168, .inl (fun _ => 0))) :: ((q2, .inl ((tq_la X).2.2 0, 4, .inl (upd (upd (upd (upd (fun _ => 0) 0 10) 1 5) 2 4) 3 20))) :: ((q3, .inl ((tq_la X).2.2 0, 28, .inl (fun _ => 0))) :: ((q4, .inl ((tq_la X).2.2 0, 160, .inl (fun _ => 0))) :: ((q5, .inl ((tq_la X).2.2 0, 8, .inl (upd (upd (upd (upd (upd (upd (upd (upd (fun _ => 0) 0 0) 1 5) 2 9) 3 13) 4 16) 5 20) 6 25) 7 29))) :: ((q6, .inl ((tq_la X).2.2 0, 29, .inl (upd (upd (upd (upd (upd (upd (upd (upd (upd (upd (upd (upd (fun _ => 0) 0 112) 1 108) 2 97) 3 105) 4 110) 5 115) 6 111) 7 102) 8 116) 9 115) 10 104) 11 97))) :: []))))))) rfl ?_
  refine gn_dup (pc := 174) C dX7_init_174 rfl ?_
  refine gn_bipush (pc := 175) (v := 12) C dX7_init_175 (by decide) ?_
  refine gn_bipush (pc := 177) (v := 109) C dX7_init_177 (by decide) ?_
  refine gn_iast (pc := 179) C dX7_init_179 6 rfl (vp_in_nI (n := 12) (by decide) (by decide)) ((h, .inr (7, [.ref q1, .ref q2, .int 0, .ref q3, .int 0, .int 0, .int 0, .ref q4, .int 0, .int 0, .int 0, .int 0, .int 0, .int 0, .int 0, .int 0, .ref q5, .null, .int 0, .int 0, .int 0, .null, .int 0, .null, .null, .null, .null, .null, .int 0])) :: ((q1, .inl ((tq_la X).2.2 0, 168, .inl (fun _ => 0))) :: ((q2, .inl ((tq_la X).2.2 0, 4, .inl (upd (upd (upd (upd (fun _ => 0) 0 10) 1 5) 2 4) 3 20))) :: ((q3, .inl ((tq_la X).2.2 0, 28, .inl (fun _ => 0))) :: ((q4, .inl ((tq_la X).2.2 0, 160, .inl (fun _ => 0))) :: ((q5, .inl ((tq_la X).2.2 0, 8, .inl (upd (upd (upd (upd (upd (upd (upd (upd (fun _ => 0) 0 0) 1 5) 2 9) 3 13) 4 16) 5 20) 6 25) 7 29))) :: ((q6, .inl ((tq_la X).2.2 0, 29, .inl (upd (upd (upd (upd (upd (upd (upd (upd (upd (upd (upd (upd (upd (fun _ => 0) 0 112) 1 108) 2 97) 3 105) 4 110) 5 115) 6 111) 7 102) 8 116) 9 115) 10 104) 11 97) 12 109))) :: []))))))) rfl ?_
  refine gn_dup (pc := 180) C dX7_init_180 rfl ?_
  refine gn_bipush (pc := 181) (v := 13) C dX7_init_181 (by decide) ?_
  refine gn_bipush (pc := 183) (v := 100) C dX7_init_183 (by decide) ?_
  refine gn_iast (pc := 185) C dX7_init_185 6 rfl (vp_in_nI (n := 13) (by decide) (by decide)) ((h, .inr (7, [.ref q1, .ref q2, .int 0, .ref q3, .int 0, .int 0, .int 0, .ref q4, .int 0, .int 0, .int 0, .int 0, .int 0, .int 0, .int 0, .int 0, .ref q5, .null, .int 0, .int 0, .int 0, .null, .int 0, .null, .null, .null, .null, .null, .int 0])) :: ((q1, .inl ((tq_la X).2.2 0, 168, .inl (fun _ => 0))) :: ((q2, .inl ((tq_la X).2.2 0, 4, .inl (upd (upd (upd (upd (fun _ => 0) 0 10) 1 5) 2 4) 3 20))) :: ((q3, .inl ((tq_la X).2.2 0, 28, .inl (fun _ => 0))) :: ((q4, .inl ((tq_la X).2.2 0, 160, .inl (fun _ => 0))) :: ((q5, .inl ((tq_la X).2.2 0, 8, .inl (upd (upd (upd (upd (upd (upd (upd (upd (fun _ => 0) 0 0) 1 5) 2 9) 3 13) 4 16) 5 20) 6 25) 7 29))) :: ((q6, .inl ((tq_la X).2.2 0, 29, .inl (upd (upd (upd (upd (upd (upd (upd (upd (upd (upd (upd (upd (upd (upd (fun _ => 0) 0 112) 1 108) 2 97) 3 105) 4 110) 5 115) 6 111) 7 102) 8 116) 9 115) 10 104) 11 97) 12 109) 13 100))) :: []))))))) rfl ?_
  refine gn_dup (pc := 186) C dX7_init_186 rfl ?_
  refine gn_bipush (pc := 187) (v := 14) C dX7_init_187 (by decide) ?_
  refine gn_bipush (pc := 189) (v := 114) C dX7_init_189 (by decide) ?_
  refine gn_iast (pc := 191) C dX7_init_191 6 rfl (vp_in_nI (n := 14) (by decide) (by decide)) ((h, .inr (7, [.ref q1, .ref q2, .int 0, .ref q3, .int 0, .int 0, .int 0, .ref q4, .int 0, .int 0, .int 0, .int 0, .int 0, .int 0, .int 0, .int 0, .ref q5, .null, .int 0, .int 0, .int 0, .null, .int 0, .null, .null, .null, .null, .null, .int 0])) :: ((q1, .inl ((tq_la X).2.2 0, 168, .inl (fun _ => 0))) :: ((q2, .inl ((tq_la X).2.2 0, 4, .inl (upd (upd (upd (upd (fun _ => 0) 0 10) 1 5) 2 4) 3 20))) :: ((q3, .inl ((tq_la X).2.2 0, 28, .inl (fun _ => 0))) :: ((q4, .inl ((tq_la X).2.2 0, 160, .inl (fun _ => 0))) :: ((q5, .inl ((tq_la X).2.2 0, 8, .inl (upd (upd (upd (upd (upd (upd (upd (upd (fun _ => 0) 0 0) 1 5) 2 9) 3 13) 4 16) 5 20) 6 25) 7 29))) :: ((q6, .inl ((tq_la X).2.2 0, 29, .inl (upd (upd (upd (upd (upd (upd (upd (upd (upd (upd (upd (upd (upd (upd (upd (fun _ => 0) 0 112) 1 108) 2 97) 3 105) 4 110) 5 115) 6 111) 7 102) 8 116) 9 115) 10 104) 11 97) 12 109) 13 100) 14 114))) :: []))))))) rfl ?_
  refine gn_dup (pc := 192) C dX7_init_192 rfl ?_
  refine gn_bipush (pc := 193) (v := 15) C dX7_init_193 (by decide) ?_
  refine gn_bipush (pc := 195) (v := 121) C dX7_init_195 (by decide) ?_
  refine gn_iast (pc := 197) C dX7_init_197 6 rfl (vp_in_nI (n := 15) (by decide) (by decide)) ((h, .inr (7, [.ref q1, .ref q2, .int 0, .ref q3, .int 0, .int 0, .int 0, .ref q4, .int 0, .int 0, .int 0, .int 0, .int 0, .int 0, .int 0, .int 0, .ref q5, .null, .int 0, .int 0, .int 0, .null, .int 0, .null, .null, .null, .null, .null, .int 0])) :: ((q1, .inl ((tq_la X).2.2 0, 168, .inl (fun _ => 0))) :: ((q2, .inl ((tq_la X).2.2 0, 4, .inl (upd (upd (upd (upd (fun _ => 0) 0 10) 1 5) 2 4) 3 20))) :: ((q3, .inl ((tq_la X).2.2 0, 28, .inl (fun _ => 0))) :: ((q4, .inl ((tq_la X).2.2 0, 160, .inl (fun _ => 0))) :: ((q5, .inl ((tq_la X).2.2 0, 8, .inl (upd (upd (upd (upd (upd (upd (upd (upd (fun _ => 0) 0 0) 1 5) 2 9) 3 13) 4 16) 5 20) 6 25) 7 29))) :: ((q6, .inl ((tq_la X).2.2 0, 29, .inl (upd (upd (upd (upd (upd (upd (upd (upd (upd (upd (upd (upd (upd (upd (upd (upd (fun _ => 0) 0 112) 1 108) 2 97) 3 105) 4 110) 5 115) 6 111) 7 102) 8 116) 9 115) 10 104) 11 97) 12 109) 13 100) 14 114) 15 121))) :: []))))))) rfl ?_
  refine gn_dup (pc := 198) C dX7_init_198 rfl ?_
  refine gn_bipush (pc := 199) (v := 16) C dX7_init_199 (by decide) ?_
  refine gn_bipush (pc := 201) (v := 114) C dX7_init_201 (by decide) ?_
  refine gn_iast (pc := 203) C dX7_init_203 6 rfl (vp_in_nI (n := 16) (by decide) (by decide)) ((h, .inr (7, [.ref q1, .ref q2, .int 0, .ref q3, .int 0, .int 0, .int 0, .ref q4, .int 0, .int 0, .int 0, .int 0, .int 0, .int 0, .int 0, .int 0, .ref q5, .null, .int 0, .int 0, .int 0, .null, .int 0, .null, .null, .null, .null, .null, .int 0])) :: ((q1, .inl ((tq_la X).2.2 0, 168, .inl (fun _ => 0))) :: ((q2, .inl ((tq_la X).2.2 0, 4, .inl (upd (upd (upd (upd (fun _ => 0) 0 10) 1 5) 2 4) 3 20))) :: ((q3, .inl ((tq_la X).2.2 0, 28, .inl (fun _ => 0))) :: ((q4, .inl ((tq_la X).2.2 0, 160, .inl (fun _ => 0))) :: ((q5, .inl ((tq_la X).2.2 0, 8, .inl (upd (upd (upd (upd (upd (upd (upd (upd (fun _ => 0) 0 0) 1 5) 2 9) 3 13) 4 16) 5 20) 6 25) 7 29))) :: ((q6, .inl ((tq_la X).2.2 0, 29, .inl (upd (upd (upd (upd (upd (upd (upd (upd (upd (upd (upd (upd (upd (upd (upd (upd (upd (fun _ => 0) 0 112) 1 108) 2 97) 3 105) 4 110) 5 115) 6 111) 7 102) 8 116) 9 115) 10 104) 11 97) 12 109) 13 100) 14 114) 15 121) 16 114))) :: []))))))) rfl ?_
  refine gn_dup (pc := 204) C dX7_init_204 rfl ?_
  refine gn_bipush (pc := 205) (v := 17) C dX7_init_205 (by decide) ?_
  refine gn_bipush (pc := 207) (v := 111) C dX7_init_207 (by decide) ?_
  refine gn_iast (pc := 209) C dX7_init_209 6 rfl (vp_in_nI (n := 17) (by decide) (by decide)) ((h, .inr (7, [.ref q1, .ref q2, .int 0, .ref q3, .int 0, .int 0, .int 0, .ref q4, .int 0, .int 0, .int 0, .int 0, .int 0, .int 0, .int 0, .int 0, .ref q5, .null, .int 0, .int 0, .int 0, .null, .int 0, .null, .null, .null, .null, .null, .int 0])) :: ((q1, .inl ((tq_la X).2.2 0, 168, .inl (fun _ => 0))) :: ((q2, .inl ((tq_la X).2.2 0, 4, .inl (upd (upd (upd (upd (fun _ => 0) 0 10) 1 5) 2 4) 3 20))) :: ((q3, .inl ((tq_la X).2.2 0, 28, .inl (fun _ => 0))) :: ((q4, .inl ((tq_la X).2.2 0, 160, .inl (fun _ => 0))) :: ((q5, .inl ((tq_la X).2.2 0, 8, .inl (upd (upd (upd (upd (upd (upd (upd (upd (fun _ => 0) 0 0) 1 5) 2 9) 3 13) 4 16) 5 20) 6 25) 7 29))) :: ((q6, .inl ((tq_la X).2.2 0, 29, .inl (upd (upd (upd (upd (upd (upd (upd (upd (upd (upd (upd (upd (upd (upd (upd (upd (upd (upd (fun _ => 0) 0 112) 1 108) 2 97) 3 105) 4 110) 5 115) 6 111) 7 102) 8 116) 9 115) 10 104) 11 97) 12 109) 13 100) 14 114) 15 121) 16 114) 17 111))) :: []))))))) rfl ?_
  refine gn_dup (pc := 210) C dX7_init_210 rfl ?_
  refine gn_bipush (pc := 211) (v := 18) C dX7_init_211 (by decide) ?_
  refine gn_bipush (pc := 213) (v := 111) C dX7_init_213 (by decide) ?_
  refine gn_iast (pc := 215) C dX7_init_215 6 rfl (vp_in_nI (n := 18) (by decide) (by decide)) ((h, .inr (7, [.ref q1, .ref q2, .int 0, .ref q3, .int 0, .int 0, .int 0, .ref q4, .int 0, .int 0, .int 0, .int 0, .int 0, .int 0, .int 0, .int 0, .ref q5, .null, .int 0, .int 0, .int 0, .null, .int 0, .null, .null, .null, .null, .null, .int 0])) :: ((q1, .inl ((tq_la X).2.2 0, 168, .inl (fun _ => 0))) :: ((q2, .inl ((tq_la X).2.2 0, 4, .inl (upd (upd (upd (upd (fun _ => 0) 0 10) 1 5) 2 4) 3 20))) :: ((q3, .inl ((tq_la X).2.2 0, 28, .inl (fun _ => 0))) :: ((q4, .inl ((tq_la X).2.2 0, 160, .inl (fun _ => 0))) :: ((q5, .inl ((tq_la X).2.2 0, 8, .inl (upd (upd (upd (upd (upd (upd (upd (upd (fun _ => 0) 0 0) 1 5) 2 9) 3 13) 4 16) 5 20) 6 25) 7 29))) :: ((q6, .inl ((tq_la X).2.2 0, 29, .inl (upd (upd (upd (upd (upd (upd (upd (upd (upd (upd (upd (upd (upd (upd (upd (upd (upd (upd (upd (fun _ => 0) 0 112) 1 108) 2 97) 3 105) 4 110) 5 115) 6 111) 7 102) 8 116) 9 115) 10 104) 11 97) 12 109) 13 100) 14 114) 15 121) 16 114) 17 111) 18 111))) :: []))))))) rfl ?_
  refine gn_dup (pc := 216) C dX7_init_216 rfl ?_
  refine gn_bipush (pc := 217) (v := 19) C dX7_init_217 (by decide) ?_
  refine gn_bipush (pc := 219) (v := 109) C dX7_init_219 (by decide) ?_
  refine gn_iast (pc := 221) C dX7_init_221 6 rfl (vp_in_nI (n := 19) (by decide) (by decide)) ((h, .inr (7, [.ref q1, .ref q2, .int 0, .ref q3, .int 0, .int 0, .int 0, .ref q4, .int 0, .int 0, .int 0, .int 0, .int 0, .int 0, .int 0, .int 0, .ref q5, .null, .int 0, .int 0, .int 0, .null, .int 0, .null, .null, .null, .null, .null, .int 0])) :: ((q1, .inl ((tq_la X).2.2 0, 168, .inl (fun _ => 0))) :: ((q2, .inl ((tq_la X).2.2 0, 4, .inl (upd (upd (upd (upd (fun _ => 0) 0 10) 1 5) 2 4) 3 20))) :: ((q3, .inl ((tq_la X).2.2 0, 28, .inl (fun _ => 0))) :: ((q4, .inl ((tq_la X).2.2 0, 160, .inl (fun _ => 0))) :: ((q5, .inl ((tq_la X).2.2 0, 8, .inl (upd (upd (upd (upd (upd (upd (upd (upd (fun _ => 0) 0 0) 1 5) 2 9) 3 13) 4 16) 5 20) 6 25) 7 29))) :: ((q6, .inl ((tq_la X).2.2 0, 29, .inl (upd (upd (upd (upd (upd (upd (upd (upd (upd (upd (upd (upd (upd (upd (upd (upd (upd (upd (upd (upd (fun _ => 0) 0 112) 1 108) 2 97) 3 105) 4 110) 5 115) 6 111) 7 102) 8 116) 9 115) 10 104) 11 97) 12 109) 13 100) 14 114) 15 121) 16 114) 17 111) 18 111) 19 109))) :: []))))))) rfl ?_
  refine gn_dup (pc := 222) C dX7_init_222 rfl ?_
  refine gn_bipush (pc := 223) (v := 20) C dX7_init_223 (by decide) ?_
  refine gn_bipush (pc := 225) (v := 116) C dX7_init_225 (by decide) ?_
  refine gn_iast (pc := 227) C dX7_init_227 6 rfl (vp_in_nI (n := 20) (by decide) (by decide)) ((h, .inr (7, [.ref q1, .ref q2, .int 0, .ref q3, .int 0, .int 0, .int 0, .ref q4, .int 0, .int 0, .int 0, .int 0, .int 0, .int 0, .int 0, .int 0, .ref q5, .null, .int 0, .int 0, .int 0, .null, .int 0, .null, .null, .null, .null, .null, .int 0])) :: ((q1, .inl ((tq_la X).2.2 0, 168, .inl (fun _ => 0))) :: ((q2, .inl ((tq_la X).2.2 0, 4, .inl (upd (upd (upd (upd (fun _ => 0) 0 10) 1 5) 2 4) 3 20))) :: ((q3, .inl ((tq_la X).2.2 0, 28, .inl (fun _ => 0))) :: ((q4, .inl ((tq_la X).2.2 0, 160, .inl (fun _ => 0))) :: ((q5, .inl ((tq_la X).2.2 0, 8, .inl (upd (upd (upd (upd (upd (upd (upd (upd (fun _ => 0) 0 0) 1 5) 2 9) 3 13) 4 16) 5 20) 6 25) 7 29))) :: ((q6, .inl ((tq_la X).2.2 0, 29, .inl (upd (upd (upd (upd (upd (upd (upd (upd (upd (upd (upd (upd (upd (upd (upd (upd (upd (upd (upd (upd (upd (fun _ => 0) 0 112) 1 108) 2 97) 3 105) 4 110) 5 115) 6 111) 7 102) 8 116) 9 115) 10 104) 11 97) 12 109) 13 100) 14 114) 15 121) 16 114) 17 111) 18 111) 19 109) 20 116))) :: []))))))) rfl ?_
  refine gn_dup (pc := 228) C dX7_init_228 rfl ?_
  refine gn_bipush (pc := 229) (v := 21) C dX7_init_229 (by decide) ?_
  refine gn_bipush (pc := 231) (v := 104) C dX7_init_231 (by decide) ?_
  refine gn_iast (pc := 233) C dX7_init_233 6 rfl (vp_in_nI (n := 21) (by decide) (by decide)) ((h, .inr (7, [.ref q1, .ref q2, .int 0, .ref q3, .int 0, .int 0, .int 0, .ref q4, .int 0, .int 0, .int 0, .int 0, .int 0, .int 0, .int 0, .int 0, .ref q5, .null, .int 0, .int 0, .int 0, .null, .int 0, .null, .null, .null, .null, .null, .int 0])) :: ((q1, .inl ((tq_la X).2.2 0, 168, .inl (fun _ => 0))) :: ((q2, .inl ((tq_la X).2.2 0, 4, .inl (upd (upd (upd (upd (fun _ => 0) 0 10) 1 5) 2 4) 3 20))) :: ((q3, .inl ((tq_la X).2.2 0, 28, .inl (fun _ => 0))) :: ((q4, .inl ((tq_la X).2.2 0, 160, .inl (fun _ => 0))) :: ((q5, .inl ((tq_la X).2.2 0, 8, .inl (upd (upd (upd (upd (upd (upd (upd (upd (fun _ => 0) 0 0) 1 5) 2 9) 3 13) 4 16) 5 20) 6 25) 7 29))) :: ((q6, .inl ((tq_la X).2.2 0, 29, .inl (upd (upd (upd (upd (upd (upd (upd (upd (upd (upd (upd (upd (upd (upd (upd (upd (upd (upd (upd (upd (upd (upd (fun _ => 0) 0 112) 1 108) 2 97) 3 105) 4 110) 5 115) 6 111) 7 102) 8 116) 9 115) 10 104) 11 97) 12 109) 13 100) 14 114) 15 121) 16 114) 17 111) 18 111) 19 109) 20 116) 21 104))) :: []))))))) rfl ?_
  refine gn_dup (pc := 234) C dX7_init_234 rfl ?_
  refine gn_bipush (pc := 235) (v := 22) C dX7_init_235 (by decide) ?_
  refine gn_bipush (pc := 237) (v := 105) C dX7_init_237 (by decide) ?_
  refine gn_iast (pc := 239) C dX7_init_239 6 rfl (vp_in_nI (n := 22) (by decide) (by decide)) ((h, .inr (7, [.ref q1, .ref q2, .int 0, .ref q3, .int 0, .int 0, .int 0, .ref q4, .int 0, .int 0, .int 0, .int 0, .int 0, .int 0, .int 0, .int 0, .ref q5, .null, .int 0, .int 0, .int 0, .null, .int 0, .null, .null, .null, .null, .null, .int 0])) :: ((q1, .inl ((tq_la X).2.2 0, 168, .inl (fun _ => 0))) :: ((q2, .inl ((tq_la X).2.2 0, 4, .inl (upd (upd (upd (upd (fun _ => 0) 0 10) 1 5) 2 4) 3 20))) :: ((q3, .inl ((tq_la X).2.2 0, 28, .inl (fun _ => 0))) :: ((q4, .inl ((tq_la X).2.2 0, 160, .inl (fun _ => 0))) :: ((q5, .inl ((tq_la X).2.2 0, 8, .inl (upd (upd (upd (upd (upd (upd (upd (upd (fun _ => 0) 0 0) 1 5) 2 9) 3 13) 4 16) 5 20) 6 25) 7 29))) :: ((q6, .inl ((tq_la X).2.2 0, 29, .inl (upd (upd (upd (upd (upd (upd (upd (upd (upd (upd (upd (upd (upd (upd (upd (upd (upd (upd (upd (upd (upd (upd (upd (fun _ => 0) 0 112) 1 108) 2 97) 3 105) 4 110) 5 115) 6 111) 7 102) 8 116) 9 115) 10 104) 11 97) 12 109) 13 100) 14 114) 15 121) 16 114) 17 111) 18 111) 19 109) 20 116) 21 104) 22 105))) :: []))))))) rfl ?_
  refine gn_dup (pc := 240) C dX7_init_240 rfl ?_
  refine gn_bipush (pc := 241) (v := 23) C dX7_init_241 (by decide) ?_
  refine gn_bipush (pc := 243) (v := 110) C dX7_init_243 (by decide) ?_
  refine gn_iast (pc := 245) C dX7_init_245 6 rfl (vp_in_nI (n := 23) (by decide) (by decide)) ((h, .inr (7, [.ref q1, .ref q2, .int 0, .ref q3, .int 0, .int 0, .int 0, .ref q4, .int 0, .int 0, .int 0, .int 0, .int 0, .int 0, .int 0, .int 0, .ref q5, .null, .int 0, .int 0, .int 0, .null, .int 0, .null, .null, .null, .null, .null, .int 0])) :: ((q1, .inl ((tq_la X).2.2 0, 168, .inl (fun _ => 0))) :: ((q2, .inl ((tq_la X).2.2 0, 4, .inl (upd (upd (upd (upd (fun _ => 0) 0 10) 1 5) 2 4) 3 20))) :: ((q3, .inl ((tq_la X).2.2 0, 28, .inl (fun _ => 0))) :: ((q4, .inl ((tq_la X).2.2 0, 160, .inl (fun _ => 0))) :: ((q5, .inl ((tq_la X).2.2 0, 8, .inl (upd (upd (upd (upd (upd (upd (upd (upd (fun _ => 0) 0 0) 1 5) 2 9) 3 13) 4 16) 5 20) 6 25) 7 29))) :: ((q6, .inl ((tq_la X).2.2 0, 29, .inl (upd (upd (upd (upd (upd (upd (upd (upd (upd (upd (upd (upd (upd (upd (upd (upd (upd (upd (upd (upd (upd (upd (upd (upd (fun _ => 0) 0 112) 1 108) 2 97) 3 105) 4 110) 5 115) 6 111) 7 102) 8 116) 9 115) 10 104) 11 97) 12 109) 13 100) 14 114) 15 121) 16 114) 17 111) 18 111) 19 109) 20 116) 21 104) 22 105) 23 110))) :: []))))))) rfl ?_
  refine gn_dup (pc := 246) C dX7_init_246 rfl ?_
  refine gn_bipush (pc := 247) (v := 24) C dX7_init_247 (by decide) ?_
  refine gn_bipush (pc := 249) (v := 107) C dX7_init_249 (by decide) ?_
  refine gn_iast (pc := 251) C dX7_init_251 6 rfl (vp_in_nI (n := 24) (by decide) (by decide)) ((h, .inr (7, [.ref q1, .ref q2, .int 0, .ref q3, .int 0, .int 0, .int 0, .ref q4, .int 0, .int 0, .int 0, .int 0, .int 0, .int 0, .int 0, .int 0, .ref q5, .null, .int 0, .int 0, .int 0, .null, .int 0, .null, .null, .null, .null, .null, .int 0])) :: ((q1, .inl ((tq_la X).2.2 0, 168, .inl (fun _ => 0))) :: ((q2, .inl ((tq_la X).2.2 0, 4, .inl (upd (upd (upd (upd (fun _ => 0) 0 10) 1 5) 2 4) 3 20))) :: ((q3, .inl ((tq_la X).2.2 0, 28, .inl (fun _ => 0))) :: ((q4, .inl ((tq_la X).2.2 0, 160, .inl (fun _ => 0))) :: ((q5, .inl ((tq_la X).2.2 0, 8, .inl (upd (upd (upd (upd (upd (upd (upd (upd (fun _ => 0) 0 0) 1 5) 2 9) 3 13) 4 16) 5 20) 6 25) 7 29))) :: ((q6, .inl ((tq_la X).2.2 0, 29, .inl (upd (upd (upd (upd (upd (upd (upd (upd (upd (upd (upd (upd (upd (upd (upd (upd (upd (upd (upd (upd (upd (upd (upd (upd (upd (fun _ => 0) 0 112) 1 108) 2 97) 3 105) 4 110) 5 115) 6 111) 7 102) 8 116) 9 115) 10 104) 11 97) 12 109) 13 100) 14 114) 15 121) 16 114) 17 111) 18 111) 19 109) 20 116) 21 104) 22 105) 23 110) 24 107))) :: []))))))) rfl ?_
  refine gn_dup (pc := 252) C dX7_init_252 rfl ?_
  refine gn_bipush (pc := 253) (v := 25) C dX7_init_253 (by decide) ?_
  refine gn_bipush (pc := 255) (v := 112) C dX7_init_255 (by decide) ?_
  refine gn_iast (pc := 257) C dX7_init_257 6 rfl (vp_in_nI (n := 25) (by decide) (by decide)) ((h, .inr (7, [.ref q1, .ref q2, .int 0, .ref q3, .int 0, .int 0, .int 0, .ref q4, .int 0, .int 0, .int 0, .int 0, .int 0, .int 0, .int 0, .int 0, .ref q5, .null, .int 0, .int 0, .int 0, .null, .int 0, .null, .null, .null, .null, .null, .int 0])) :: ((q1, .inl ((tq_la X).2.2 0, 168, .inl (fun _ => 0))) :: ((q2, .inl ((tq_la X).2.2 0, 4, .inl (upd (upd (upd (upd (fun _ => 0) 0 10) 1 5) 2 4) 3 20))) :: ((q3, .inl ((tq_la X).2.2 0, 28, .inl (fun _ => 0))) :: ((q4, .inl ((tq_la X).2.2 0, 160, .inl (fun _ => 0))) :: ((q5, .inl ((tq_la X).2.2 0, 8, .inl (upd (upd (upd (upd (upd (upd (upd (upd (fun _ => 0) 0 0) 1 5) 2 9) 3 13) 4 16) 5 20) 6 25) 7 29))) :: ((q6, .inl ((tq_la X).2.2 0, 29, .inl (upd (upd (upd (upd (upd (upd (upd (upd (upd (upd (upd (upd (upd (upd (upd (upd (upd (upd (upd (upd (upd (upd (upd (upd (upd (upd (fun _ => 0) 0 112) 1 108) 2 97) 3 105) 4 110) 5 115) 6 111) 7 102) 8 116) 9 115) 10 104) 11 97) 12 109) 13 100) 14 114) 15 121) 16 114) 17 111) 18 111) 19 109) 20 116) 21 104) 22 105) 23 110) 24 107) 25 112))) :: []))))))) rfl ?_
  refine gn_dup (pc := 258) C dX7_init_258 rfl ?_
  refine gn_bipush (pc := 259) (v := 26) C dX7_init_259 (by decide) ?_
  refine gn_bipush (pc := 261) (v := 108) C dX7_init_261 (by decide) ?_
  refine gn_iast (pc := 263) C dX7_init_263 6 rfl (vp_in_nI (n := 26) (by decide) (by decide)) ((h, .inr (7, [.ref q1, .ref q2, .int 0, .ref q3, .int 0, .int 0, .int 0, .ref q4, .int 0, .int 0, .int 0, .int 0, .int 0, .int 0, .int 0, .int 0, .ref q5, .null, .int 0, .int 0, .int 0, .null, .int 0, .null, .null, .null, .null, .null, .int 0])) :: ((q1, .inl ((tq_la X).2.2 0, 168, .inl (fun _ => 0))) :: ((q2, .inl ((tq_la X).2.2 0, 4, .inl (upd (upd (upd (upd (fun _ => 0) 0 10) 1 5) 2 4) 3 20))) :: ((q3, .inl ((tq_la X).2.2 0, 28, .inl (fun _ => 0))) :: ((q4, .inl ((tq_la X).2.2 0, 160, .inl (fun _ => 0))) :: ((q5, .inl ((tq_la X).2.2 0, 8, .inl (upd (upd (upd (upd (upd (upd (upd (upd (fun _ => 0) 0 0) 1 5) 2 9) 3 13) 4 16) 5 20) 6 25) 7 29))) :: ((q6, .inl ((tq_la X).2.2 0, 29, .inl (upd (upd (upd (upd (upd (upd (upd (upd (upd (upd (upd (upd (upd (upd (upd (upd (upd (upd (upd (upd (upd (upd (upd (upd (upd (upd (upd (fun _ => 0) 0 112) 1 108) 2 97) 3 105) 4 110) 5 115) 6 111) 7 102) 8 116) 9 115) 10 104) 11 97) 12 109) 13 100) 14 114) 15 121) 16 114) 17 111) 18 111) 19 109) 20 116) 21 104) 22 105) 23 110) 24 107) 25 112) 26 108))) :: []))))))) rfl ?_
  refine gn_dup (pc := 264) C dX7_init_264 rfl ?_
  refine gn_bipush (pc := 265) (v := 27) C dX7_init_265 (by decide) ?_
  refine gn_bipush (pc := 267) (v := 97) C dX7_init_267 (by decide) ?_
  refine gn_iast (pc := 269) C dX7_init_269 6 rfl (vp_in_nI (n := 27) (by decide) (by decide)) ((h, .inr (7, [.ref q1, .ref q2, .int 0, .ref q3, .int 0, .int 0, .int 0, .ref q4, .int 0, .int 0, .int 0, .int 0, .int 0, .int 0, .int 0, .int 0, .ref q5, .null, .int 0, .int 0, .int 0, .null, .int 0, .null, .null, .null, .null, .null, .int 0])) :: ((q1, .inl ((tq_la X).2.2 0, 168, .inl (fun _ => 0))) :: ((q2, .inl ((tq_la X).2.2 0, 4, .inl (upd (upd (upd (upd (fun _ => 0) 0 10) 1 5) 2 4) 3 20))) :: ((q3, .inl ((tq_la X).2.2 0, 28, .inl (fun _ => 0))) :: ((q4, .inl ((tq_la X).2.2 0, 160, .inl (fun _ => 0))) :: ((q5, .inl ((tq_la X).2.2 0, 8, .inl (upd (upd (upd (upd (upd (upd (upd (upd (fun _ => 0) 0 0) 1 5) 2 9) 3 13) 4 16) 5 20) 6 25) 7 29))) :: ((q6, .inl ((tq_la X).2.2 0, 29, .inl (upd (upd (upd (upd (upd (upd (upd (upd (upd (upd (upd (upd (upd (upd (upd (upd (upd (upd (upd (upd (upd (upd (upd (upd (upd (upd (upd (upd (fun _ => 0) 0 112) 1 108) 2 97) 3 105) 4 110) 5 115) 6 111) 7 102) 8 116) 9 115) 10 104) 11 97) 12 109) 13 100) 14 114) 15 121) 16 114) 17 111) 18 111) 19 109) 20 116) 21 104) 22 105) 23 110) 24 107) 25 112) 26 108) 27 97))) :: []))))))) rfl ?_
  refine gn_dup (pc := 270) C dX7_init_270 rfl ?_
  refine gn_bipush (pc := 271) (v := 28) C dX7_init_271 (by decide) ?_
  refine gn_bipush (pc := 273) (v := 110) C dX7_init_273 (by decide) ?_
  refine gn_iast (pc := 275) C dX7_init_275 6 rfl (vp_in_nI (n := 28) (by decide) (by decide)) ((h, .inr (7, [.ref q1, .ref q2, .int 0, .ref q3, .int 0, .int 0, .int 0, .ref q4, .int 0, .int 0, .int 0, .int 0, .int 0, .int 0, .int 0, .int 0, .ref q5, .null, .int 0, .int 0, .int 0, .null, .int 0, .null, .null, .null, .null, .null, .int 0])) :: ((q1, .inl ((tq_la X).2.2 0, 168, .inl (fun _ => 0))) :: ((q2, .inl ((tq_la X).2.2 0, 4, .inl (upd (upd (upd (upd (fun _ => 0) 0 10) 1 5) 2 4) 3 20))) :: ((q3, .inl ((tq_la X).2.2 0, 28, .inl (fun _ => 0))) :: ((q4, .inl ((tq_la X).2.2 0, 160, .inl (fun _ => 0))) :: ((q5, .inl ((tq_la X).2.2 0, 8, .inl (upd (upd (upd (upd (upd (upd (upd (upd (fun _ => 0) 0 0) 1 5) 2 9) 3 13) 4 16) 5 20) 6 25) 7 29))) :: ((q6, .inl ((tq_la X).2.2 0, 29, .inl (upd (upd (upd (upd (upd (upd (upd (upd (upd (upd (upd (upd (upd (upd (upd (upd (upd (upd (upd (upd (upd (upd (upd (upd (upd (upd (upd (upd (upd (fun _ => 0) 0 112) 1 108) 2 97) 3 105) 4 110) 5 115) 6 111) 7 102) 8 116) 9 115) 10 104) 11 97) 12 109) 13 100) 14 114) 15 121) 16 114) 17 111) 18 111) 19 109) 20 116) 21 104) 22 105) 23 110) 24 107) 25 112) 26 108) 27 97) 28 110))) :: []))))))) rfl ?_
  refine gn_putF (pc := 276) C dX7_init_276 rfl itX7 tyX7 tyX7_ok nmX7 17 (by decide) (tq_mem (by decide +kernel) rfl) rfl rfl (ty := tyX7 17) (by decide +kernel) rfl rfl (Nat.le_of_ble_eq_true rfl) [.ref q1, .ref q2, .int 0, .ref q3, .int 0, .int 0, .int 0, .ref q4, .int 0, .int 0, .int 0, .int 0, .int 0, .int 0, .int 0, .int 0, .ref q5, .ref q6, .int 0, .int 0, .int 0, .null, .int 0, .null, .null, .null, .null, .null, .int 0] rfl ?_
  refine gn_aload_n (pc := 279) C dX7_init_279 0 rfl rfl ?_
  refine gn_bipush (pc := 280) (v := 12) C dX7_init_280 (by decide) ?_
  refine gn_newa (pc := 282) C dX7_init_282 rfl (tq_mem (by decide +kernel) rfl) 0 rfl 12 (12, .inl (fun _ => 0)) (fun cA => rfl) (by decide) (by decide) (by decide) (by rw [hQ]; decide) (by rw [hQ]; decide) (fun q7 => ?_)
  refine gn_putF (pc := 284) C dX7_init_284 rfl itX7 tyX7 tyX7_ok nmX7 21 (by decide) (tq_mem (by decide +kernel) rfl) rfl rfl (ty := tyX7 21) (by decide +kernel) rfl rfl (Nat.le_of_ble_eq_true rfl) [.ref q1, .ref q2, .int 0, .ref q3, .int 0, .int 0, .int 0, .ref q4, .int 0, .int 0, .int 0, .int 0, .int 0, .int 0, .int 0, .int 0, .ref q5, .ref q6, .int 0, .int 0, .int 0, .ref q7, .int 0, .null, .null, .null, .null, .null, .int 0] rfl ?_
  refine gn_aload_n (pc := 287) C dX7_init_287 0 rfl rfl ?_
  refine gn_bipush (pc := 288) (v := 21) C dX7_init_288 (by decide) ?_
  refine gn_newa (pc := 290) C dX7_init_290 rfl (tq_mem (by decide +kernel) rfl) 0 rfl 21 (21, .inl (fun _ => 0)) (fun cA => rfl) (by decide) (by decide) (by decide) (by rw [hQ]; decide) (by rw [hQ]; decide) (fun q8 => ?_)
  refine gn_putF (pc := 292) C dX7_init_292 rfl itX7 tyX7 tyX7_ok nmX7 23 (by decide) (tq_mem (by decide +kernel) rfl) rfl rfl (ty := tyX7 23) (by decide +kernel) rfl rfl (Nat.le_of_ble_eq_true rfl) [.ref q1, .ref q2, .int 0, .ref q3, .int 0, .int 0, .int 0, .ref q4, .int 0, .int 0, .int 0, .int 0, .int 0, .int 0, .int 0, .int 0, .ref q5, .ref q6, .int 0, .int 0, .int 0, .ref q7, .int 0, .ref q8, .null, .null, .null, .null, .int 0] rfl ?_
  refine gn_aload_n (pc := 295) C dX7_init_295 0 rfl rfl ?_
  refine gn_iconst (pc := 296) (v := 2) C dX7_init_296 (by decide) ?_
  refine gn_newa (pc := 297) C dX7_init_297 rfl (tq_mem (by decide +kernel) rfl) 2 rfl 2 (2, .inl (fun _ => 0)) (fun cA => rfl) (by decide) (by decide) (by decide) (by rw [hQ]; decide) (by rw [hQ]; decide) (fun q9 => ?_)
  refine gn_putF (pc := 299) C dX7_init_299 rfl itX7 tyX7 tyX7_ok nmX7 24 (by decide) (tq_mem (by decide +kernel) rfl) rfl rfl (ty := tyX7 24) (by decide +kernel) rfl rfl (Nat.le_of_ble_eq_true rfl) [.ref q1, .ref q2, .int 0, .ref q3, .int 0, .int 0, .int 0, .ref q4, .int 0, .int 0, .int 0, .int 0, .int 0, .int 0, .int 0, .int 0, .ref q5, .ref q6, .int 0, .int 0, .int 0, .ref q7, .int 0, .ref q8, .ref q9, .null, .null, .null, .int 0] rfl ?_
  refine gn_aload_n (pc := 302) C dX7_init_302 0 rfl rfl ?_
  refine gn_iconst (pc := 303) (v := 4) C dX7_init_303 (by decide) ?_
  refine gn_newa (pc := 304) C dX7_init_304 rfl (tq_mem (by decide +kernel) rfl) 0 rfl 4 (4, .inl (fun _ => 0)) (fun cA => rfl) (by decide) (by decide) (by decide) (by rw [hQ]; decide) (by rw [hQ]; decide) (fun q10 => ?_)
  refine gn_dup (pc := 306) C dX7_init_306 rfl ?_
  refine gn_iconst (pc := 307) (v := 0) C dX7_init_307 (by decide) ?_
  refine gn_bipush (pc := 308) (v := (-4)) C dX7_init_308 (by decide) ?_
  refine gn_iast (pc := 310) C dX7_init_310 10 rfl (vp_in_nI (n := 0) (by decide) (by decide)) ((h, .inr (7, [.ref q1, .ref q2, .int 0, .ref q3, .int 0, .int 0, .int 0, .ref q4, .int 0, .int 0, .int 0, .int 0, .int 0, .int 0, .int 0, .int 0, .ref q5, .ref q6, .int 0, .int 0, .int 0, .ref q7, .int 0, .ref q8, .ref q9, .null, .null, .null, .int 0])) :: ((q1, .inl ((tq_la X).2.2 0, 168, .inl (fun _ => 0))) :: ((q2, .inl ((tq_la X).2.2 0, 4, .inl (upd (upd (upd (upd (fun _ => 0) 0 10) 1 5) 2 4) 3 20))) :: ((q3, .inl ((tq_la X).2.2 0, 28, .inl (fun _ => 0))) :: ((q4, .inl ((tq_la X).2.2 0, 160, .inl (fun _ => 0))) :: ((q5, .inl ((tq_la X).2.2 0, 8, .inl (upd (upd (upd (upd (upd (upd (upd (upd (fun _ => 0) 0 0) 1 5) 2 9) 3 13) 4 16) 5 20) 6 25) 7 29))) :: ((q6, .inl ((tq_la X).2.2 0, 29, .inl (upd (upd (upd (upd (upd (upd (upd (upd (upd (upd (upd (upd (upd (upd (upd (upd (upd (upd (upd (upd (upd (upd (upd (upd (upd (upd (upd (upd (upd (fun _ => 0) 0 112) 1 108) 2 97) 3 105) 4 110) 5 115) 6 111) 7 102) 8 116) 9 115) 10 104) 11 97) 12 109) 13 100) 14 114) 15 121) 16 114) 17 111) 18 111) 19 109) 20 116) 21 104) 22 105) 23 110) 24 107) 25 112) 26 108) 27 97) 28 110))) :: ((q7, .inl ((tq_la X).2.2 0, 12, .inl (fun _ => 0))) :: ((q8, .inl ((tq_la X).2.2 0, 21, .inl (fun _ => 0))) :: ((q9, .inl ((tq_la X).2.2 2, 2, .inl (fun _ => 0))) :: ((q10, .inl ((tq_la X).2.2 0, 4, .inl (upd (fun _ => 0) 0 (-4)))) :: []))))))))))) rfl ?_
  refine gn_dup (pc := 311) C dX7_init_311 rfl ?_
  refine gn_iconst (pc := 312) (v := 1) C dX7_init_312 (by decide) ?_
  refine gn_bipush (pc := 313) (v := (-4)) C dX7_init_313 (by decide) ?_
  refine gn_iast (pc := 315) C dX7_init_315 10 rfl (vp_in_nI (n := 1) (by decide) (by decide)) ((h, .inr (7, [.ref q1, .ref q2, .int 0, .ref q3, .int 0, .int 0, .int 0, .ref q4, .int 0, .int 0, .int 0, .int 0, .int 0, .int 0, .int 0, .int 0, .ref q5, .ref q6, .int 0, .int 0, .int 0, .ref q7, .int 0, .ref q8, .ref q9, .null, .null, .null, .int 0])) :: ((q1, .inl ((tq_la X).2.2 0, 168, .inl (fun _ => 0))) :: ((q2, .inl ((tq_la X).2.2 0, 4, .inl (upd (upd (upd (upd (fun _ => 0) 0 10) 1 5) 2 4) 3 20))) :: ((q3, .inl ((tq_la X).2.2 0, 28, .inl (fun _ => 0))) :: ((q4, .inl ((tq_la X).2.2 0, 160, .inl (fun _ => 0))) :: ((q5, .inl ((tq_la X).2.2 0, 8, .inl (upd (upd (upd (upd (upd (upd (upd (upd (fun _ => 0) 0 0) 1 5) 2 9) 3 13) 4 16) 5 20) 6 25) 7 29))) :: ((q6, .inl ((tq_la X).2.2 0, 29, .inl (upd (upd (upd (upd (upd (upd (upd (upd (upd (upd (upd (upd (upd (upd (upd (upd (upd (upd (upd (upd (upd (upd (upd (upd (upd (upd (upd (upd (upd (fun _ => 0) 0 112) 1 108) 2 97) 3 105) 4 110) 5 115) 6 111) 7 102) 8 116) 9 115) 10 104) 11 97) 12 109) 13 100) 14 114) 15 121) 16 114) 17 111) 18 111) 19 109) 20 116) 21 104) 22 105) 23 110) 24 107) 25 112) 26 108) 27 97) 28 110))) :: ((q7, .inl ((tq_la X).2.2 0, 12, .inl (fun _ => 0))) :: ((q8, .inl ((tq_la X).2.2 0, 21, .inl (fun _ => 0))) :: ((q9, .inl ((tq_la X).2.2 2, 2, .inl (fun _ => 0))) :: ((q10, .inl ((tq_la X).2.2 0, 4, .inl (upd (upd (fun _ => 0) 0 (-4)) 1 (-4)))) :: []))))))))))) rfl ?_
  refine gn_dup (pc := 316) C dX7_init_316 rfl ?_
  refine gn_iconst (pc := 317) (v := 2) C dX7_init_317 (by decide) ?_
  refine gn_bipush (pc := 318) (v := (-4)) C dX7_init_318 (by decide) ?_
  refine gn_iast (pc := 320) C dX7_init_320 10 rfl (vp_in_nI (n := 2) (by decide) (by decide)) ((h, .inr (7, [.ref q1, .ref q2, .int 0, .ref q3, .int 0, .int 0, .int 0, .ref q4, .int 0, .int 0, .int 0, .int 0, .int 0, .int 0, .int 0, .int 0, .ref q5, .ref q6, .int 0, .int 0, .int 0, .ref q7, .int 0, .ref q8, .ref q9, .null, .null, .null, .int 0])) :: ((q1, .inl ((tq_la X).2.2 0, 168, .inl (fun _ => 0))) :: ((q2, .inl ((tq_la X).2.2 0, 4, .inl (upd (upd (upd (upd (fun _ => 0) 0 10) 1 5) 2 4) 3 20))) :: ((q3, .inl ((tq_la X).2.2 0, 28, .inl (fun _ => 0))) :: ((q4, .inl ((tq_la X).2.2 0, 160, .inl (fun _ => 0))) :: ((q5, .inl ((tq_la X).2.2 0, 8, .inl (upd (upd (upd (upd (upd (upd (upd (upd (fun _ => 0) 0 0) 1 5) 2 9) 3 13) 4 16) 5 20) 6 25) 7 29))) :: ((q6, .inl ((tq_la X).2.2 0, 29, .inl (upd (upd (upd (upd (upd (upd (upd (upd (upd (upd (upd (upd (upd (upd (upd (upd (upd (upd (upd (upd (upd (upd (upd (upd (upd (upd (upd (upd (upd (fun _ => 0) 0 112) 1 108) 2 97) 3 105) 4 110) 5 115) 6 111) 7 102) 8 116) 9 115) 10 104) 11 97) 12 109) 13 100) 14 114) 15 121) 16 114) 17 111) 18 111) 19 109) 20 116) 21 104) 22 105) 23 110) 24 107) 25 112) 26 108) 27 97) 28 110))) :: ((q7, .inl ((tq_la X).2.2 0, 12, .inl (fun _ => 0))) :: ((q8, .inl ((tq_la X).2.2 0, 21, .inl (fun _ => 0))) :: ((q9, .inl ((tq_la X).2.2 2, 2, .inl (fun _ => 0))) :: ((q10, .inl ((tq_la X).2.2 0, 4, .inl (upd (upd (upd (fun _ => 0) 0 (-4)) 1 (-4)) 2 (-4)))) :: []))))))))))) rfl ?_
  refine gn_dup (pc := 321) C dX7_init_321 rfl ?_
  refine gn_iconst (pc := 322) (v := 3) C dX7_init_322 (by decide) ?_
  refine gn_bipush (pc := 323) (v := (-4)) C dX7_init_323 (by decide) ?_
  refine gn_iast (pc := 325) C dX7_init_325 10 rfl (vp_in_nI (n := 3) (by decide) (by decide)) ((h, .inr (7, [.ref q1, .ref q2, .int 0, .ref q3, .int 0, .int 0, .int 0, .ref q4, .int 0, .int 0, .int 0, .int 0, .int 0, .int 0, .int 0, .int 0, .ref q5, .ref q6, .int 0, .int 0, .int 0, .ref q7, .int 0, .ref q8, .ref q9, .null, .null, .null, .int 0])) :: ((q1, .inl ((tq_la X).2.2 0, 168, .inl (fun _ => 0))) :: ((q2, .inl ((tq_la X).2.2 0, 4, .inl (upd (upd (upd (upd (fun _ => 0) 0 10) 1 5) 2 4) 3 20))) :: ((q3, .inl ((tq_la X).2.2 0, 28, .inl (fun _ => 0))) :: ((q4, .inl ((tq_la X).2.2 0, 160, .inl (fun _ => 0))) :: ((q5, .inl ((tq_la X).2.2 0, 8, .inl (upd (upd (upd (upd (upd (upd (upd (upd (fun _ => 0) 0 0) 1 5) 2 9) 3 13) 4 16) 5 20) 6 25) 7 29))) :: ((q6, .inl ((tq_la X).2.2 0, 29, .inl (upd (upd (upd (upd (upd (upd (upd (upd (upd (upd (upd (upd (upd (upd (upd (upd (upd (upd (upd (upd (upd (upd (upd (upd (upd (upd (upd (upd (upd (fun _ => 0) 0 112) 1 108) 2 97) 3 105) 4 110) 5 115) 6 111) 7 102) 8 116) 9 115) 10 104) 11 97) 12 109) 13 100) 14 114) 15 121) 16 114) 17 111) 18 111) 19 109) 20 116) 21 104) 22 105) 23 110) 24 107) 25 112) 26 108) 27 97) 28 110))) :: ((q7, .inl ((tq_la X).2.2 0, 12, .inl (fun _ => 0))) :: ((q8, .inl ((tq_la X).2.2 0, 21, .inl (fun _ => 0))) :: ((q9, .inl ((tq_la X).2.2 2, 2, .inl (fun _ => 0))) :: ((q10, .inl ((tq_la X).2.2 0, 4, .inl (upd (upd (upd (upd (fun _ => 0) 0 (-4)) 1 (-4)) 2 (-4)) 3 (-4)))) :: []))))))))))) rfl ?_
  refine gn_putF (pc := 326) C dX7_init_326 rfl itX7 tyX7 tyX7_ok nmX7 25 (by decide) (tq_mem (by decide +kernel) rfl) rfl rfl (ty := tyX7 25) (by decide +kernel) rfl rfl (Nat.le_of_ble_eq_true rfl) [.ref q1, .ref q2, .int 0, .ref q3, .int 0, .int 0, .int 0, .ref q4, .int 0, .int 0, .int 0, .int 0, .int 0, .int 0, .int 0, .int 0, .ref q5, .ref q6, .int 0, .int 0, .int 0, .ref q7, .int 0, .ref q8, .ref q9, .ref q10, .null, .null, .int 0] rfl ?_
  refine gn_aload_n (pc := 329) C dX7_init_329 0 rfl rfl ?_
  refine gn_iconst (pc := 330) (v := 4) C dX7_init_330 (by decide) ?_
  refine gn_newa (pc := 331) C dX7_init_331 rfl (tq_mem (by decide +kernel) rfl) 0 rfl 4 (4, .inl (fun _ => 0)) (fun cA => rfl) (by decide) (by decide) (by decide) (by rw [hQ]; decide) (by rw [hQ]; decide) (fun q11 => ?_)
  refine gn_putF (pc := 333) C dX7_init_333 rfl itX7 tyX7 tyX7_ok nmX7 26 (by decide) (tq_mem (by decide +kernel) rfl) rfl rfl (ty := tyX7 26) (by decide +kernel) rfl rfl (Nat.le_of_ble_eq_true rfl) [.ref q1, .ref q2, .int 0, .ref q3, .int 0, .int 0, .int 0, .ref q4, .int 0, .int 0, .int 0, .int 0, .int 0, .int 0, .int 0, .int 0, .ref q5, .ref q6, .int 0, .int 0, .int 0, .ref q7, .int 0, .ref q8, .ref q9, .ref q10, .ref q11, .null, .int 0] rfl ?_
  refine gn_aload_n (pc := 336) C dX7_init_336 0 rfl rfl ?_
  refine gn_sipush (pc := 337) (v := 160) C dX7_init_337 (by decide) ?_
  refine gn_newa (pc := 340) C dX7_init_340 rfl (tq_mem (by decide +kernel) rfl) 0 rfl 160 (160, .inl (fun _ => 0)) (fun cA => rfl) (by decide) (by decide) (by decide) (by rw [hQ]; decide) (by rw [hQ]; decide) (fun q12 => ?_)
  refine gn_putF (pc := 342) C dX7_init_342 rfl itX7 tyX7 tyX7_ok nmX7 27 (by decide) (tq_mem (by decide +kernel) rfl) rfl rfl (ty := tyX7 27) (by decide +kernel) rfl rfl (Nat.le_of_ble_eq_true rfl) [.ref q1, .ref q2, .int 0, .ref q3, .int 0, .int 0, .int 0, .ref q4, .int 0, .int 0, .int 0, .int 0, .int 0, .int 0, .int 0, .int 0, .ref q5, .ref q6, .int 0, .int 0, .int 0, .ref q7, .int 0, .ref q8, .ref q9, .ref q10, .ref q11, .ref q12, .int 0] rfl ?_
  exact hR (fun i => if i = 0 then q1 else if i = 1 then q2 else if i = 2 then q3 else if i = 3 then q4 else if i = 4 then q5 else if i = 5 then q6 else if i = 6 then q7 else if i = 7 then q8 else if i = 8 then q9 else if i = 9 then q10 else if i = 10 then q11 else if i = 11 then q12 else 0) _ _ dX7_init_345
