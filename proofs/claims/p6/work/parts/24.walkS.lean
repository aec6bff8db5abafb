set_option maxRecDepth 100000 in
set_option maxHeartbeats 4000000 in
theorem wk_X4_agreeWith_29 {X : tq_Cx} {K : Int32 → tq_St → Prop} (C : tq_C X cX4_agreeWith 4 RX4 1) (hR : tq_Rz X cX4_agreeWith 4 K) {rec2 : Int32 → Int32 → tq_St → Prop} (hrec2 : ∀ (v1 : Int32) (v2 : Int32) (S : tq_St), rec2 v1 v2 S → Go X 4 S 2 [(0, .ref ((tq_la X).1 20 0)), (1, .int v1), (2, .int v2)] []) : ∀ (v1 : Int32) (v2 : Int32) (w0 : Int32) (S : tq_St), wp_X4_agreeWith_29 K rec2 v1 v2 w0 S → Go X 4 S 29 [(0, .ref ((tq_la X).1 20 0)), (1, .int v1), (2, .int v2)] [.int w0] := by
  intro v1 v2 w0 S hf
  refine go_istore_n (pc := 29) C dX4_agreeWith_29 [(3, .int w0), (0, .ref ((tq_la X).1 20 0)), (1, .int v1), (2, .int v2)] rfl (by decide) rfl ?_
  refine go_iload_n (pc := 30) C dX4_agreeWith_30 0 rfl rfl ?_
  refine go_aload_n (pc := 31) C dX4_agreeWith_31 1 rfl rfl ?_
  refine ge_X4_X4_1 (pc := 32) C dX4_agreeWith_32 ?_
  refine go_iload_n (pc := 35) C dX4_agreeWith_35 3 rfl rfl ?_
  refine al_X4_1 (pc := 36) C hf.1 dX4_agreeWith_36 ?_
  have hf := hf.2
  refine go_ic_eq (pc := 37) C dX4_agreeWith_37 42 (by decide) (fun c3 => ?_) (fun c3 => ?_)
  · have hf := hf.1 c3
    obtain ⟨x4, e5⟩ : ∃ q9 : Int32, q9 = v2 + 1 := ⟨_, rfl⟩
    refine go_iinc (pc := 42) (j := 3) (v := x4) C dX4_agreeWith_42 [(2, .int x4), (3, .int w0), (0, .ref ((tq_la X).1 20 0)), (1, .int v1)] rfl (by rw [e5]; rfl) (by decide) rfl ?_
    have hf := hf x4 e5
    refine go_goto (pc := 45) C dX4_agreeWith_45 2 (by decide) ?_
    exact go_sub [2, 3, 0] rfl (hrec2 _ _ _ hf)
  · have hf := hf.2 c3
    refine go_iconst (pc := 40) (v := 0) C dX4_agreeWith_40 (by decide) ?_
    exact hR _ _ _ _ dX4_agreeWith_41 (Or.inl rfl) hf
set_option maxRecDepth 100000 in
set_option maxHeartbeats 4000000 in
theorem wk_X4_agreeWith_2 {X : tq_Cx} {K : Int32 → tq_St → Prop} (C : tq_C X cX4_agreeWith 4 RX4 1) (hR : tq_Rz X cX4_agreeWith 4 K) : ∀ (n : Nat) (v1 : Int32) (v2 : Int32) (S : tq_St), wp_X4_agreeWith_2 K n v1 v2 S → Go X 4 S 2 [(0, .ref ((tq_la X).1 20 0)), (1, .int v1), (2, .int v2)] [] := by
  intro n
  induction n with
  | zero => intros; contradiction
  | succ n ih =>
    intro v1 v2 S hf
    refine go_iload_n (pc := 2) C dX4_agreeWith_2 2 rfl rfl ?_
    refine go_aload_n (pc := 3) C dX4_agreeWith_3 0 rfl rfl ?_
    refine ge_X4_X4_2 (pc := 4) C dX4_agreeWith_4 ?_
    refine go_ic_ge (pc := 7) C dX4_agreeWith_7 48 (by decide) (fun c1 => ?_) (fun c1 => ?_)
    · have hf := hf.1 c1
      refine go_iconst (pc := 48) (v := 1) C dX4_agreeWith_48 (by decide) ?_
      exact hR _ _ _ _ dX4_agreeWith_49 (Or.inr rfl) hf
    · have hf := hf.2 c1
      refine go_iload_n (pc := 10) C dX4_agreeWith_10 1 rfl rfl ?_
      refine go_aload_n (pc := 11) C dX4_agreeWith_11 0 rfl rfl ?_
      refine ge_X4_X4_0 (pc := 12) C dX4_agreeWith_12 ?_
      refine go_iload_n (pc := 15) C dX4_agreeWith_15 2 rfl rfl ?_
      refine al_X4_0 (pc := 16) C hf.1 dX4_agreeWith_16 ?_
      have hf := hf.2
      refine go_ishr (pc := 17) C dX4_agreeWith_17 ?_
      refine go_iconst (pc := 18) (v := 1) C dX4_agreeWith_18 (by decide) ?_
      refine go_iand (pc := 19) C dX4_agreeWith_19 ?_
      refine go_iconst (pc := 20) (v := 1) C dX4_agreeWith_20 (by decide) ?_
      refine go_ic_ne (pc := 21) C dX4_agreeWith_21 28 (by decide) (fun c2 => ?_) (fun c2 => ?_)
      · have hf := hf.1 c2
        refine go_iconst (pc := 28) (v := 0) C dX4_agreeWith_28 (by decide) ?_
        exact go_sub [0, 1, 2] rfl (wk_X4_agreeWith_29 C hR ih _ _ _ _ hf)
      · have hf := hf.2 c2
        refine go_iconst (pc := 24) (v := 1) C dX4_agreeWith_24 (by decide) ?_
        refine go_goto (pc := 25) C dX4_agreeWith_25 29 (by decide) ?_
        exact go_sub [0, 1, 2] rfl (wk_X4_agreeWith_29 C hR ih _ _ _ _ hf)
set_option maxRecDepth 100000 in
set_option maxHeartbeats 4000000 in
theorem wk_X4_agreeWith {X : tq_Cx} {p1 : Int32} {S : tq_St} {K : Int32 → tq_St → Prop} (C : tq_C X cX4_agreeWith 4 RX4 1) (hR : tq_Rz X cX4_agreeWith 4 K) (hf : wp_X4_agreeWith p1 S K) : Go X 4 S 0 [(0, .ref ((tq_la X).1 20 0)), (1, .int p1)] [] := by
  refine go_iconst (pc := 0) (v := 0) C dX4_agreeWith_0 (by decide) ?_
  refine go_istore_n (pc := 1) C dX4_agreeWith_1 [(2, .int 0), (0, .ref ((tq_la X).1 20 0)), (1, .int p1)] rfl (by decide) rfl ?_
  exact go_sub [1, 2, 0] rfl (wk_X4_agreeWith_2 C hR 2000 _ _ _ hf)
set_option maxRecDepth 100000 in
set_option maxHeartbeats 4000000 in
theorem ok_X4_agreeWith {p1 : Int32} {S : tq_St} {K : Int32 → tq_St → Prop} (hf : wp_X4_agreeWith p1 S K) : tq_Mi yX4_agreeWith cX4_agreeWith 4 (some .boolean) 1 (fun a z => [.ref (a.1 20 0), .int p1]) S K :=
  tq_mkZ (by decide) (fun _ _ => Nat.le_of_ble_eq_true rfl) (fun X C hR => wk_X4_agreeWith C hR  hf)
set_option maxRecDepth 100000 in
set_option maxHeartbeats 4000000 in
theorem wk_X3_faultAt {X : tq_Cx} {o : Nat} {p1 : Int32} {p2 : Int32} {S : tq_St} {K : Int32 → tq_St → Prop} (C : tq_C X cX3_faultAt 3 RX3 1) (hR : tq_Ri X cX3_faultAt 3 K) (ho : 23 ≤ o ∧ o < 27) (hf : wp_X3_faultAt o p1 p2 S K) : Go X 3 S 0 [(0, .ref ((tq_la X).1 o 0)), (1, .int p1), (2, .int p2)] [] := by
  refine go_aload_n (pc := 0) C dX3_faultAt_0 0 rfl rfl ?_
  refine ge_X3_X3_1 (pc := 1) C ho dX3_faultAt_1 ?_
  refine go_if_ne (pc := 4) C dX3_faultAt_4 9 (by decide) (fun c1 => ?_) (fun c1 => ?_)
  · have hf := hf.1 c1
    refine go_aload_n (pc := 9) C dX3_faultAt_9 0 rfl rfl ?_
    refine ge_X3_X3_2 (pc := 10) C ho dX3_faultAt_10 ?_
    refine go_iload_n (pc := 13) C dX3_faultAt_13 1 rfl rfl ?_
    refine go_ic_eq (pc := 14) C dX3_faultAt_14 19 (by decide) (fun c2 => ?_) (fun c2 => ?_)
    · have hf := hf.1 c2
      refine go_iload_n (pc := 19) C dX3_faultAt_19 2 rfl rfl ?_
      refine go_if_lt (pc := 20) C dX3_faultAt_20 31 (by decide) (fun c3 => ?_) (fun c3 => ?_)
      · have hf := hf.1 c3
        refine go_iconst (pc := 31) (v := 2) C dX3_faultAt_31 (by decide) ?_
        refine go_goto (pc := 32) C dX3_faultAt_32 36 (by decide) ?_
        exact hR _ _ _ _ dX3_faultAt_36 hf
      · have hf := hf.2 c3
        refine go_iload_n (pc := 23) C dX3_faultAt_23 2 rfl rfl ?_
        refine go_aload_n (pc := 24) C dX3_faultAt_24 0 rfl rfl ?_
        refine ge_X3_X3_3 (pc := 25) C ho dX3_faultAt_25 ?_
        refine go_ic_lt (pc := 28) C dX3_faultAt_28 35 (by decide) (fun c4 => ?_) (fun c4 => ?_)
        · have hf := hf.1 c4
          refine go_iconst (pc := 35) (v := 0) C dX3_faultAt_35 (by decide) ?_
          exact hR _ _ _ _ dX3_faultAt_36 hf
        · have hf := hf.2 c4
          refine go_iconst (pc := 31) (v := 2) C dX3_faultAt_31 (by decide) ?_
          refine go_goto (pc := 32) C dX3_faultAt_32 36 (by decide) ?_
          exact hR _ _ _ _ dX3_faultAt_36 hf
    · have hf := hf.2 c2
      refine go_iconst (pc := 17) (v := 3) C dX3_faultAt_17 (by decide) ?_
      exact hR _ _ _ _ dX3_faultAt_18 hf
  · have hf := hf.2 c1
    refine go_iconst (pc := 7) (v := 1) C dX3_faultAt_7 (by decide) ?_
    exact hR _ _ _ _ dX3_faultAt_8 hf
set_option maxRecDepth 100000 in
set_option maxHeartbeats 4000000 in
theorem ok_X3_faultAt {o : Nat} {p1 : Int32} {p2 : Int32} {S : tq_St} {K : Int32 → tq_St → Prop} (ho : 23 ≤ o ∧ o < 27) (hf : wp_X3_faultAt o p1 p2 S K) : tq_Mi yX3_faultAt cX3_faultAt 3 (some .int) 1 (fun a z => [.ref (a.1 o 0), .int p1, .int p2]) S K :=
  tq_mkI (by decide) (fun _ _ => Nat.le_of_ble_eq_true rfl) (fun X C hR => wk_X3_faultAt C hR ho hf)
set_option maxRecDepth 100000 in
set_option maxHeartbeats 4000000 in
theorem wk_X3_put {X : tq_Cx} {o : Nat} {p1 : Int32} {p2 : Int32} {S : tq_St} {K : tq_St → Prop} (C : tq_C X cX3_put 3 RX3 1) (hR : tq_Rv X cX3_put 3 K) (ho : 23 ≤ o ∧ o < 27) (hf : wp_X3_put o p1 p2 S K) : Go X 3 S 0 [(0, .ref ((tq_la X).1 o 0)), (1, .int p1), (2, .int p2)] [] := by
  refine go_aload_n (pc := 0) C dX3_put_0 0 rfl rfl ?_
  refine ge_X3_X3_2 (pc := 1) C ho dX3_put_1 ?_
  refine go_if_ne (pc := 4) C dX3_put_4 18 (by decide) (fun c1 => ?_) (fun c1 => ?_)
  · have hf := hf.1 c1
    refine go_aload_n (pc := 18) C dX3_put_18 0 rfl rfl ?_
    refine ge_X3_X3_2 (pc := 19) C ho dX3_put_19 ?_
    refine go_iconst (pc := 22) (v := 1) C dX3_put_22 (by decide) ?_
    refine go_ic_ne (pc := 23) C dX3_put_23 37 (by decide) (fun c2 => ?_) (fun c2 => ?_)
    · have hf := hf.1 c2
      refine go_aload_n (pc := 37) C dX3_put_37 0 rfl rfl ?_
      refine ge_X3_X3_0 (pc := 38) C ho dX3_put_38 ?_
      refine go_iload_n (pc := 41) C dX3_put_41 1 rfl rfl ?_
      refine go_iload_n (pc := 42) C dX3_put_42 2 rfl rfl ?_
      refine as_X3_0 (pc := 43) C ho hf.1 dX3_put_43 (fun S3 e4 => ?_)
      have hf := hf.2 S3 e4
      exact hR _ _ _ dX3_put_44 hf
    · have hf := hf.2 c2
      refine go_aload_n (pc := 26) C dX3_put_26 0 rfl rfl ?_
      refine ge_X3_X3_0 (pc := 27) C ho dX3_put_27 ?_
      refine go_iload_n (pc := 30) C dX3_put_30 1 rfl rfl ?_
      refine go_iload_n (pc := 31) C dX3_put_31 2 rfl rfl ?_
      refine go_i2s (pc := 32) C dX3_put_32 ?_
      refine as_X3_0 (pc := 33) C ho hf.1 dX3_put_33 (fun S5 e6 => ?_)
      have hf := hf.2 S5 e6
      refine go_goto (pc := 34) C dX3_put_34 44 (by decide) ?_
      exact hR _ _ _ dX3_put_44 hf
  · have hf := hf.2 c1
    refine go_aload_n (pc := 7) C dX3_put_7 0 rfl rfl ?_
    refine ge_X3_X3_0 (pc := 8) C ho dX3_put_8 ?_
    refine go_iload_n (pc := 11) C dX3_put_11 1 rfl rfl ?_
    refine go_iload_n (pc := 12) C dX3_put_12 2 rfl rfl ?_
    refine go_i2b (pc := 13) C dX3_put_13 ?_
    refine as_X3_0 (pc := 14) C ho hf.1 dX3_put_14 (fun S7 e8 => ?_)
    have hf := hf.2 S7 e8
    refine go_goto (pc := 15) C dX3_put_15 44 (by decide) ?_
    exact hR _ _ _ dX3_put_44 hf
set_option maxRecDepth 100000 in
set_option maxHeartbeats 4000000 in
theorem ok_X3_put {o : Nat} {p1 : Int32} {p2 : Int32} {S : tq_St} {K : tq_St → Prop} (ho : 23 ≤ o ∧ o < 27) (hf : wp_X3_put o p1 p2 S K) : tq_Mv yX3_put cX3_put 3 none 1 (fun a z => [.ref (a.1 o 0), .int p1, .int p2]) S K :=
  tq_mkV (by decide) (fun _ _ => Nat.le_of_ble_eq_true rfl) (fun X C hR => wk_X3_put C hR ho hf)
set_option maxRecDepth 100000 in
set_option maxHeartbeats 4000000 in
theorem wk_X4_add {X : tq_Cx} {p1 : Int32} {p2 : Int32} {S : tq_St} {K : Int32 → tq_St → Prop} (C : tq_C X cX4_add 3 RX4 1) (hR : tq_Rz X cX4_add 3 K) (hf : wp_X4_add p1 p2 S K) : Go X 3 S 0 [(0, .ref ((tq_la X).1 20 0)), (1, .int p1), (2, .int p2)] [] := by
  refine go_aload_n (pc := 0) C dX4_add_0 0 rfl rfl ?_
  refine ge_X4_X4_2 (pc := 1) C dX4_add_1 ?_
  refine go_bipush (pc := 4) (v := 6) C dX4_add_4 (by decide) ?_
  refine go_ic_lt (pc := 6) C dX4_add_6 11 (by decide) (fun c1 => ?_) (fun c1 => ?_)
  · have hf := hf.1 c1
    refine go_aload_n (pc := 11) C dX4_add_11 0 rfl rfl ?_
    refine ge_X4_X4_0 (pc := 12) C dX4_add_12 ?_
    refine go_aload_n (pc := 15) C dX4_add_15 0 rfl rfl ?_
    refine ge_X4_X4_2 (pc := 16) C dX4_add_16 ?_
    refine go_iload_n (pc := 19) C dX4_add_19 1 rfl rfl ?_
    refine as_X4_0 (pc := 20) C hf.1 dX4_add_20 (fun S2 e3 => ?_)
    have hf := hf.2 S2 e3
    refine go_aload_n (pc := 21) C dX4_add_21 0 rfl rfl ?_
    refine ge_X4_X4_1 (pc := 22) C dX4_add_22 ?_
    refine go_aload_n (pc := 25) C dX4_add_25 0 rfl rfl ?_
    refine ge_X4_X4_2 (pc := 26) C dX4_add_26 ?_
    refine go_iload_n (pc := 29) C dX4_add_29 2 rfl rfl ?_
    refine as_X4_1 (pc := 30) C hf.1 dX4_add_30 (fun S4 e5 => ?_)
    have hf := hf.2 S4 e5
    refine go_aload_n (pc := 31) C dX4_add_31 0 rfl rfl ?_
    refine go_dup (pc := 32) C dX4_add_32 rfl ?_
    refine ge_X4_X4_2 (pc := 33) C dX4_add_33 ?_
    refine go_iconst (pc := 36) (v := 1) C dX4_add_36 (by decide) ?_
    refine go_iadd (pc := 37) C dX4_add_37 ?_
    refine pu_X4_X4_2 (pc := 38) C dX4_add_38 (fun S6 e7 => ?_)
    have hf := hf S6 e7
    refine go_iconst (pc := 41) (v := 1) C dX4_add_41 (by decide) ?_
    exact hR _ _ _ _ dX4_add_42 (Or.inr rfl) hf
  · have hf := hf.2 c1
    refine go_iconst (pc := 9) (v := 0) C dX4_add_9 (by decide) ?_
    exact hR _ _ _ _ dX4_add_10 (Or.inl rfl) hf
set_option maxRecDepth 100000 in
set_option maxHeartbeats 4000000 in
theorem ok_X4_add {p1 : Int32} {p2 : Int32} {S : tq_St} {K : Int32 → tq_St → Prop} (hf : wp_X4_add p1 p2 S K) : tq_Mi yX4_add cX4_add 3 (some .boolean) 1 (fun a z => [.ref (a.1 20 0), .int p1, .int p2]) S K :=
  tq_mkZ (by decide) (fun _ _ => Nat.le_of_ble_eq_true rfl) (fun X C hR => wk_X4_add C hR  hf)
set_option maxRecDepth 100000 in
set_option maxHeartbeats 4000000 in
theorem wk_X3_renew {X : tq_Cx} {o : Nat} {p1 : Int32} {p2 : Int32} {S : tq_St} {K : tq_St → Prop} (C : tq_C X cX3_renew 3 RX3 2) (hR : tq_Rv X cX3_renew 3 K) (ho : 23 ≤ o ∧ o < 27) (hf : wp_X3_renew o p1 p2 S K) : Go X 3 S 0 [(0, .ref ((tq_la X).1 o 0)), (1, .int p1), (2, .int p2)] [] := by
  refine go_aload_n (pc := 0) C dX3_renew_0 0 rfl rfl ?_
  refine ge_X3_X3_0 (pc := 1) C ho dX3_renew_1 ?_
  refine go_iconst (pc := 4) (v := 0) C dX3_renew_4 (by decide) ?_
  refine go_cSv (pc := 5) C cs_X3_15 (ok_J7_fill_53178 ho hf) rfl rfl rfl (by decide) rfl dX3_renew_5 (fun S2 hf => ?_)
  refine go_aload_n (pc := 8) C dX3_renew_8 0 rfl rfl ?_
  refine go_iconst (pc := 9) (v := 1) C dX3_renew_9 (by decide) ?_
  refine pu_X3_X3_1 (pc := 10) C ho (Or.inr rfl) dX3_renew_10 (fun S4 e5 => ?_)
  have hf := hf S4 e5
  refine go_aload_n (pc := 13) C dX3_renew_13 0 rfl rfl ?_
  refine go_iload_n (pc := 14) C dX3_renew_14 1 rfl rfl ?_
  refine pu_X3_X3_2 (pc := 15) C ho dX3_renew_15 (fun S6 e7 => ?_)
  have hf := hf S6 e7
  refine go_aload_n (pc := 18) C dX3_renew_18 0 rfl rfl ?_
  refine go_iload_n (pc := 19) C dX3_renew_19 2 rfl rfl ?_
  refine pu_X3_X3_3 (pc := 20) C ho dX3_renew_20 (fun S8 e9 => ?_)
  have hf := hf S8 e9
  exact hR _ _ _ dX3_renew_23 hf
set_option maxRecDepth 100000 in
set_option maxHeartbeats 4000000 in
theorem ok_X3_renew {o : Nat} {p1 : Int32} {p2 : Int32} {S : tq_St} {K : tq_St → Prop} (ho : 23 ≤ o ∧ o < 27) (hf : wp_X3_renew o p1 p2 S K) : tq_Mv yX3_renew cX3_renew 3 none 2 (fun a z => [.ref (a.1 o 0), .int p1, .int p2]) S K :=
  tq_mkV (by decide) (fun _ _ => Nat.le_of_ble_eq_true rfl) (fun X C hR => wk_X3_renew C hR ho hf)
